/-- cells that cannot be told apart -/
theorem zc_eqv {g : zG} {t L : Nat} {f f2 : Int → Int} (h : ∀ j : Int, 0 ≤ j → j < L → f j = f2 j) (a : Nat) (H : Heap) (hz : va_at g.2.1 vwCl (a, zc g (zP t L f)) H) : va_at g.2.1 vwCl (a, zc g (zP t L f2)) H := by
  have e : vp_cell (g.2.2 t) (L, .inl (fun j : Nat => zI (f (j : Int)))) = vp_cell (g.2.2 t) (L, .inl (fun j : Nat => zI (f2 (j : Int)))) := by
    rw [vp_cell_i, vp_cell_i]
    unfold arrV
    congr 2
    funext j
    dsimp only
    rw [h j.val (by omega) (by omega)]
  show H[a]? = some _
  rw [← e]
  exact hz
theorem x_sim {y : MethodName} {cc : ByteArray} {ml : Nat} {ret : Option FieldType} {h mc ms n0 : Nat} {Ret : zRT} {K : zKT} (C : zX y cc ml ret h mc ms n0 Ret K) {pc : Nat} {Lo : List (Option zV)} {st : List zV} {n : Nat} {σ : zS} {w : Nat} {a : Int} {L : Nat} {f : Int → Int} (f2 : Int → Int) {t : Nat} (ho : σ a = zP t L f) (hf : ∀ j : Int, 0 ≤ j → j < L → f j = f2 j) (k : K pc Lo st n (zsu σ a (zP t L f2)) w) : K pc Lo st n σ w := by
  obtain ⟨p, l, e, R, s, m, args, below, meth, c, Q, g, ⟨hx, hb, hml, hown, hts, hK, hin⟩, hR, hsz, rfl, hrt⟩ := C
  intro ls H locs hn hl hP hS
  refine k ls H locs hn hl ⟨hP.1, hP.2.1, fun q x hq => ?_⟩ hS
  rw [zW_get] at hq
  by_cases hq1 : q < n
  · rw [if_pos hq1] at hq
    cases hq
    have h1 := hP.2.2 q _ (by rw [zW_get, if_pos hq1])
    by_cases e1 : (q : Int) + 1 = a
    · rw [e1, zsu_s]
      rw [e1, ho] at h1
      exact zc_eqv hf _ _ h1
    · rw [zsu_n _ _ e1]
      exact h1
  · rw [if_neg hq1] at hq
    cases hq
theorem zloop (P : Nat → Prop) (N : Nat) (h : ∀ k : Nat, k ≤ N → (k < N → P (k + 1)) → P k) : ∀ k : Nat, k ≤ N → P k := by
  have key : ∀ m k : Nat, k + m = N → P k := by
    intro m
    induction m with
    | zero => exact fun k hk => h k (by omega) (fun q => by omega)
    | succ m ih => exact fun k hk => h k (by omega) (fun _ => ih (k + 1) (by omega))
  exact fun k hk => key (N - k) k (by omega)
def zsm (f : Int → Int) : Nat → Int
  | 0 => 0
  | k + 1 => zsm f k + f (k : Int)
def zfo {α : Type} (f : α → Int → α) (a : α) : Nat → α
  | 0 => a
  | k + 1 => f (zfo f a k) (k : Int)
/-- a square of entries is laid anew -/
def zsq (e : Int → Int) (row col q : Int) (v : Int → Int) : Int → Int := fun j => if (row ≤ j / 16 ∧ j / 16 < row + q) ∧ col ≤ j % 16 ∧ j % 16 < col + q then v j else e j
def zsp (e : Int → Int) (row col q i k : Int) (v : Int → Int) : Int → Int := fun j => if col ≤ j % 16 ∧ ((row ≤ j / 16 ∧ j / 16 < row + i ∧ j % 16 < col + q) ∨ (j / 16 = row + i ∧ j % 16 < col + k)) then v j else e j
theorem zsp_0 (e : Int → Int) (row col q : Int) (v : Int → Int) : zsp e row col q 0 0 v = e := by
  funext j
  unfold zsp
  rw [if_neg (by omega)]
theorem zsp_s (e : Int → Int) {row col q i k : Int} (v : Int → Int) {x : Int} (hc : 0 ≤ col ∧ 0 ≤ k ∧ k < q ∧ col + q ≤ 16) (hx : x = v ((row + i) * 16 + (col + k))) : zu (zsp e row col q i k v) ((row + i) * 16 + (col + k)) x = zsp e row col q i (k + 1) v := by
  subst hx
  funext j
  unfold zu zsp
  by_cases h : j = (row + i) * 16 + (col + k)
  · rw [if_pos h, if_pos (by omega), h]
  · rw [if_neg h]
    by_cases h2 : col ≤ j % 16 ∧ ((row ≤ j / 16 ∧ j / 16 < row + i ∧ j % 16 < col + q) ∨ (j / 16 = row + i ∧ j % 16 < col + k))
    · rw [if_pos h2, if_pos (by omega)]
    · rw [if_neg h2, if_neg (by omega)]
theorem zsp_r (e : Int → Int) {row col q i : Int} (hi : 0 ≤ i) (v : Int → Int) : zsp e row col q i q v = zsp e row col q (i + 1) 0 v := by
  funext j
  unfold zsp
  by_cases h2 : col ≤ j % 16 ∧ ((row ≤ j / 16 ∧ j / 16 < row + i ∧ j % 16 < col + q) ∨ (j / 16 = row + i ∧ j % 16 < col + q))
  · rw [if_pos h2, if_pos (by omega)]
  · rw [if_neg h2, if_neg (by omega)]
theorem zsp_e (e : Int → Int) (row col q : Int) (v : Int → Int) : zsp e row col q q 0 v = zsq e row col q v := by
  funext j
  unfold zsp zsq
  by_cases h2 : (row ≤ j / 16 ∧ j / 16 < row + q) ∧ col ≤ j % 16 ∧ j % 16 < col + q
  · rw [if_pos h2, if_pos (by omega)]
  · rw [if_neg h2, if_neg (by omega)]
theorem zpart {d row p : Int} (hd : 0 ≤ d ∧ d ≤ 2) (hp : 0 ≤ p ∧ p < 4) (hr : 0 ≤ row ∧ row + zsz d ≤ 16) : (0 ≤ row + p / 2 * zsz (d + 1) ∧ row + p / 2 * zsz (d + 1) + zsz (d + 1) ≤ 16) ∧ 0 ≤ row + p % 2 * zsz (d + 1) ∧ row + p % 2 * zsz (d + 1) + zsz (d + 1) ≤ 16 := by
  have h3 : d = 0 ∨ d = 1 ∨ d = 2 := by omega
  rcases h3 with rfl | rfl | rfl
  · have e0 : zsz 0 = 16 := rfl
    have e1 : zsz (0 + 1) = 8 := rfl
    rw [e0] at hr
    rw [e1]
    omega
  · have e0 : zsz 1 = 8 := rfl
    have e1 : zsz (1 + 1) = 4 := rfl
    rw [e0] at hr
    rw [e1]
    omega
  · have e0 : zsz 2 = 4 := rfl
    have e1 : zsz (2 + 1) = 2 := rfl
    rw [e0] at hr
    rw [e1]
    omega
theorem x_mmax {y : MethodName} {cc : ByteArray} {ml : Nat} {ret : Option FieldType} {h mc ms n0 : Nat} {Ret : zRT} {K : zKT} (C : zX y cc ml ret h mc ms n0 Ret K) {pc : Nat} {Lo : List (Option zV)} {st : List zV} {n : Nat} {σ : zS} {w : Nat} {idx : Nat} {a b : Int} (d : decode cc pc = .ok (.invokestatic idx, 3)) (hw : Cond.methodLink y.cls idx Lib.Math.max.name ∈ zGW ∧ Cond.static Lib.Math.max.name ∈ zGW ∧ Cond.initialized "java/lang/Math" ∈ zGW ∧ Cond.code Lib.Math.max.name Lib.Math.max.code 2 (some .int) ∈ zGW) (h1 : 1 ≤ h) (hc : zcat st ≤ 8) (ha : (-2147483648 ≤ a ∧ a < 2147483648) ∧ -2147483648 ≤ b ∧ b < 2147483648) (k : K (pc + 3) Lo (zi (max a b) :: st) n σ w) : K pc Lo (zi b :: zi a :: st) n σ w := by
  obtain ⟨p, l, e, R, s, m, args, below, meth, c, Q, g, ⟨hx, hb, hml, hown, hts, hK, hin⟩, hR, hsz, rfl, hrt⟩ := C
  intro ls H locs hn hl hP hS
  have k := k ls H locs hn hl hP hS
  have e9 := zcat_eq g st
  refine va_mmax hx hb (by rw [hml]; exact hl.1.symm) hown (hts _ hw.1) (hts _ hw.2.1) (hts _ hw.2.2.1) (hts _ hw.2.2.2) (by omega) (by omega) (by omega) (by omega) d ?_
  have e8 : (if zI a < zI b then zI b else zI a) = zI (max a b) := by
    by_cases q : a < b
    · rw [if_pos ((zI_lt ha).mpr q), show max a b = b by omega]
    · rw [if_neg (fun z => q ((zI_lt ha).mp z)), show max a b = a by omega]
  rw [e8]
  exact k
theorem x_mmin {y : MethodName} {cc : ByteArray} {ml : Nat} {ret : Option FieldType} {h mc ms n0 : Nat} {Ret : zRT} {K : zKT} (C : zX y cc ml ret h mc ms n0 Ret K) {pc : Nat} {Lo : List (Option zV)} {st : List zV} {n : Nat} {σ : zS} {w : Nat} {idx : Nat} {a b : Int} (d : decode cc pc = .ok (.invokestatic idx, 3)) (hw : Cond.methodLink y.cls idx Lib.Math.min.name ∈ zGW ∧ Cond.static Lib.Math.min.name ∈ zGW ∧ Cond.initialized "java/lang/Math" ∈ zGW ∧ Cond.code Lib.Math.min.name Lib.Math.min.code 2 (some .int) ∈ zGW) (h1 : 1 ≤ h) (hc : zcat st ≤ 8) (ha : (-2147483648 ≤ a ∧ a < 2147483648) ∧ -2147483648 ≤ b ∧ b < 2147483648) (k : K (pc + 3) Lo (zi (min a b) :: st) n σ w) : K pc Lo (zi b :: zi a :: st) n σ w := by
  obtain ⟨p, l, e, R, s, m, args, below, meth, c, Q, g, ⟨hx, hb, hml, hown, hts, hK, hin⟩, hR, hsz, rfl, hrt⟩ := C
  intro ls H locs hn hl hP hS
  have k := k ls H locs hn hl hP hS
  have e9 := zcat_eq g st
  refine va_mmin hx hb (by rw [hml]; exact hl.1.symm) hown (hts _ hw.1) (hts _ hw.2.1) (hts _ hw.2.2.1) (hts _ hw.2.2.2) (by omega) (by omega) (by omega) (by omega) d ?_
  have e8 : (if zI b < zI a then zI b else zI a) = zI (min a b) := by
    by_cases q : b < a
    · rw [if_pos ((zI_lt ⟨ha.2, ha.1⟩).mpr q), show min a b = b by omega]
    · rw [if_neg (fun z => q ((zI_lt ⟨ha.2, ha.1⟩).mp z)), show min a b = a by omega]
  rw [e8]
  exact k
theorem x_mabs {y : MethodName} {cc : ByteArray} {ml : Nat} {ret : Option FieldType} {h mc ms n0 : Nat} {Ret : zRT} {K : zKT} (C : zX y cc ml ret h mc ms n0 Ret K) {pc : Nat} {Lo : List (Option zV)} {st : List zV} {n : Nat} {σ : zS} {w : Nat} {idx : Nat} {a : Int} (d : decode cc pc = .ok (.invokestatic idx, 3)) (hw : Cond.methodLink y.cls idx Lib.Math.abs.name ∈ zGW ∧ Cond.static Lib.Math.abs.name ∈ zGW ∧ Cond.initialized "java/lang/Math" ∈ zGW ∧ Cond.code Lib.Math.abs.name Lib.Math.abs.code 1 (some .int) ∈ zGW) (h1 : 1 ≤ h) (hc : zcat st ≤ 8) (ha : -2147483648 ≤ a ∧ a < 2147483648) (k : K (pc + 3) Lo (zi (max a (-a)) :: st) n σ w) : K pc Lo (zi a :: st) n σ w := by
  obtain ⟨p, l, e, R, s, m, args, below, meth, c, Q, g, ⟨hx, hb, hml, hown, hts, hK, hin⟩, hR, hsz, rfl, hrt⟩ := C
  intro ls H locs hn hl hP hS
  have k := k ls H locs hn hl hP hS
  have e9 := zcat_eq g st
  refine va_mabs hx hb (by rw [hml]; exact hl.1.symm) hown (hts _ hw.1) (hts _ hw.2.1) (hts _ hw.2.2.1) (hts _ hw.2.2.2) (by omega) (by omega) (by omega) (by omega) d ?_
  have e8 : (if 0 ≤ zI a then zI a else 0 - zI a) = zI (max a (-a)) := by
    rw [← zI_0]
    by_cases q : 0 ≤ a
    · rw [if_pos ((zI_le (by omega)).mpr q), show max a (-a) = a by omega]
    · rw [if_neg (fun z => q ((zI_le (by omega)).mp z)), ← zI_sub, show max a (-a) = 0 - a by omega]
  rw [e8]
  exact k
theorem x_mabsl {y : MethodName} {cc : ByteArray} {ml : Nat} {ret : Option FieldType} {h mc ms n0 : Nat} {Ret : zRT} {K : zKT} (C : zX y cc ml ret h mc ms n0 Ret K) {pc : Nat} {Lo : List (Option zV)} {st : List zV} {n : Nat} {σ : zS} {w : Nat} {idx : Nat} {a : Int} (d : decode cc pc = .ok (.invokestatic idx, 3)) (hw : Cond.methodLink y.cls idx Lib.MathLoose.abs_long.x ∈ zGW ∧ Cond.static Lib.MathLoose.abs_long.x ∈ zGW ∧ Cond.initialized "java/lang/Math" ∈ zGW ∧ Cond.code Lib.MathLoose.abs_long.x Lib.MathLoose.abs_long.code 2 (some .long) ∈ zGW) (h1 : 1 ≤ h) (hc : zcat st ≤ 8) (ha : -9223372036854775808 ≤ a ∧ a < 9223372036854775808) (k : K (pc + 3) Lo (zl (max a (-a)) :: st) n σ w) : K pc Lo (zl a :: st) n σ w := by
  obtain ⟨p, l, e, R, s, m, args, below, meth, c, Q, g, ⟨hx, hb, hml, hown, hts, hK, hin⟩, hR, hsz, rfl, hrt⟩ := C
  intro ls H locs hn hl hP hS
  have k := k ls H locs hn hl hP hS
  have e9 := zcat_eq g st
  refine va_mabs_long hx hb (by rw [hml]; exact hl.1.symm) hown (hts _ hw.1) (hts _ hw.2.1) (hts _ hw.2.2.1) (hts _ hw.2.2.2) (by omega) (by omega) (by omega) (by omega) d ?_
  have e8 : (if 0 < zJ a then zJ a else -zJ a) = zJ (max a (-a)) := by
    rw [show (0 : Int64) = zJ 0 from rfl]
    by_cases q : 0 < a
    · rw [if_pos ((zJ_lt (by omega)).mpr q), show max a (-a) = a by omega]
    · rw [if_neg (fun z => q ((zJ_lt (by omega)).mp z)), ← zJ_neg, show max a (-a) = -a by omega]
  rw [e8]
  exact k
section
variable {n : Nat} {σ : zS}
theorem ctX1_trace {h : Int} {e t : Int → Int} (hm : isM σ n h e t) : zCt 3 0 0 yX1_trace cX1_trace 3 (some .int) [zr h] n σ (some (zi (zsm (fun k => e (k * 16 + k)) 16))) n σ := by
  obtain ⟨hM, hE, hT, hh⟩ := hm
  refine zCt.of (by decide) rfl (Nat.le_of_ble_eq_true rfl) (fun K C => ?_)
  have loop : ∀ k : Nat, k ≤ 16 → K 4 [some (zr h), some (zi (zsm (fun k => e (k * 16 + k)) k)), some (zi (k : Int))] [] n σ 0 := by
    refine zloop _ 16 (fun k hk ih => ?_)
    refine x_iload_n C dX1_trace_4 rfl ?_
    refine x_bipush C dX1_trace_5 (by decide) ?_
    refine x_icmp_ge (tgt := 25) C dX1_trace_7 (by decide) (by omega) (fun c7 => ?_) (fun c7 => ?_)
    · refine x_iload_n C dX1_trace_25 rfl ?_
      exact x_iret (st := []) C dX1_trace_26 rfl ⟨congrArg (fun z => some (zi z)) (by rw [show k = 16 by omega]), rfl, rfl, rfl⟩
    · refine x_iload_n C dX1_trace_10 rfl ?_
      refine x_aload_n C dX1_trace_11 rfl ?_
      refine x_iload_n C dX1_trace_12 rfl ?_
      refine x_iload_n C dX1_trace_13 rfl ?_
      refine x_callV C dX1_trace_14 (ctX1_entryAt ⟨hM, hE, hT, hh⟩ _ _ (by omega) (by omega)) okX1_entryAt lkX1_96 ⟨⟨hM, rfl, rfl⟩, (by omega)⟩ ⟨by decide, rfl, rfl, Nat.le_of_ble_eq_true rfl⟩ rfl (Or.inl ⟨rfl, rfl⟩) ?_
      refine x_iadd C dX1_trace_17 ?_
      refine x_istore_n C dX1_trace_18 (by decide) ?_
      refine x_iinc C dX1_trace_19 rfl (by decide) ?_
      refine x_goto (tgt := 4) C dX1_trace_22 (by decide) ?_
      exact ih (by omega)
  refine x_iconst C dX1_trace_0 ?_
  refine x_istore_n C dX1_trace_1 (by decide) ?_
  refine x_iconst C dX1_trace_2 ?_
  refine x_istore_n C dX1_trace_3 (by decide) ?_
  exact loop 0 (by omega)
theorem ctX1_filledEntries {h : Int} {e t : Int → Int} (hm : isM σ n h e t) (he : ∀ j, -1000000 ≤ e j ∧ e j ≤ 1000000) : zCt 1 0 0 yX1_filledEntries cX1_filledEntries 3 (some .int) [zr h] n σ (some (zi (zsm (fun j => if e j ≠ 0 then 1 else 0) 256))) n σ := by
  obtain ⟨hM, hE, hT, hh⟩ := hm
  refine zCt.of (by decide) rfl (Nat.le_of_ble_eq_true rfl) (fun K C => ?_)
  have loop : ∀ k : Nat, k ≤ 256 → K 4 [some (zr h), some (zi (zsm (fun j => if e j ≠ 0 then 1 else 0) k)), some (zi (k : Int))] [] n σ 0 := by
    refine zloop _ 256 (fun k hk ih => ?_)
    refine x_iload_n C dX1_filledEntries_4 rfl ?_
    refine x_sipush C dX1_filledEntries_5 (by decide) ?_
    refine x_icmp_ge (tgt := 34) C dX1_filledEntries_8 (by decide) (by omega) (fun c8 => ?_) (fun c8 => ?_)
    · refine x_iload_n C dX1_filledEntries_34 rfl ?_
      exact x_iret (st := []) C dX1_filledEntries_35 rfl ⟨congrArg (fun z => some (zi z)) (by rw [show k = 256 by omega]), rfl, rfl, rfl⟩
    · refine x_iload_n C dX1_filledEntries_11 rfl ?_
      refine x_aload_n C dX1_filledEntries_12 rfl ?_
      refine x_getfield C dX1_filledEntries_13 lfX1_9 hM (by omega) rfl ?_
      refine x_iload_n C dX1_filledEntries_16 rfl ?_
      refine x_iaload C dX1_filledEntries_17 hE (by omega) ?_
      refine x_if_eq (tgt := 25) C dX1_filledEntries_18 (by decide) ⟨by have := (he k).1; omega, by have := (he k).2; omega⟩ (fun c18 => ?_) (fun c18 => ?_)
      · have hstep : zsm (fun j => if e j ≠ 0 then 1 else 0) (k + 1) = zsm (fun j => if e j ≠ 0 then 1 else 0) k + 0 := congrArg (zsm (fun j => if e j ≠ 0 then 1 else 0) k + ·) (if_neg (by omega))
        refine x_iconst C dX1_filledEntries_25 ?_
        refine x_iadd C dX1_filledEntries_26 ?_
        refine x_istore_n C dX1_filledEntries_27 (by decide) ?_
        rw [← hstep]
        refine x_iinc C dX1_filledEntries_28 rfl (by decide) ?_
        refine x_goto (tgt := 4) C dX1_filledEntries_31 (by decide) ?_
        exact ih (by omega)
      · have hstep : zsm (fun j => if e j ≠ 0 then 1 else 0) (k + 1) = zsm (fun j => if e j ≠ 0 then 1 else 0) k + 1 := congrArg (zsm (fun j => if e j ≠ 0 then 1 else 0) k + ·) (if_pos (by omega))
        refine x_iconst C dX1_filledEntries_21 ?_
        refine x_goto (tgt := 26) C dX1_filledEntries_22 (by decide) ?_
        refine x_iadd C dX1_filledEntries_26 ?_
        refine x_istore_n C dX1_filledEntries_27 (by decide) ?_
        rw [← hstep]
        refine x_iinc C dX1_filledEntries_28 rfl (by decide) ?_
        refine x_goto (tgt := 4) C dX1_filledEntries_31 (by decide) ?_
        exact ih (by omega)
  refine x_iconst C dX1_filledEntries_0 ?_
  refine x_istore_n C dX1_filledEntries_1 (by decide) ?_
  refine x_iconst C dX1_filledEntries_2 ?_
  refine x_istore_n C dX1_filledEntries_3 (by decide) ?_
  exact loop 0 (by omega)
end
