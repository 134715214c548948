def zallz (e : Int → Int) (row col q : Int) : Prop := ∀ i j : Int, row ≤ i → i < row + q → col ≤ j → j < col + q → e (i * 16 + j) = 0
def zoneP (e : Int → Int) (row col q : Int) : Prop := ∃ r c : Int, zfr e row col q r ∧ zfc e row col q c ∧ ∀ i j : Int, row ≤ i → i < row + q → col ≤ j → j < col + q → e (i * 16 + j) * e (r * 16 + c) = e (i * 16 + c) * e (r * 16 + j)
/-- 2: all are 0; 1: one product; 0 -/
noncomputable def zone (e : Int → Int) (row col q : Int) : Int := @ite _ (zallz e row col q) (Classical.propDecidable _) 2 (@ite _ (zoneP e row col q) (Classical.propDecidable _) 1 0)
theorem zone_2 {e : Int → Int} {row col q : Int} (h : zallz e row col q) : zone e row col q = 2 := if_pos h
theorem zone_1 {e : Int → Int} {row col q : Int} (h : ¬ zallz e row col q) (h2 : zoneP e row col q) : zone e row col q = 1 := (if_neg h).trans (if_pos h2)
theorem zone_0 {e : Int → Int} {row col q : Int} (h : ¬ zallz e row col q) (h2 : ¬ zoneP e row col q) : zone e row col q = 0 := (if_neg h).trans (if_neg h2)
theorem zone_in (e : Int → Int) (row col q : Int) : zone e row col q = 0 ∨ zone e row col q = 1 ∨ zone e row col q = 2 := by
  by_cases h : zallz e row col q
  · exact Or.inr (Or.inr (zone_2 h))
  · by_cases h2 : zoneP e row col q
    · exact Or.inr (Or.inl (zone_1 h h2))
    · exact Or.inl (zone_0 h h2)
section
variable {n : Nat} {σ : zS}
theorem ctX1_toldByOne {h : Int} {e t : Int → Int} (hm : isM σ n h e t) (he : zBd e) (row col : Int) (q : Nat) (hr : 0 ≤ row ∧ row + q ≤ 16) (hc : 0 ≤ col ∧ col + q ≤ 16) : zCt 3 0 0 yX1_toldByOne cX1_toldByOne 10 (some .int) [zr h, zi row, zi col, zi (q : Int)] n σ (some (zi (zone e row col q))) n σ := by
  obtain ⟨hM, hE, hT, hh⟩ := hm
  obtain ⟨r, hp⟩ := zfr_ex e row col q
  obtain ⟨c, hq⟩ := zfc_ex e row col q
  have hp1 : r = -1 ∨ (row ≤ r ∧ r < row + q) := hp.elim (fun z => Or.inl z.1) (fun z => Or.inr z.1)
  have hq1 : c = -1 ∨ (col ≤ c ∧ c < col + q) := hq.elim (fun z => Or.inl z.1) (fun z => Or.inr z.1)
  have hz : r < 0 ∨ c < 0 → zallz e row col q := by
    intro z
    rcases z with z | z
    · rcases hp with ⟨-, a⟩ | ⟨a, -⟩
      · exact a
      · omega
    · rcases hq with ⟨-, a⟩ | ⟨a, -⟩
      · exact a
      · omega
  have hnz : 0 ≤ r → ¬ zallz e row col q := by
    intro z a
    rcases hp with ⟨rfl, -⟩ | ⟨b, ⟨j, b2, b3⟩, -⟩
    · omega
    · exact b3 (a r j b.1 b.2 b2.1 b2.2)
  have huniq : zoneP e row col q → ∀ i j : Int, row ≤ i → i < row + q → col ≤ j → j < col + q → e (i * 16 + j) * e (r * 16 + c) = e (i * 16 + c) * e (r * 16 + j) := by
    rintro ⟨r2, c2, a1, a2, a3⟩
    rw [zfr_one hr.1 a1 hp, zfc_one hc.1 a2 hq] at a3
    exact a3
  refine zCt.of (by decide) rfl (Nat.le_of_ble_eq_true rfl) (fun K C => ?_)
  have loop : 0 ≤ r → 0 ≤ c → ∀ i : Nat, i ≤ q → (∀ a b : Int, row ≤ a → a < row + i → col ≤ b → b < col + q → e (a * 16 + b) * e (r * 16 + c) = e (a * 16 + c) * e (r * 16 + b)) → K 44 [some (zr h), some (zi row), some (zi col), some (zi (q : Int)), some (zi r), some (zi c), some (zl (e (r * 16 + c))), none, some (zi (row + i)), none] [] n σ 0 := by
    intro hr0 hc0
    refine zloop _ q (fun i hi ih hall => ?_)
    have loop2 : i < q → ∀ j : Nat, j ≤ q → (∀ b : Int, col ≤ b → b < col + j → e ((row + i) * 16 + b) * e (r * 16 + c) = e ((row + i) * 16 + c) * e (r * 16 + b)) → K 55 [some (zr h), some (zi row), some (zi col), some (zi (q : Int)), some (zi r), some (zi c), some (zl (e (r * 16 + c))), none, some (zi (row + i)), some (zi (col + j))] [] n σ 0 := by
      intro hi2
      refine zloop _ q (fun j hj ih2 hall2 => ?_)
      refine x_iload C dX1_toldByOne_55 rfl ?_
      refine x_iload_n C dX1_toldByOne_57 rfl ?_
      refine x_iload_n C dX1_toldByOne_58 rfl ?_
      refine x_iadd C dX1_toldByOne_59 ?_
      refine x_icmp_ge (tgt := 106) C dX1_toldByOne_60 (by decide) (by omega) (fun c60 => ?_) (fun c60 => ?_)
      · refine x_iinc C dX1_toldByOne_106 rfl (by decide) ?_
        refine x_goto (tgt := 44) C dX1_toldByOne_109 (by decide) ?_
        rw [Int.add_assoc row]
        refine x_weak C (Lo' := [some (zr h), some (zi row), some (zi col), some (zi (q : Int)), some (zi r), some (zi c), some (zl (e (r * 16 + c))), none, some (zi (row + ((i : Int) + 1))), none]) (fun j u hj => by match j, hj with | 0, hj => exact hj | 1, hj => exact hj | 2, hj => exact hj | 3, hj => exact hj | 4, hj => exact hj | 5, hj => exact hj | 6, hj => exact hj | 8, hj => exact hj | j + 10, hj => exact absurd hj (by simp [zg])) ?_
        exact ih (by omega) (fun a b h1 h2 h3 h4 => by
          by_cases z : a < row + i
          · exact hall a b h1 z h3 h4
          · rw [show a = row + i by omega]; exact hall2 b h3 (by omega))
      · refine x_aload_n C dX1_toldByOne_63 rfl ?_
        refine x_iload C dX1_toldByOne_64 rfl ?_
        refine x_iload C dX1_toldByOne_66 rfl ?_
        refine x_callV C dX1_toldByOne_68 (ctX1_entryAt ⟨hM, hE, hT, hh⟩ _ _ (by omega) (by omega)) okX1_entryAt lkX1_96 ⟨⟨hM, rfl, rfl⟩, (by omega)⟩ ⟨by decide, rfl, rfl, Nat.le_of_ble_eq_true rfl⟩ rfl (Or.inl ⟨rfl, rfl⟩) ?_
        refine x_i2l C dX1_toldByOne_71 (by have := he ((row + i) * 16 + (col + j)); omega) ?_
        refine x_lload C dX1_toldByOne_72 rfl ?_
        refine x_lmul C dX1_toldByOne_74 ?_
        refine x_aload_n C dX1_toldByOne_75 rfl ?_
        refine x_iload C dX1_toldByOne_76 rfl ?_
        refine x_iload C dX1_toldByOne_78 rfl ?_
        refine x_callV C dX1_toldByOne_80 (ctX1_entryAt ⟨hM, hE, hT, hh⟩ _ _ (by omega) (by omega)) okX1_entryAt lkX1_96 ⟨⟨hM, rfl, rfl⟩, (by omega)⟩ ⟨by decide, rfl, rfl, Nat.le_of_ble_eq_true rfl⟩ rfl (Or.inl ⟨rfl, rfl⟩) ?_
        refine x_i2l C dX1_toldByOne_83 (by have := he ((row + i) * 16 + c); omega) ?_
        refine x_aload_n C dX1_toldByOne_84 rfl ?_
        refine x_iload C dX1_toldByOne_85 rfl ?_
        refine x_iload C dX1_toldByOne_87 rfl ?_
        refine x_callV C dX1_toldByOne_89 (ctX1_entryAt ⟨hM, hE, hT, hh⟩ _ _ (by omega) (by omega)) okX1_entryAt lkX1_96 ⟨⟨hM, rfl, rfl⟩, (by omega)⟩ ⟨by decide, rfl, rfl, Nat.le_of_ble_eq_true rfl⟩ rfl (Or.inl ⟨rfl, rfl⟩) ?_
        refine x_i2l C dX1_toldByOne_92 (by have := he (r * 16 + (col + j)); omega) ?_
        refine x_lmul C dX1_toldByOne_93 ?_
        refine x_lcmp C dX1_toldByOne_94 (by have := zmulM (he ((row + i) * 16 + (col + j))) (he (r * 16 + c)); have := zmulM (he ((row + i) * 16 + c)) (he (r * 16 + (col + j))); omega) (fun r94 q94 => ?_)
        refine x_if_eq (tgt := 100) C dX1_toldByOne_95 (by decide) (by omega) (fun c95 => ?_) (fun c95 => ?_)
        · refine x_iinc C dX1_toldByOne_100 rfl (by decide) ?_
          refine x_goto (tgt := 55) C dX1_toldByOne_103 (by decide) ?_
          rw [Int.add_assoc col]
          exact ih2 (by omega) (fun b h1 h2 => by
            by_cases z : b < col + j
            · exact hall2 b h1 z
            · rw [show b = col + j by omega]; omega)
        · refine x_iconst C dX1_toldByOne_98 ?_
          exact x_iret (st := []) C dX1_toldByOne_99 rfl ⟨congrArg (fun z => some (zi z)) (zone_0 (hnz hr0) (fun z => by have := huniq z (row + i) (col + j) (by omega) (by omega) (by omega) (by omega); omega)).symm, rfl, rfl, rfl⟩
    refine x_iload C dX1_toldByOne_44 rfl ?_
    refine x_iload_n C dX1_toldByOne_46 rfl ?_
    refine x_iload_n C dX1_toldByOne_47 rfl ?_
    refine x_iadd C dX1_toldByOne_48 ?_
    refine x_icmp_ge (tgt := 112) C dX1_toldByOne_49 (by decide) (by omega) (fun c49 => ?_) (fun c49 => ?_)
    · refine x_iconst C dX1_toldByOne_112 ?_
      exact x_iret (st := []) C dX1_toldByOne_113 rfl ⟨congrArg (fun z => some (zi z)) (zone_1 (hnz hr0) ⟨r, c, hp, hq, fun a b h1 h2 h3 h4 => hall a b h1 (by omega) h3 h4⟩).symm, rfl, rfl, rfl⟩
    · refine x_iload_n C dX1_toldByOne_52 rfl ?_
      refine x_istore C dX1_toldByOne_53 (by decide) ?_
      have l2 := loop2 (by omega) 0 (by omega) (fun b h1 h2 => by omega)
      rw [show col + ((0 : Nat) : Int) = col from Int.add_zero col] at l2
      exact l2
  refine x_aload_n C dX1_toldByOne_0 rfl ?_
  refine x_iload_n C dX1_toldByOne_1 rfl ?_
  refine x_iload_n C dX1_toldByOne_2 rfl ?_
  refine x_iload_n C dX1_toldByOne_3 rfl ?_
  refine x_callV C dX1_toldByOne_4 (ctX1_firstFilledRow ⟨hM, hE, hT, hh⟩ he row col q hr hc hp) okX1_firstFilledRow lkX1_90 ⟨⟨hM, rfl, rfl⟩, (by omega)⟩ ⟨by decide, rfl, rfl, Nat.le_of_ble_eq_true rfl⟩ rfl (Or.inl ⟨rfl, rfl⟩) ?_
  refine x_istore C dX1_toldByOne_7 (by decide) ?_
  refine x_aload_n C dX1_toldByOne_9 rfl ?_
  refine x_iload_n C dX1_toldByOne_10 rfl ?_
  refine x_iload_n C dX1_toldByOne_11 rfl ?_
  refine x_iload_n C dX1_toldByOne_12 rfl ?_
  refine x_callV C dX1_toldByOne_13 (ctX1_firstFilledColumn ⟨hM, hE, hT, hh⟩ he row col q hr hc hq) okX1_firstFilledColumn lkX1_93 ⟨⟨hM, rfl, rfl⟩, (by omega)⟩ ⟨by decide, rfl, rfl, Nat.le_of_ble_eq_true rfl⟩ rfl (Or.inl ⟨rfl, rfl⟩) ?_
  refine x_istore C dX1_toldByOne_16 (by decide) ?_
  refine x_iload C dX1_toldByOne_18 rfl ?_
  refine x_if_lt (tgt := 28) C dX1_toldByOne_20 (by decide) (by omega) (fun c20 => ?_) (fun c20 => ?_)
  · refine x_iconst C dX1_toldByOne_28 ?_
    exact x_iret (st := []) C dX1_toldByOne_29 rfl ⟨congrArg (fun z => some (zi z)) (zone_2 (hz (by omega))).symm, rfl, rfl, rfl⟩
  · refine x_iload C dX1_toldByOne_23 rfl ?_
    refine x_if_ge (tgt := 30) C dX1_toldByOne_25 (by decide) (by omega) (fun c25 => ?_) (fun c25 => ?_)
    · refine x_aload_n C dX1_toldByOne_30 rfl ?_
      refine x_iload C dX1_toldByOne_31 rfl ?_
      refine x_iload C dX1_toldByOne_33 rfl ?_
      refine x_callV C dX1_toldByOne_35 (ctX1_entryAt ⟨hM, hE, hT, hh⟩ _ _ (by omega) (by omega)) okX1_entryAt lkX1_96 ⟨⟨hM, rfl, rfl⟩, (by omega)⟩ ⟨by decide, rfl, rfl, Nat.le_of_ble_eq_true rfl⟩ rfl (Or.inl ⟨rfl, rfl⟩) ?_
      refine x_i2l C dX1_toldByOne_38 (by have := he (r * 16 + c); omega) ?_
      refine x_lstore C dX1_toldByOne_39 (by decide) ?_
      refine x_iload_n C dX1_toldByOne_41 rfl ?_
      refine x_istore C dX1_toldByOne_42 (by decide) ?_
      have l0 := loop (by omega) (by omega) 0 (by omega) (fun a b h1 h2 => by omega)
      rw [show row + ((0 : Nat) : Int) = row from Int.add_zero row] at l0
      exact l0
    · refine x_iconst C dX1_toldByOne_28 ?_
      exact x_iret (st := []) C dX1_toldByOne_29 rfl ⟨congrArg (fun z => some (zi z)) (zone_2 (hz (by omega))).symm, rfl, rfl, rfl⟩
/-- a block is made smaller: the sorts then, and the room -/
noncomputable def zsf (t : Int → Int) (e : Int → Int) (d row col r : Int) : (Int → Int) × Int := if zone e row col (zsz d) = 2 then (zu t (zno d row col) 0, 0) else if zone e row col (zsz d) = 1 ∧ 2 * zsz d ≤ r then (zu t (zno d row col) 2, 2 * zsz d) else (t, r)
def zstep (g : (Int → Int) → Int → Int → (Int → Int) × Int) (row col q : Int) (x : (Int → Int) × Int) (p : Int) : (Int → Int) × Int := ((g x.1 (row + p / 2 * q) (col + p % 2 * q)).1, x.2 + (g x.1 (row + p / 2 * q) (col + p % 2 * q)).2)
noncomputable def zshr (e : Int → Int) : Nat → (Int → Int) → Int → Int → (Int → Int) × Int
  | 0 => fun t row col => zsf t e 3 row col (zrm (t (zno 3 row col)) 2)
  | f + 1 => fun t row col => if t (zno (2 - f) row col) = 3 then zsf (zfo (zstep (zshr e f) row col (zsz (3 - f))) (t, 1) 4).1 e (2 - f) row col (zfo (zstep (zshr e f) row col (zsz (3 - f))) (t, 1) 4).2 else zsf t e (2 - f) row col (zrm (t (zno (2 - f) row col)) (zsz (2 - f)))
theorem zshr_s (e : Int → Int) (f : Nat) (t : Int → Int) (row col : Int) : zshr e (f + 1) t row col = if t (zno (2 - f) row col) = 3 then zsf (zfo (zstep (zshr e f) row col (zsz (3 - f))) (t, 1) 4).1 e (2 - f) row col (zfo (zstep (zshr e f) row col (zsz (3 - f))) (t, 1) 4).2 else zsf t e (2 - f) row col (zrm (t (zno (2 - f) row col)) (zsz (2 - f))) := rfl
theorem zstep_St {g : (Int → Int) → Int → Int → (Int → Int) × Int} (hg : ∀ (t : Int → Int) (row col : Int), zSt t → zSt (g t row col).1) (row col q : Int) {x : (Int → Int) × Int} (hx : zSt x.1) (p : Int) : zSt (zstep g row col q x p).1 := hg _ _ _ hx
theorem zstep_in {g : (Int → Int) → Int → Int → (Int → Int) × Int} {m : Int} (hg : ∀ (t : Int → Int) (row col : Int), 0 ≤ (g t row col).2 ∧ (g t row col).2 ≤ m) (row col q : Int) (t : Int → Int) : ∀ k : Nat, 1 ≤ (zfo (zstep g row col q) (t, 1) k).2 ∧ (zfo (zstep g row col q) (t, 1) k).2 ≤ 1 + k * m
  | 0 => ⟨Int.le_refl 1, by show (1 : Int) ≤ 1 + ((0 : Nat) : Int) * m; omega⟩
  | k + 1 => by
    have ih := zstep_in hg row col q t k
    have h1 := hg (zfo (zstep g row col q) (t, 1) k).1 (row + (k : Int) / 2 * q) (col + (k : Int) % 2 * q)
    have h2 : ((k + 1 : Nat) : Int) * m = k * m + m := by rw [Int.natCast_add, Int.add_mul]; omega
    rw [h2]
    show 1 ≤ (zfo (zstep g row col q) (t, 1) k).2 + (g (zfo (zstep g row col q) (t, 1) k).1 (row + (k : Int) / 2 * q) (col + (k : Int) % 2 * q)).2 ∧ (zfo (zstep g row col q) (t, 1) k).2 + (g (zfo (zstep g row col q) (t, 1) k).1 (row + (k : Int) / 2 * q) (col + (k : Int) % 2 * q)).2 ≤ _
    omega
theorem zsf_St {t : Int → Int} (ht : zSt t) (e : Int → Int) (d row col r : Int) : zSt (zsf t e d row col r).1 := by
  unfold zsf
  split
  · exact zSt.u ht _ (by decide)
  · split
    · exact zSt.u ht _ (by decide)
    · exact ht
theorem zshr_St (e : Int → Int) : ∀ (f : Nat) (t : Int → Int) (row col : Int), zSt t → zSt (zshr e f t row col).1
  | 0, t, row, col, ht => zsf_St ht _ _ _ _ _
  | f + 1, t, row, col, ht => by
    rw [zshr_s]
    by_cases h : t (zno (2 - f) row col) = 3
    · rw [if_pos h]
      have key : ∀ k : Nat, zSt (zfo (zstep (zshr e f) row col (zsz (3 - f))) (t, 1) k).1 := by
        intro k
        induction k with
        | zero => exact ht
        | succ k ih => exact zstep_St (zshr_St e f) row col (zsz (3 - f)) ih k
      exact zsf_St (key 4) _ _ _ _ _
    · rw [if_neg h]
      exact zsf_St ht _ _ _ _ _
theorem zsf_in {t : Int → Int} {e : Int → Int} {d row col r : Int} (hd : 0 ≤ d ∧ d ≤ 3) {m : Int} (hr : 0 ≤ r ∧ r ≤ m) : 0 ≤ (zsf t e d row col r).2 ∧ (zsf t e d row col r).2 ≤ m := by
  have hz := zsz_v hd
  unfold zsf
  split
  · show 0 ≤ (0 : Int) ∧ (0 : Int) ≤ m; omega
  · split
    · rename_i h1 h2
      show 0 ≤ 2 * zsz d ∧ 2 * zsz d ≤ m
      omega
    · exact hr
theorem zrm_in (s q : Int) (hq : 2 ≤ q ∧ q ≤ 16) : 0 ≤ zrm s q ∧ zrm s q ≤ 256 := by
  have h1 := zmul16 (i := q - 1) (k := 0) (q := q) (by omega) (by omega) hq.2
  have h2 : q * q = (q - 1) * q + q := by rw [Int.sub_mul]; omega
  have h3 : (q - 1) * q ≤ (q - 1) * 16 := Int.mul_le_mul_of_nonneg_left hq.2 (by omega)
  unfold zrm
  split
  · omega
  · split <;> omega
def zmx : Nat → Int
  | 0 => 256
  | f + 1 => 1 + 4 * zmx f + 256
theorem zmx_pos : ∀ f, 256 ≤ zmx f
  | 0 => by decide
  | f + 1 => by have := zmx_pos f; show 256 ≤ 1 + 4 * zmx f + 256; omega
theorem zshr_in (e : Int → Int) : ∀ (f : Nat), f ≤ 3 → ∀ (t : Int → Int) (row col : Int), 0 ≤ (zshr e f t row col).2 ∧ (zshr e f t row col).2 ≤ zmx f
  | 0, hf, t, row, col => zsf_in (by decide) (zrm_in _ _ (by decide))
  | f + 1, hf, t, row, col => by
    have hz := zsz_v (d := 2 - f) (by omega)
    have hp := zmx_pos f
    rw [zshr_s]
    have e1 : zmx (f + 1) = 1 + 4 * zmx f + 256 := rfl
    rw [e1]
    by_cases h : t (zno (2 - f) row col) = 3
    · rw [if_pos h]
      have key := zstep_in (zshr_in e f (by omega)) row col (zsz (3 - f)) t 4
      refine zsf_in (by omega) ?_
      omega
    · rw [if_neg h]
      have := zrm_in (t (zno (2 - f) row col)) (zsz (2 - f)) (by omega)
      refine zsf_in (by omega) ?_
      omega
end
