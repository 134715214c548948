/-! THE CLAIM OUT OF ONE WALK OF THE LAW'S BODY. Your part is whole_start (and what it stands on); all else here is the same for every law, but numbers. -/
def R_law : String := "BlockTreesLaw"
def lw_P (b : Addr) (xs : List Int32) (args : Array Value) (s : State) : Prop := args = #[.ref b] ∧ s.IntsAt b xs ∧ xs.length ≤ 2560 ∧ (Jvm.Cond.and given_1 narrow_1).before args s = true
/-- what a walk over the start with the record d0 says of its end, said of the start itself -/
theorem lw_closed {s t : State} {o : Outcome} {d0 : Drawn} {L : List Loc} {k n : Nat} (hd0 : s.drawn.sameBut d0 lw_cs) (hv : ∃ v, o = .returned v) (hW : (s.setDrawn d0).WarmedH t.vm) (hs : (s.setDrawn d0).sameButNew ({ t with vm := s.vm } : State) L k n) : State.butDraws s t lw_cs (fun t1 => Framed s o t1 L k n) := by
  have h2 : t.drawn = d0 := congrArg State.drawn hs.1
  refine ⟨⟨hv, hW, State.sameButNew.setDrawn hs s.drawn⟩, ?_, by decide⟩
  rw [h2]
  exact hd0
def lw_Q (_ : Array Value) (s : State) (o : Outcome) (t : State) : Prop := o = .returned (some (.int 1)) ∧ State.butDraws s t lw_cs (fun t1 => Framed s o t1 [] 600000 7302250)
def lw_Z (below : List Frame) (a : Array Value) (s : State) : State → Prop := fun t => ∃ o, t.status = .running ∧ Ended t below o ∧ lw_Q a s o t
/-- the law's own end, with 1 on the stack, nothing written that was there before, its room as the claim has it; d0: the record of draws at this point (at the entry s.drawn: begin with 'refine W.base ?_' and 'have hd0 := Drawn.sameBut.refl s.drawn lw_cs') -/
theorem lw_ret {p : Program} {l : Launch} {e : Env} {s : State} {m : MethodId} {below : List Frame} {meth : Method} {c : Code} {b : Nat} {d0 : Drawn} (hd0 : s.drawn.sameBut d0 lw_cs) (hx : p.tables.exec = Jvm.exec) (hb : c.code = code) (hr : meth.sig.returnType = ret) (hlocks : meth.locks = false) {pc : Nat} {H : Heap} {ls : Array Slot} (hdg : decode code pc = .ok (.ireturn, 1)) : W p l e room_1 (s.setDrawn d0) m #[Value.ref b] below meth c H [] 600000 7302250 (lw_Z below #[Value.ref b] s) (F0 m pc ls [.int 1]) := by
  intro T hT X
  obtain ⟨fs, hret, hrun, hended, hW, hframe⟩ := X.leave (v := some (.int 1)) (hlocks := hlocks) (fun h => by rw [hr] at h; cases h)
  have hmeth' : T.vm.method? m = some meth := X.method'
  refine ⟨T.setFrames fs, ?_, .returned (some (.int 1)), hrun, hended, rfl, lw_closed hd0 ⟨_, rfl⟩ hW hframe⟩
  jvm_step X.here [X.here.top, hx, hb, hdg, hmeth', hr, ret, narrow_b1]
  (try refine ⟨rfl, ?_⟩); (try refine ⟨rfl, ?_⟩)
  first | (intro acts; rw [hret _ acts rfl rfl rfl]) | rw [hret _ _ rfl rfl rfl]
  exact Steps.refl _
/-- what holds at the law's entry: the machine, the code, the tables' words (any of lw_tbl by 'hts w (by decide +kernel)'), the script of L ints xs at the cell b, what the Statement gives of the start (any of its parts by flat_of_before) -/
def lw_At (p : Program) (s : State) (m : MethodId) (meth : Method) (c : Code) (b L : Nat) (xs : Nat → Int32) : Prop :=
  p.tables.exec = Jvm.exec ∧ c.code = code ∧ meth.sig.returnType = ret ∧ c.maxLocals = 4 ∧ s.vm.findClass R_law = some m.cls ∧ (∀ w ∈ lw_tbl, w.before #[Value.ref b] s = true) ∧ va_X b L xs s s.heap ∧ b < s.heap.size ∧ meth.locks = false ∧ (Jvm.Cond.and given_1 narrow_1).before #[Value.ref b] s = true
/-! the law's own place: the script outside the world, the world at the entry -/
theorem zNw_of {w : Cond} (hw : zisN w = true) {A : Array Value} {U : State} (h : w.before A U = true) : va_Nw w U := by
  cases w with
  | fieldLinkNest a i b n d hh => exact va_Nw.of rfl h
  | methodLinkNest a i x hh => exact va_Nw.of rfl h
  | _ => exact absurd hw (by simp [zisN])
theorem zRA_p {s : State} {A : Array Value} {ty : FieldType} (hty : ∀ C : String, ty ≠ .object C) (h : (Cond.arrayClass ty).before A s = true) : ∃ cA : ClassId, ArrOfT s cA ty ∧ va_RA s cA ty := by
  obtain ⟨c, k, comp, h1, h2, h3⟩ := Cond.arrayClass_spec h
  refine ⟨c, fun n z => ⟨fun q hq => (by cases hq), k, h2, comp, h3⟩, ?_⟩
  cases ty with
  | object C => exact absurd rfl (hty C)
  | _ => exact h1
theorem zRA_o {s : State} {A : Array Value} {C : String} (h : (Cond.arrayOver (.object C)).before A s = true) : ∃ cA : ClassId, ArrOfT s cA (.object C) ∧ va_RA s cA (.object C) := by
  obtain ⟨comp, c, k, h1, h2, h3, h4, h5⟩ := Cond.arrayOver_spec h
  exact ⟨c, fun n z => ⟨fun q hq => (by cases hq), k, h3, comp, h4⟩, k, comp, h3, h4, h1, h5⟩
theorem zAO_M : Cond.arrayOver (.object "BlockTrees$Matrix") ∈ lw_tbl := List.mem_of_getElem? (i := 89) (by decide +kernel)
theorem zAO_S : Cond.arrayOver (.object "BlockTrees$State") ∈ lw_tbl := List.mem_of_getElem? (i := 120) (by decide +kernel)
theorem zAO_L : Cond.arrayOver (.object "BlockTrees$Slot") ∈ lw_tbl := List.mem_of_getElem? (i := 134) (by decide +kernel)
/-- the world's tables out of the tables' words -/
theorem zK_start {s : State} {A : Array Value} (hts : ∀ w ∈ lw_tbl, w.before A s = true) (B : Nat × Nat) : ∃ g : zG, g.1 = B ∧ zK g s := by
  have hz : ∀ w ∈ zGW, w.before A s = true := fun w hw => hts w (List.mem_filter.mp hw).1
  obtain ⟨c0, i0, k0⟩ := u_known (C := RX0) (T := TX0) (N := 3) (n := 3) hz inX0 (hz _ kiX0.1)
  obtain ⟨c1, i1, k1⟩ := u_known (C := RX1) (T := TX1) (N := 2) (n := 2) hz inX1 (hz _ kiX1.1)
  obtain ⟨c2, i2, k2⟩ := u_known (C := RX2) (T := TX2) (N := 8) (n := 8) hz inX2 (hz _ kiX2.1)
  obtain ⟨c3, i3, k3⟩ := u_known (C := RX3) (T := TX3) (N := 2) (n := 2) hz inX3 (hz _ kiX3.1)
  obtain ⟨c4, i4, k4⟩ := u_known (C := RX4) (T := TX4) (N := 2) (n := 2) hz inX4 (hz _ kiX4.1)
  obtain ⟨c5, i5, k5⟩ := u_known (C := RX5) (T := TX5) (N := 6) (n := 6) hz inX5 (hz _ kiX5.1)
  obtain ⟨c6, i6, k6⟩ := u_known (C := RX6) (T := TX6) (N := 18) (n := 18) hz inX6 (hz _ kiX6.1)
  obtain ⟨a0, p0⟩ := zRA_p (ty := .int) (fun C h => by cases h) (hz _ ka_int)
  obtain ⟨a1, p1⟩ := zRA_p (ty := .boolean) (fun C h => by cases h) (hz _ ka_boolean)
  obtain ⟨a2, p2⟩ := zRA_p (ty := .char) (fun C h => by cases h) (hz _ ka_char)
  obtain ⟨a3, p3⟩ := zRA_o (hts _ zAO_M)
  obtain ⟨a4, p4⟩ := zRA_o (hts _ zAO_S)
  obtain ⟨a5, p5⟩ := zRA_o (hts _ zAO_L)
  refine ⟨(B, (((fun k => match k with | 0 => c0 | 1 => c1 | 2 => c2 | 3 => c3 | 4 => c4 | 5 => c5 | _ => c6), (fun k => match k with | 0 => i0 | 1 => i1 | 2 => i2 | 3 => i3 | 4 => i4 | 5 => i5 | _ => i6)), (fun k => match k with | 0 => a0 | 1 => a1 | 2 => a2 | 3 => a3 | 4 => a4 | _ => a5))), rfl, ⟨fun k q hq => ?_, fun k q hq => ?_⟩, fun w hw => ?_, va_AO.of (hts _ zAO_M), va_AO.of (hts _ zAO_S), va_AO.of (hts _ zAO_L)⟩
  · match k, hq with
    | 0, hq => cases hq; exact k0
    | 1, hq => cases hq; exact k1
    | 2, hq => cases hq; exact k2
    | 3, hq => cases hq; exact k3
    | 4, hq => cases hq; exact k4
    | 5, hq => cases hq; exact k5
    | 6, hq => cases hq; exact k6
    | k + 7, hq => simp [vwCl] at hq
  · match k, hq with
    | 0, hq => cases hq; exact p0
    | 1, hq => cases hq; exact p1
    | 2, hq => cases hq; exact p2
    | 3, hq => cases hq; exact p3
    | 4, hq => cases hq; exact p4
    | 5, hq => cases hq; exact p5
    | k + 6, hq => simp [zty] at hq
  · obtain ⟨h1, h2⟩ := List.mem_filter.mp hw
    exact zNw_of h2 (hts w h1)
/-- the judgement in the law's body -/
def zKL (p : Program) (l : Launch) (e : Env) (s : State) (m : MethodId) (b : Nat) (below : List Frame) (meth : Method) (c : Code) (g : zG) : zKT := fun pc Lo st n σ w => ∀ (ls : Array Slot) (H : Heap) (locs : List Loc), (0 ≤ n ∧ n - 0 ≤ 155 ∧ w ≤ 28132) → zL g ls 4 Lo → zH g n σ H → va_S (zF g) s.heap H locs → W p l e room_1 s m #[Value.ref b] below meth c H locs (n - 0) w (lw_Z below #[Value.ref b] s) (F0 m pc ls (st.map (zv g)))
def zLC (nm : String) (b L : Nat) (xs : Nat → Int32) (K : zKT) : Prop := ∃ (p : Program) (l : Launch) (e : Env) (s : State) (m : MethodId) (below : List Frame) (meth : Method) (c : Code) (g : zG), lw_At p s m meth c b L xs ∧ meth.name = nm ∧ zK g s ∧ g.1 = (b, s.heap.size - 1) ∧ K = zKL p l e s m b below meth c g
theorem zv_r0 {g : zG} {b q : Nat} (hg : g.1 = (b, q)) : zv g (zr 0) = .ref b := by
  show va_rf (some (zad g 0)) = _
  rw [show zad g 0 = g.1.1 from if_pos rfl, hg]
  rfl
theorem zLC.C {nm : String} {b L : Nat} {xs : Nat → Int32} {K : zKT} (Z : zLC nm b L xs K) : zX ⟨RL, nm, "([I)Z"⟩ cL_law 4 (some .boolean) 100 155 28132 0 (fun v _ _ _ => v = some (zi 1)) K := by
  obtain ⟨p, l, e, s, m, below, meth, c, g, ⟨hx, hb, hr, hml, hown, hts, hX, hbl, hlocks, hgv⟩, hn, hK, hg, rfl⟩ := Z
  refine ⟨p, l, e, room_1, s, m, #[Value.ref b], below, meth, c, lw_Z below #[Value.ref b] s, g, ⟨hx, hb, hml, hown, fun w hw => hts w (List.mem_filter.mp hw).1, hK, hn⟩, ⟨Nat.le_of_ble_eq_true rfl, Nat.le_of_ble_eq_true rfl, Nat.le_of_ble_eq_true rfl, Nat.le_of_ble_eq_true rfl⟩, ?_, rfl, ?_⟩
  · rw [hg]
    show s.heap.size = s.heap.size - 1 + 1 + 0
    omega
  · intro v pc Lo st n σ w hrt hR ls H locs hn1 hl hP hS
    have hR1 : v = some (zi 1) := hR
    subst hR1
    rcases hrt with ⟨d, h, h1, h2⟩ | ⟨d, h, h1⟩ | ⟨d, h, x, hx01, h1, h2⟩ | ⟨d, h, h1⟩
    · cases h
    · cases h
    · cases h1
      subst h2
      have e1 : List.map (zv g) [zi 1] = [Value.int 1] := rfl
      rw [e1]
      refine va_forget (fun q hq => ?_) (W.widen (k := 600000) (n := 7302250) (by omega) (by omega) (W.base ?_))
      · have h3 : g.1.2 < q.base := hS.2.2 q hq
        rw [hg] at h3
        have h4 : s.heap.size - 1 < q.base := h3
        omega
      · exact lw_ret (Drawn.sameBut.refl s.drawn lw_cs) hx hb hr hlocks d
    · cases h
/-- a number of the script -/
def zxs (xs : Nat → Int32) (i : Int) : Int := (xs i.toNat).toInt
theorem zxs_in (xs : Nat → Int32) (i : Int) : -2147483648 ≤ zxs xs i ∧ zxs xs i < 2147483648 := by
  unfold zxs
  have h1 := Int32.le_toInt (xs i.toNat)
  have h2 := Int32.toInt_lt (xs i.toNat)
  omega
theorem zand_in (a b : Int) : -2147483648 ≤ zand a b ∧ zand a b < 2147483648 := by
  unfold zand
  have h1 := Int32.le_toInt (zI a &&& zI b)
  have h2 := Int32.toInt_lt (zI a &&& zI b)
  omega
theorem zorl_in (a b : Int) : -9223372036854775808 ≤ zorl a b ∧ zorl a b < 9223372036854775808 := by
  unfold zorl
  have h1 := Int64.le_toInt (zJ a ||| zJ b)
  have h2 := Int64.toInt_lt (zJ a ||| zJ b)
  omega
theorem x_sld {nm : String} {b L : Nat} {xs : Nat → Int32} {K : zKT} (Z : zLC nm b L xs K) (hL : L ≤ 2560) {pc : Nat} {Lo : List (Option zV)} {st : List zV} {n : Nat} {σ : zS} {w : Nat} {i : Int} (d : decode cL_law pc = .ok (.iaload, 1)) (hi : 0 ≤ i ∧ i < L) (k : K (pc + 1) Lo (zi (zxs xs i) :: st) n σ w) : K pc Lo (zi i :: zr 0 :: st) n σ w := by
  obtain ⟨p, l, e, s, m, below, meth, c, g, ⟨hx, hb, hr, hml, hown, hts, hX, hbl, hlocks, hgv⟩, hn, hK, hg, rfl⟩ := Z
  intro ls H locs hn1 hl hP hS
  have k := k ls H locs hn1 hl hP hS
  have hbA : ¬ zF g b := by
    show ¬ g.1.2 < b
    rw [hg]
    show ¬ s.heap.size - 1 < b
    omega
  have ev : zv g (zi (zxs xs i)) = .int (xs i.toNat) := by
    show Value.int (zI (xs i.toNat).toInt) = _
    rw [zI_to]
  rw [List.map_cons, ev] at k
  rw [List.map_cons, List.map_cons, zv_r0 hg]
  refine va_sld (i := zI i) hx hb hX hbl hbA hS (zI_in hi (by omega)) d ?_
  rw [zI_cl (by omega)]
  exact k
theorem x_slen {nm : String} {b L : Nat} {xs : Nat → Int32} {K : zKT} (Z : zLC nm b L xs K) {pc : Nat} {Lo : List (Option zV)} {st : List zV} {n : Nat} {σ : zS} {w : Nat} (d : decode cL_law pc = .ok (.arraylength, 1)) (k : K (pc + 1) Lo (zi (L : Int) :: st) n σ w) : K pc Lo (zr 0 :: st) n σ w := by
  obtain ⟨p, l, e, s, m, below, meth, c, g, ⟨hx, hb, hr, hml, hown, hts, hX, hbl, hlocks, hgv⟩, hn, hK, hg, rfl⟩ := Z
  intro ls H locs hn1 hl hP hS
  have k := k ls H locs hn1 hl hP hS
  have hbA : ¬ zF g b := by
    show ¬ g.1.2 < b
    rw [hg]
    show ¬ s.heap.size - 1 < b
    omega
  have ev : zv g (zi (L : Int)) = .int (Int32.ofNat L) := by
    show Value.int (Int32.ofInt (L : Int)) = _
    rw [Int32.ofInt_eq_ofNat]
  rw [List.map_cons, ev] at k
  rw [List.map_cons, zv_r0 hg]
  exact va_slen hx hb hX hbl hbA hS d k
abbrev zlo (i : Int) : List (Option zV) := [some (zr 0), some (zr 1), some (zr 145), some (zi i)]
theorem x_arg {nm : String} {b L : Nat} {xs : Nat → Int32} {K : zKT} (Z : zLC nm b L xs K) (hL : L ≤ 2560) {i : Int} (hi : 0 ≤ i ∧ i + 5 ≤ L) (j : Int) (hj : 0 ≤ j ∧ j < 5) {pc : Nat} {st : List zV} {n : Nat} {σ : zS} {w : Nat} (d0 : decode cL_law pc = .ok (.aload_n 0, 1)) (d1 : decode cL_law (pc + 1) = .ok (.iload_n 3, 1)) (d2 : decode cL_law (pc + 2) = .ok (.iconst j, 1)) (d3 : decode cL_law (pc + 3) = .ok (.iadd, 1)) (d4 : decode cL_law (pc + 4) = .ok (.iaload, 1)) (k : K (pc + 5) (zlo i) (zi (zxs xs (i + j)) :: st) n σ w) : K pc (zlo i) st n σ w := by
  have C := Z.C
  refine x_aload_n C d0 rfl ?_
  refine x_iload_n C d1 rfl ?_
  refine x_iconst C d2 ?_
  refine x_iadd C d3 ?_
  exact x_sld Z hL d4 (by omega) k
/-- two equal long answers -/
theorem x_lcmpr {y : MethodName} {cc : ByteArray} {ml : Nat} {ret : Option FieldType} {h mc ms n0 : Nat} {Ret : zRT} {K : zKT} (C : zX y cc ml ret h mc ms n0 Ret K) {pc : Nat} {Lo : List (Option zV)} {st : List zV} {n : Nat} {σ : zS} {w : Nat} {a : Int} (d : decode cc pc = .ok (.lcmp, 1)) (k : K (pc + 1) Lo (zi 0 :: st) n σ w) : K pc Lo (zl a :: zl a :: st) n σ w := by
  obtain ⟨p, l, e, R, s, m, args, below, meth, c, Q, g, ⟨hx, hb, hml, hown, hts, hK, hin⟩, hR, hsz, rfl, hrt⟩ := C
  intro ls H locs hn hl hP hS
  refine W.lcmp hx hb d ?_
  have e0 : lg_cmp (zJ a) (zJ a) = zI 0 := by
    simp [lg_cmp]
    rfl
  rw [e0]
  exact k ls H locs hn hl hP hS
theorem zAll.vs {σ : zS} {n : Nat} (R : zAll σ n) : ∃ vs, σ 1 = zO 5 vs := by
  obtain ⟨X, o, l, Hs, Sl, f, L, S, U, Z, H, P, RC, RM, Pu⟩ := R
  exact ⟨_, RC.1.1⟩
