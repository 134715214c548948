/-! THE CLAIM OUT OF ONE WALK OF THE LAW'S BODY. Your part is whole_start (and what it stands on); all else here is the same for every law, but numbers. -/
def R_law : String := "BlockTreesLaw"
def lw_P (b : Addr) (xs : List Int32) (args : Array Value) (s : State) : Prop := args = #[.ref b] ∧ s.IntsAt b xs ∧ xs.length ≤ 260 ∧ (Jvm.Cond.and given_1 narrow_1).before args s = true
def lw_Q (_ : Array Value) (s : State) (o : Outcome) (t : State) : Prop := o = .returned (some (.int 1)) ∧ Framed s o t [] 600000 7302250
def lw_Z (below : List Frame) (a : Array Value) (s : State) : State → Prop := fun t => ∃ o, t.status = .running ∧ Ended t below o ∧ lw_Q a s o t
/-- the law's own end, with 1 on the stack, nothing written that was there before, its room as the claim has it -/
theorem lw_ret {p : Program} {l : Launch} {e : Env} {s : State} {m : MethodId} {below : List Frame} {meth : Method} {c : Code} {b : Nat} (hx : p.tables.exec = Jvm.exec) (hb : c.code = code) (hr : meth.sig.returnType = ret) (hlocks : meth.locks = false) {pc : Nat} {H : Heap} {ls : Array Slot} (hdg : decode code pc = .ok (.ireturn, 1)) : W p l e room_1 s m #[Value.ref b] below meth c H [] 600000 7302250 (lw_Z below #[Value.ref b] s) (F0 m pc ls [.int 1]) := by
  intro T hT X
  obtain ⟨fs, hret, hrun, hended, hW, hframe⟩ := X.leave (v := some (.int 1)) (hlocks := hlocks) (fun h => by rw [hr] at h; cases h)
  have hmeth' : T.vm.method? m = some meth := X.method'
  refine ⟨T.setFrames fs, ?_, .returned (some (.int 1)), hrun, hended, rfl, ⟨_, rfl⟩, hW, hframe⟩
  jvm_step X.here [X.here.top, hx, hb, hdg, hmeth', hr, ret, narrow_b1]
  (try refine ⟨rfl, ?_⟩); (try refine ⟨rfl, ?_⟩)
  first | (intro acts; rw [hret _ acts rfl rfl rfl]) | rw [hret _ _ rfl rfl rfl]
  exact Steps.refl _
/-- what holds at the law's entry: the machine, the code, the tables' words (any of lw_tbl by 'hts w (by decide +kernel)'), the script of L ints xs at the cell b, what the Statement gives of the start (any of its parts by flat_of_before) -/
def lw_At (p : Program) (s : State) (m : MethodId) (meth : Method) (c : Code) (b L : Nat) (xs : Nat → Int32) : Prop :=
  p.tables.exec = Jvm.exec ∧ c.code = code ∧ meth.sig.returnType = ret ∧ c.maxLocals = 14 ∧ s.vm.findClass R_law = some m.cls ∧ (∀ w ∈ lw_tbl, w.before #[Value.ref b] s = true) ∧ va_X b L xs s s.heap ∧ b < s.heap.size ∧ meth.locks = false ∧ (Jvm.Cond.and given_1 narrow_1).before #[Value.ref b] s = true
/-! the law's own place: the script outside the world, the world at the entry -/
theorem zNw_of {w : Cond} (hw : zisN w = true) {A : Array Value} {U : State} (h : w.before A U = true) : va_Nw w U := by
  cases w with
  | fieldLinkNest a i b n d hh => exact va_Nw.of rfl h
  | methodLinkNest a i x hh => exact va_Nw.of rfl h
  | _ => exact absurd hw (by simp [zisN])
theorem zRA_p {s : State} {A : Array Value} {ty : FieldType} (hty : ∀ C : String, ty ≠ .object C) (h : (Cond.arrayClass ty).before A s = true) : ∃ cA : ClassId, ArrOfT s cA ty ∧ va_RA s cA ty := by
  obtain ⟨c, k, comp, h1, h2, h3⟩ := Cond.arrayClass_spec h
  refine ⟨c, fun n z => ⟨fun q hq => (by cases hq), k, h2, comp, h3⟩, ?_⟩
  cases ty with
  | object C => exact absurd rfl (hty C)
  | _ => exact h1
theorem zRA_o {s : State} {A : Array Value} {C : String} (h : (Cond.arrayOver (.object C)).before A s = true) : ∃ cA : ClassId, ArrOfT s cA (.object C) ∧ va_RA s cA (.object C) := by
  obtain ⟨comp, c, k, h1, h2, h3, h4, h5⟩ := Cond.arrayOver_spec h
  exact ⟨c, fun n z => ⟨fun q hq => (by cases hq), k, h3, comp, h4⟩, k, comp, h3, h4, h1, h5⟩
theorem zAO_M : Cond.arrayOver (.object "BlockTrees$Matrix") ∈ lw_tbl := List.mem_of_getElem? (i := 46) (by decide +kernel)
theorem zAO_S : Cond.arrayOver (.object "BlockTrees$State") ∈ lw_tbl := List.mem_of_getElem? (i := 76) (by decide +kernel)
theorem zAO_L : Cond.arrayOver (.object "BlockTrees$Slot") ∈ lw_tbl := List.mem_of_getElem? (i := 90) (by decide +kernel)
/-- the world's tables out of the tables' words -/
theorem zK_start {s : State} {A : Array Value} (hts : ∀ w ∈ lw_tbl, w.before A s = true) (B : Nat × Nat) : ∃ g : zG, g.1 = B ∧ zK g s := by
  have hz : ∀ w ∈ zGW, w.before A s = true := fun w hw => hts w (List.mem_filter.mp hw).1
  obtain ⟨c0, i0, k0⟩ := u_known (C := RX0) (T := TX0) (N := 3) (n := 3) hz inX0 (hz _ kiX0.1)
  obtain ⟨c1, i1, k1⟩ := u_known (C := RX1) (T := TX1) (N := 2) (n := 2) hz inX1 (hz _ kiX1.1)
  obtain ⟨c2, i2, k2⟩ := u_known (C := RX2) (T := TX2) (N := 8) (n := 8) hz inX2 (hz _ kiX2.1)
  obtain ⟨c3, i3, k3⟩ := u_known (C := RX3) (T := TX3) (N := 2) (n := 2) hz inX3 (hz _ kiX3.1)
  obtain ⟨c4, i4, k4⟩ := u_known (C := RX4) (T := TX4) (N := 2) (n := 2) hz inX4 (hz _ kiX4.1)
  obtain ⟨c5, i5, k5⟩ := u_known (C := RX5) (T := TX5) (N := 6) (n := 6) hz inX5 (hz _ kiX5.1)
  obtain ⟨a0, p0⟩ := zRA_p (ty := .int) (fun C h => by cases h) (hz _ ka_int)
  obtain ⟨a2, p2⟩ := zRA_p (ty := .char) (fun C h => by cases h) (hz _ ka_char)
  obtain ⟨a3, p3⟩ := zRA_o (hts _ zAO_M)
  obtain ⟨a4, p4⟩ := zRA_o (hts _ zAO_S)
  obtain ⟨a5, p5⟩ := zRA_o (hts _ zAO_L)
  refine ⟨(B, (((fun k => match k with | 0 => c0 | 1 => c1 | 2 => c2 | 3 => c3 | 4 => c4 | _ => c5), (fun k => match k with | 0 => i0 | 1 => i1 | 2 => i2 | 3 => i3 | 4 => i4 | _ => i5)), (fun k => match k with | 0 => a0 | 1 => a0 | 2 => a2 | 3 => a3 | 4 => a4 | _ => a5))), rfl, ⟨fun k q hq => ?_, fun k q hq => ?_⟩, fun w hw => ?_, va_AO.of (hts _ zAO_M), va_AO.of (hts _ zAO_S), va_AO.of (hts _ zAO_L)⟩
  · match k, hq with
    | 0, hq => cases hq; exact k0
    | 1, hq => cases hq; exact k1
    | 2, hq => cases hq; exact k2
    | 3, hq => cases hq; exact k3
    | 4, hq => cases hq; exact k4
    | 5, hq => cases hq; exact k5
    | k + 6, hq => simp [vwCl] at hq
  · match k, hq with
    | 0, hq => cases hq; exact p0
    | 1, hq => cases hq; exact p0
    | 2, hq => cases hq; exact p2
    | 3, hq => cases hq; exact p3
    | 4, hq => cases hq; exact p4
    | 5, hq => cases hq; exact p5
    | k + 6, hq => simp [zty] at hq
  · obtain ⟨h1, h2⟩ := List.mem_filter.mp hw
    exact zNw_of h2 (hts w h1)
/-! contracts that read the script -/
def zPx (g : zG) (n : Nat) (σ : zS) (as : List zV) (b L : Nat) (xs : Nat → Int32) : Array Value → State → Prop := va_Pc (as.map (zv g)) (fun U => U.heap.size = g.1.2 + 1 + n ∧ zH g n σ U.heap ∧ zK g U ∧ va_X b L xs U U.heap)
def zCs (b L : Nat) (xs : Nat → Int32) (h mc ms : Nat) (y : MethodName) (cc : ByteArray) (ml : Nat) (ret : Option FieldType) (as : List zV) (n : Nat) (σ : zS) (r : Option zV) (n' : Nat) (σ' : zS) : Prop :=
  ∀ (l : Launch) (g : zG), g.1.1 = b → Met l y (Cond.code y cc ml ret :: zGW) (zRm h mc ms) (zPx g n σ as b L xs) (zPost g r n' σ') mc ms (zF g)
def zXs (b L : Nat) (xs : Nat → Int32) (y : MethodName) (cc : ByteArray) (ml : Nat) (ret : Option FieldType) (h mc ms n0 : Nat) (Ret : zRT) (K : zKT) : Prop :=
  ∃ (p : Program) (l : Launch) (e : Env) (R : Room) (s : State) (m : MethodId) (args : Array Value) (below : List Frame) (meth : Method) (c : Code) (Q : State → Prop) (g : zG),
    (p.tables.exec = Jvm.exec ∧ c.code = cc ∧ c.maxLocals = ml ∧ s.vm.findClass y.cls = some m.cls ∧ (∀ w ∈ zGW, w.before args s = true) ∧ zK g s ∧ meth.name = y.name) ∧
    (h ≤ R.frames ∧ 64 * h ≤ R.locals ∧ mc ≤ R.cells ∧ ms ≤ R.slots) ∧ s.heap.size = g.1.2 + 1 + n0 ∧
    K = (fun pc Lo st n σ w => ∀ (ls : Array Slot) (H : Heap) (locs : List Loc), (n0 ≤ n ∧ n - n0 ≤ mc ∧ w ≤ ms) → zL g ls ml Lo → zH g n σ H → va_S (zF g) s.heap H locs → W p l e R s m args below meth c H locs (n - n0) w Q (F0 m pc ls (st.map (zv g)))) ∧
    (∀ v pc Lo st n σ w, zRt cc ret v pc st → Ret v n σ w → K pc Lo st n σ w) ∧ (g.1.1 = b ∧ va_X b L xs s s.heap ∧ b < s.heap.size)
theorem zXs.C {b L : Nat} {xs : Nat → Int32} {y : MethodName} {cc : ByteArray} {ml : Nat} {ret : Option FieldType} {h mc ms n0 : Nat} {Ret : zRT} {K : zKT} (Z : zXs b L xs y cc ml ret h mc ms n0 Ret K) : zX y cc ml ret h mc ms n0 Ret K := by
  obtain ⟨p, l, e, R, s, m, args, below, meth, c, Q, g, h1, h2, h3, h4, h5, -⟩ := Z
  exact ⟨p, l, e, R, s, m, args, below, meth, c, Q, g, h1, h2, h3, h4, h5⟩
theorem va_X.lt {b L : Nat} {xs : Nat → Int32} {U : State} {H : Heap} (h : va_X b L xs U H) : b < H.size := by
  obtain ⟨scr, h1, -⟩ := h
  exact (Array.getElem?_eq_some_iff.mp h1).1
theorem zCs.of {b L : Nat} {xs : Nat → Int32} {h mc ms : Nat} {y : MethodName} {cc : ByteArray} {ml : Nat} {ret : Option FieldType} {as : List zV} {n : Nat} {σ : zS} {r : Option zV} {n' : Nat} {σ' : zS} (hy : plainName y.cls = true) (hn : n' = n + mc) (ha : (zsl as).length ≤ ml)
    (body : ∀ K : zKT, zXs b L xs y cc ml ret h mc ms n (fun v n1 σ1 w => v = r ∧ n1 = n' ∧ σ1 = σ' ∧ w = ms) K → K 0 (zen ml as) [] n σ 0) : zCs b L xs h mc ms y cc ml ret as n σ r n' σ' := by
  intro l g hgb
  refine Met.ofW (cc := cc) (maxL := ml) (ret := ret) hy rfl ?_
  intro p e s m args below meth c s₁ B hml hv
  obtain ⟨rfl, hz, hH, hK, hX⟩ := hv
  have hx := B.exec
  have hb := B.bytes
  have hr := B.returns
  have hts := atoms_spec (ws := Cond.code y cc ml ret :: zGW) B.pre
  have hown : s.vm.findClass y.cls = some m.cls := findClass_of_methodNamed B.named
  have hlocks := B.notSynchronized
  have hin : meth.name = y.name := (name_of_methodNamed B.named B.method).1
  have key := body _ ⟨p, l, e, (headSpec (Cond.code y cc ml ret :: zGW) (zRm h mc ms)).room, s, m, (as.map (zv g)).toArray, below, meth, c, MQ below (zPost g r n' σ') (as.map (zv g)).toArray s mc ms (zF g), g,
    ⟨hx, hb, hml, hown, fun w hw => hts w (List.mem_cons_of_mem _ hw), hK, hin⟩, ⟨Nat.le_refl _, Nat.le_refl _, Nat.le_refl _, Nat.le_refl _⟩, hz, rfl, ?_, hgb, hX, hX.lt⟩
  · have k := key _ s.heap [] ⟨Nat.le_refl _, by omega, Nat.zero_le _⟩ (zen_L g ha) hH va_S.rf
    rw [Nat.sub_self] at k
    rw [lg_entry_eq]
    exact k
  · intro v pc Lo st n1 σ1 w hrt hR ls H locs hn1 hl hP hS
    obtain ⟨rfl, rfl, rfl, rfl⟩ := hR
    have e : n1 - n = mc := by omega
    rw [e]
    rcases hrt with ⟨d, rfl, rfl, rfl⟩ | ⟨d, rfl, x, rfl, rfl⟩ | ⟨d, rfl, x, hx01, rfl, rfl⟩ | ⟨d, rfl, x, rfl, rfl⟩
    · exact W.vret hx hb hr (fun t ht _ => ⟨rfl, by rw [ht]; exact hP, hS.F ht⟩) hS.2.2 d
    · exact W.iret hx hb hr (fun t ht _ => ⟨rfl, by rw [ht]; exact hP, hS.F ht⟩) hS.2.2 d
    · refine W.zret hx hb hr ?_ (fun t ht _ => ⟨rfl, by rw [ht]; exact hP, hS.F ht⟩) hS.2.2 d
      rcases hx01 with rfl | rfl <;> rfl
    · exact W.lret hx hb hr (fun t ht _ => ⟨rfl, by rw [ht]; exact hP, hS.F ht⟩) hS.2.2 d
theorem zv_r0 {g : zG} {b : Nat} (hg : g.1.1 = b) : zv g (zr 0) = .ref b := by
  show va_rf (some (zad g 0)) = _
  rw [show zad g 0 = g.1.1 from if_pos rfl, hg]
  rfl
/-- a number of the script -/
def zxs (xs : Nat → Int32) (i : Int) : Int := (xs i.toNat).toInt
theorem zxs_in (xs : Nat → Int32) (i : Int) : -2147483648 ≤ zxs xs i ∧ zxs xs i < 2147483648 := by
  unfold zxs
  have h1 := Int32.le_toInt (xs i.toNat)
  have h2 := Int32.toInt_lt (xs i.toNat)
  omega
section
variable {b L0 : Nat} {xs : Nat → Int32} {y : MethodName} {cc : ByteArray} {ml : Nat} {ret : Option FieldType} {h mc ms n0 : Nat} {Ret : zRT} {K : zKT} {pc : Nat} {Lo : List (Option zV)} {st : List zV} {n : Nat} {σ : zS} {w : Nat}
theorem x_sld (Z : zXs b L0 xs y cc ml ret h mc ms n0 Ret K) (hL : L0 ≤ 260) {i : Int} (d : decode cc pc = .ok (.iaload, 1)) (hi : 0 ≤ i ∧ i < L0) (k : K (pc + 1) Lo (zi (zxs xs i) :: st) n σ w) : K pc Lo (zi i :: zr 0 :: st) n σ w := by
  obtain ⟨p, l, e, R, s, m, args, below, meth, c, Q, g, ⟨hx, hb, hml, hown, hts, hK, hin⟩, hR, hsz, rfl, hrt, hg, hX, hbl⟩ := Z
  intro ls H locs hn1 hl hP hS
  have k := k ls H locs hn1 hl hP hS
  have hbA : ¬ zF g b := by
    show ¬ g.1.2 < b
    have := hP.2.1
    omega
  have ev : zv g (zi (zxs xs i)) = .int (xs i.toNat) := by
    show Value.int (zI (xs i.toNat).toInt) = _
    rw [zI_to]
  rw [List.map_cons, ev] at k
  rw [List.map_cons, List.map_cons, zv_r0 hg]
  refine va_sld (i := zI i) hx hb hX hbl hbA hS (zI_in hi (by omega)) d ?_
  rw [zI_cl (by omega)]
  exact k
theorem x_slen (Z : zXs b L0 xs y cc ml ret h mc ms n0 Ret K) (d : decode cc pc = .ok (.arraylength, 1)) (k : K (pc + 1) Lo (zi (L0 : Int) :: st) n σ w) : K pc Lo (zr 0 :: st) n σ w := by
  obtain ⟨p, l, e, R, s, m, args, below, meth, c, Q, g, ⟨hx, hb, hml, hown, hts, hK, hin⟩, hR, hsz, rfl, hrt, hg, hX, hbl⟩ := Z
  intro ls H locs hn1 hl hP hS
  have k := k ls H locs hn1 hl hP hS
  have hbA : ¬ zF g b := by
    show ¬ g.1.2 < b
    have := hP.2.1
    omega
  have ev : zv g (zi (L0 : Int)) = .int (Int32.ofNat L0) := by
    show Value.int (Int32.ofInt (L0 : Int)) = _
    rw [Int32.ofInt_eq_ofNat]
  rw [List.map_cons, ev] at k
  rw [List.map_cons, zv_r0 hg]
  exact va_slen hx hb hX hbl hbA hS d k
set_option maxHeartbeats 2000000 in
theorem x_callSx (Z : zXs b L0 xs y cc ml ret h mc ms n0 Ret K) {y' : MethodName} {cc' : ByteArray} {ml' : Nat} {ret' : Option FieldType} {h' mc' ms' na idx n' : Nat} {as rest : List zV} {r : Option zV} {σ' : zS} (d : decode cc pc = .ok (.invokestatic idx, 3)) (hM : zCs b L0 xs h' mc' ms' y' cc' ml' ret' as n σ r n' σ') (ok : zOk y' cc' ml' ret' na) (lk : zLs y.cls idx y') (hh : h' < h ∧ as.length = na ∧ n' = n + mc' ∧ zcat rest ≤ 8) (hst : as.reverse ++ rest = st) (hf : mc' = 0 ∧ ms' = 0 ∨ n + mc' ≤ n0 + mc ∧ w + ms' ≤ ms) (k : K (pc + 3) Lo (r.toList ++ rest) n' σ' (w + ms')) : K pc Lo st n σ w := by
  obtain ⟨p, l, e, R, s, m, args, below, meth, c, Q, g, ⟨hx, hb, hml, hown, hts, hK, hin⟩, hR, hsz, rfl, hrt, hgb, hX, hbl⟩ := Z
  intro ls H locs hn hl hP hS
  intro T hT X
  have hz : H.size = g.1.2 + 1 + n := by
    have h1 := X.heapSize
    rw [hT] at h1
    have h2 := hP.1
    omega
  have hbA : ¬ zF g b := by
    show ¬ g.1.2 < b
    have := hP.2.1
    omega
  subst hst
  obtain ⟨⟨ok1, ok2⟩, ok3, ok4, ok5, ok6⟩ := ok
  obtain ⟨hh1, hh2, hh3, hh4⟩ := hh
  have hws : ∀ w ∈ (Cond.code y' cc' ml' ret' :: zGW), ∀ (a' : Array Value) (U : State), s.WarmedH U.vm → w.before a' U = true := pay_in hts (zGoodIn ok5)
  have hrm : (zRm h' mc' ms').frames + 1 ≤ R.frames ∧ 8 + (ml' + 11) + (zRm h' mc' ms').locals ≤ R.locals := by
    show h' + 1 ≤ _ ∧ 8 + (ml' + 11) + 64 * h' ≤ _
    omega
  have hlen : ∀ sig, parseMethodDescriptor y'.desc = some sig → na = sig.parameters.length := fun sig q => by
    rw [q] at ok3
    exact (Option.some.inj ok3).symm
  have hfb : FrameBlind (zPx g n σ as b L0 xs) := fun a U fr mk q => ⟨q.1, q.2.1, q.2.2.1, zK.calling fr mk a q.2.2.2.1, va_X.moved (u := U) (U := U.calling fr mk a) (Vm.Alike.refl U.vm) q.2.2.2.2⟩
  have hpc : ∀ U : State, U.heap = H → s.WarmedH U.vm → zPx g n σ as b L0 xs (as.map (zv g)).toArray U := fun U hU hW => ⟨rfl, by rw [hU]; exact hz, by rw [hU]; exact hP, zK.warm hW hK, by rw [hU]; exact (hX.kept (hS.2.1 b hbl hbA)).moved hW.alike⟩
  have hcat : 2 * (0 : Nat) + ((rest.map (zv g)).map fun v => v.category).sum ≤ 8 := by
    rw [zcat_eq]
    omega
  have hstk : ((as.reverse ++ rest).map (zv g)) = (as.map (zv g)).reverse ++ rest.map (zv g) := by
    simp [List.map_append, List.map_reverse]
  have hfix : CallFix p m c cc ml s args zGW y.cls := ⟨hx, hb, hml, hown, hts⟩
  have hrun : va_Run p l e R s m args below meth c H locs (n - n0) w mc' ms' (F0 m pc ls ((as.reverse ++ rest).map (zv g))) (rest.map (zv g)) (zPost g r n' σ' (as.map (zv g)).toArray) (zF g) := (va_runS (As := as.map (zv g)) (rest := rest.map (zv g)) hfix (hM l g hgb) ⟨⟨rfl, rfl, hrm.1, hrm.2, hws, List.mem_cons_self, hts _ ok5, hts _ ok6, ⟨ok1, ok2⟩, hlen, hts _ lk.1⟩, hts _ lk.2⟩ ⟨hfb, hpc⟩ rfl (by rw [List.length_map]; exact hh2) hl.1 hstk hcat d ⟨by omega, by omega⟩)
  exact zrun hrun hS (fun H1 locs1 h1 h2 => by
    have hk := k ls H1 locs1 ⟨by omega, by omega, by omega⟩ hl h1 h2
    rw [show n' - n0 = n - n0 + mc' by omega, show ((r.toList ++ rest).map (zv g)) = (r.map (zv g)).toList ++ rest.map (zv g) by cases r <;> simp] at hk
    exact hk) T hT X
end
/-- what the law reads: the script's number, or one of its own behind the script's end -/
def zcel (xs : Nat → Int32) (L : Nat) (k : Int) : Int := if k < L then zxs xs k else 7919 * (k + 3) * (k + 11)
theorem zcel_in (xs : Nat → Int32) (L : Nat) {k : Int} (hk : 0 ≤ k ∧ k < 52) : -2147483648 ≤ zcel xs L k ∧ zcel xs L k < 2147483648 := by
  unfold zcel
  split
  · exact zxs_in xs k
  · have key : ∀ a : Fin 52, -2147483648 ≤ 7919 * (((a.val : Nat) : Int) + 3) * (((a.val : Nat) : Int) + 11) ∧ 7919 * (((a.val : Nat) : Int) + 3) * (((a.val : Nat) : Int) + 11) < 2147483648 := by decide
    have h := key ⟨k.toNat, by omega⟩
    dsimp only at h
    rw [Int.toNat_of_nonneg hk.1] at h
    exact h
theorem cell_ct {b L : Nat} {xs : Nat → Int32} (hL : L ≤ 260) {n : Nat} {σ : zS} (k : Int) (hk : 0 ≤ k ∧ k < 52) : zCs b L xs 1 0 0 yL_cell cL_cell 2 (some .int) [zr 0, zi k] n σ (some (zi (zcel xs L k))) n σ := by
  refine zCs.of (by decide) rfl (Nat.le_of_ble_eq_true rfl) (fun K Z => ?_)
  have C := Z.C
  refine x_iload_n C dL_cell_0 rfl ?_
  refine x_aload_n C dL_cell_1 rfl ?_
  refine x_slen Z dL_cell_2 ?_
  refine x_icmp_ge (tgt := 12) C dL_cell_3 (by decide) (by omega) (fun c3 => ?_) (fun c3 => ?_)
  · refine x_sipush C dL_cell_12 (by decide) ?_
    refine x_iload_n C dL_cell_15 rfl ?_
    refine x_iconst C dL_cell_16 ?_
    refine x_iadd C dL_cell_17 ?_
    refine x_imul C dL_cell_18 ?_
    refine x_iload_n C dL_cell_19 rfl ?_
    refine x_bipush C dL_cell_20 (by decide) ?_
    refine x_iadd C dL_cell_22 ?_
    refine x_imul C dL_cell_23 ?_
    exact x_iret (st := []) C dL_cell_24 rfl ⟨congrArg (fun z => some (zi z)) (by unfold zcel; rw [if_neg (by omega)]), rfl, rfl, rfl⟩
  · refine x_aload_n C dL_cell_6 rfl ?_
    refine x_iload_n C dL_cell_7 rfl ?_
    refine x_sld Z hL dL_cell_8 (by omega) ?_
    refine x_goto (tgt := 24) C dL_cell_9 (by decide) ?_
    exact x_iret (st := []) C dL_cell_24 rfl ⟨congrArg (fun z => some (zi z)) (by unfold zcel; rw [if_pos (by omega)]), rfl, rfl, rfl⟩
/-- the judgement in the law's body -/
def zKL (p : Program) (l : Launch) (e : Env) (s : State) (m : MethodId) (b : Nat) (below : List Frame) (meth : Method) (c : Code) (g : zG) : zKT := fun pc Lo st n σ w => ∀ (ls : Array Slot) (H : Heap) (locs : List Loc), (0 ≤ n ∧ n - 0 ≤ 144 ∧ w ≤ 13684) → zL g ls 14 Lo → zH g n σ H → va_S (zF g) s.heap H locs → W p l e room_1 s m #[Value.ref b] below meth c H locs (n - 0) w (lw_Z below #[Value.ref b] s) (F0 m pc ls (st.map (zv g)))
def zLC (nm : String) (b L : Nat) (xs : Nat → Int32) (K : zKT) : Prop := ∃ (p : Program) (l : Launch) (e : Env) (s : State) (m : MethodId) (below : List Frame) (meth : Method) (c : Code) (g : zG), lw_At p s m meth c b L xs ∧ meth.name = nm ∧ zK g s ∧ g.1 = (b, s.heap.size - 1) ∧ K = zKL p l e s m b below meth c g
theorem zLC.X {nm : String} {b L : Nat} {xs : Nat → Int32} {K : zKT} (Z : zLC nm b L xs K) : zXs b L xs ⟨RL, nm, "([I)Z"⟩ cL_law 14 (some .boolean) 100 144 13684 0 (fun v _ _ _ => v = some (zi 1)) K := by
  obtain ⟨p, l, e, s, m, below, meth, c, g, ⟨hx, hb, hr, hml, hown, hts, hX, hbl, hlocks, hgv⟩, hn, hK, hg, rfl⟩ := Z
  refine ⟨p, l, e, room_1, s, m, #[Value.ref b], below, meth, c, lw_Z below #[Value.ref b] s, g, ⟨hx, hb, hml, hown, fun w hw => hts w (List.mem_filter.mp hw).1, hK, hn⟩, ⟨Nat.le_of_ble_eq_true rfl, Nat.le_of_ble_eq_true rfl, Nat.le_of_ble_eq_true rfl, Nat.le_of_ble_eq_true rfl⟩, ?_, rfl, ?_, by rw [hg], hX, hbl⟩
  · rw [hg]
    show s.heap.size = s.heap.size - 1 + 1 + 0
    omega
  · intro v pc Lo st n σ w hrt hR ls H locs hn1 hl hP hS
    have hR1 : v = some (zi 1) := hR
    subst hR1
    rcases hrt with ⟨d, h, h1, h2⟩ | ⟨d, h, h1⟩ | ⟨d, h, x, hx01, h1, h2⟩ | ⟨d, h, h1⟩
    · cases h
    · cases h
    · cases h1
      subst h2
      have e1 : List.map (zv g) [zi 1] = [Value.int 1] := rfl
      rw [e1]
      refine va_forget (fun q hq => ?_) (W.widen (k := 600000) (n := 7302250) (by omega) (by omega) ?_)
      · have h3 : g.1.2 < q.base := hS.2.2 q hq
        rw [hg] at h3
        have h4 : s.heap.size - 1 < q.base := h3
        omega
      · exact lw_ret hx hb hr hlocks d
    · cases h
/-- two equal long answers -/
theorem x_lcmpe {y : MethodName} {cc : ByteArray} {ml : Nat} {ret : Option FieldType} {h mc ms n0 : Nat} {Ret : zRT} {K : zKT} (C : zX y cc ml ret h mc ms n0 Ret K) {pc : Nat} {Lo : List (Option zV)} {st : List zV} {n : Nat} {σ : zS} {w : Nat} {a b : Int} (d : decode cc pc = .ok (.lcmp, 1)) (hab : a = b) (k : K (pc + 1) Lo (zi 0 :: st) n σ w) : K pc Lo (zl b :: zl a :: st) n σ w := by
  subst hab
  obtain ⟨p, l, e, R, s, m, args, below, meth, c, Q, g, ⟨hx, hb, hml, hown, hts, hK, hin⟩, hR, hsz, rfl, hrt⟩ := C
  intro ls H locs hn hl hP hS
  refine W.lcmp hx hb d ?_
  have e0 : lg_cmp (zJ a) (zJ a) = zI 0 := by
    simp [lg_cmp]
    rfl
  rw [e0]
  exact k ls H locs hn hl hP hS
