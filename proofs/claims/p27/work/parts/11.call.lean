set_option maxHeartbeats 2000000 in
theorem x_newa {y : MethodName} {cc : ByteArray} {ml : Nat} {ret : Option FieldType} {h mc ms n0 : Nat} {Ret : zRT} {K : zKT} (C : zX y cc ml ret h mc ms n0 Ret K) {pc : Nat} {Lo : List (Option zV)} {st : List zV} {n : Nat} {σ : zS} {w : Nat} {at0 : ArrayType} {t : Nat} {ty : FieldType} {z : Int} {L : Nat} (d : decode cc pc = .ok (.newarray at0, 2)) (hty : newarray.typeOf at0 = ty) (hdef : defaultValue ty = .int 0) (ht : ∀ g : zG, (zty g)[t]? = some (g.2.2 t, ty)) (hprim : ∀ (U : State) (cA : ClassId), va_RA U cA ty → U.vm.findClass ("[" ++ ty.toString) = some cA) (hw : Cond.arrayClass ty ∈ zGW) (hq : z = L ∧ L * componentBytes ty ≤ 536870912 ∧ (L : Int) < 2147483648) (hf : n + 1 ≤ n0 + mc ∧ w + L ≤ ms) (k : K (pc + 2) Lo (zr ((n : Int) + 1) :: st) (n + 1) (zsu σ ((n : Int) + 1) (zP t L (fun _ => 0))) (w + L)) : K pc Lo (zi z :: st) n σ w := by
  obtain ⟨p, l, e, R, s, m, args, below, meth, c, Q, g, ⟨hx, hb, hml, hown, hts, hK, hin⟩, hR, hsz, rfl, hrt⟩ := C
  intro ls H locs hn hl hP hS
  refine va_newa (a0 := (L, .inl (fun _ => zI 0))) (N' := L) hx hb (by rw [hty]; exact hts _ hw) hty hK.1 hP.2.2 (zD g n σ) hS (fun q hq => by show g.1.2 < q; omega) (fun cA => by rw [vp_cell_i, hdef]; rfl) ?_ ?_ hq.2.1 (by omega) (by omega) d (fun q cA H1 hK1 hP1 hD1 hS1 => ?_)
  · rw [← zI_0, zI_lt (by omega)]; omega
  · rw [zI_cl (by omega)] <;> omega
  have hcA : cA = g.2.2 t := by
    have h1 := hprim _ _ (hK.1.2 t _ (ht g)).2
    have h2 := hprim _ _ (hK1.2 6 (cA, ty) rfl).2
    exact Option.some.inj (h2.symm.trans h1)
  subst hcA
  intro T hT X
  have hz := X.heapSize
  rw [hT, hsz] at hz
  have hq0 : q = g.1.2 + (n + 1) := zq_eq hD1 hP1 (by omega)
  subst hq0
  rw [show ((g.1.2 + (n + 1), Sum.inl (g.2.2 t, (L, Sum.inl (fun _ : Nat => zI 0)))) : Nat × va_E) = (g.1.2 + (n + 1), zc g (zP t L (fun _ => 0))) from rfl, zW_push] at hP1
  refine (W.cs (cells' := n + 1 - n0) (slots' := w + L) (by omega) rfl ?_) T hT X
  have e9 : zv g (zr ((n : Int) + 1)) = .ref (g.1.2 + (n + 1)) := by
    show va_rf (some (zad g _)) = _
    rw [zad_pos g (by omega)]
    rfl
  rw [← e9]
  exact k ls H1 locs ⟨by omega, by omega, by omega⟩ hl ⟨by have := (hP1 n _ (by rw [zW_get, if_pos (by omega)])).lt; dsimp only at this; omega, hP.2.1, hP1⟩ hS1
set_option maxHeartbeats 2000000 in
theorem x_newq3 {y : MethodName} {cc : ByteArray} {ml : Nat} {ret : Option FieldType} {h mc ms n0 : Nat} {Ret : zRT} {K : zKT} (C : zX y cc ml ret h mc ms n0 Ret K) {pc : Nat} {Lo : List (Option zV)} {st : List zV} {n : Nat} {σ : zS} {w : Nat} {idx : Nat} {z : Int} {L : Nat} (d : decode cc pc = .ok (.anewarray idx, 3)) (hw : Cond.classLink y.cls idx "BlockTrees$Matrix" ∈ zGW) (hq : z = L ∧ L * 4 ≤ 536870912 ∧ (L : Int) < 2147483648) (hf : n + 1 ≤ n0 + mc ∧ w + L ≤ ms) (k : K (pc + 3) Lo (zr ((n : Int) + 1) :: st) (n + 1) (zsu σ ((n : Int) + 1) (zQ 3 L (fun _ => none))) (w + L)) : K pc Lo (zi z :: st) n σ w := by
  obtain ⟨p, l, e, R, s, m, args, below, meth, c, Q, g, ⟨hx, hb, hml, hown, hts, hK, hin⟩, hR, hsz, rfl, hrt⟩ := C
  intro ls H locs hn hl hP hS
  refine va_newq (C := "BlockTrees$Matrix") (N' := L) hx hb hown (hts _ hw) hK.2.2.1 hK.1 hP.2.2 (zD g n σ) hS (fun q hq => by show g.1.2 < q; omega) ?_ ?_ hq.2.1 (by omega) (by omega) d (fun q cA H1 hK1 hP1 hD1 hS1 => ?_)
  · rw [← zI_0, zI_lt (by omega)]; omega
  · rw [zI_cl (by omega)] <;> omega
  have hcA : cA = g.2.2 3 := by
    obtain ⟨_, _, _, _, _, h1⟩ := (hK.1.2 3 _ rfl).2
    obtain ⟨_, _, _, _, _, h2⟩ := (hK1.2 6 (cA, .object "BlockTrees$Matrix") rfl).2
    exact Option.some.inj (h2.symm.trans h1)
  subst hcA
  intro T hT X
  have hz := X.heapSize
  rw [hT, hsz] at hz
  have hq0 : q = g.1.2 + (n + 1) := zq_eq hD1 hP1 (by omega)
  subst hq0
  rw [show ((g.1.2 + (n + 1), Sum.inl (g.2.2 3, (L, Sum.inr (Sum.inr (Sum.inr (Sum.inr (fun _ : Nat => none))))))) : Nat × va_E) = (g.1.2 + (n + 1), zc g (zQ 3 L (fun _ => none))) from rfl, zW_push] at hP1
  refine (W.cs (cells' := n + 1 - n0) (slots' := w + L) (by omega) rfl ?_) T hT X
  have e9 : zv g (zr ((n : Int) + 1)) = .ref (g.1.2 + (n + 1)) := by
    show va_rf (some (zad g _)) = _
    rw [zad_pos g (by omega)]
    rfl
  rw [← e9]
  exact k ls H1 locs ⟨by omega, by omega, by omega⟩ hl ⟨by have := (hP1 n _ (by rw [zW_get, if_pos (by omega)])).lt; dsimp only at this; omega, hP.2.1, hP1⟩ hS1
set_option maxHeartbeats 2000000 in
theorem x_newq4 {y : MethodName} {cc : ByteArray} {ml : Nat} {ret : Option FieldType} {h mc ms n0 : Nat} {Ret : zRT} {K : zKT} (C : zX y cc ml ret h mc ms n0 Ret K) {pc : Nat} {Lo : List (Option zV)} {st : List zV} {n : Nat} {σ : zS} {w : Nat} {idx : Nat} {z : Int} {L : Nat} (d : decode cc pc = .ok (.anewarray idx, 3)) (hw : Cond.classLink y.cls idx "BlockTrees$State" ∈ zGW) (hq : z = L ∧ L * 4 ≤ 536870912 ∧ (L : Int) < 2147483648) (hf : n + 1 ≤ n0 + mc ∧ w + L ≤ ms) (k : K (pc + 3) Lo (zr ((n : Int) + 1) :: st) (n + 1) (zsu σ ((n : Int) + 1) (zQ 4 L (fun _ => none))) (w + L)) : K pc Lo (zi z :: st) n σ w := by
  obtain ⟨p, l, e, R, s, m, args, below, meth, c, Q, g, ⟨hx, hb, hml, hown, hts, hK, hin⟩, hR, hsz, rfl, hrt⟩ := C
  intro ls H locs hn hl hP hS
  refine va_newq (C := "BlockTrees$State") (N' := L) hx hb hown (hts _ hw) hK.2.2.2.1 hK.1 hP.2.2 (zD g n σ) hS (fun q hq => by show g.1.2 < q; omega) ?_ ?_ hq.2.1 (by omega) (by omega) d (fun q cA H1 hK1 hP1 hD1 hS1 => ?_)
  · rw [← zI_0, zI_lt (by omega)]; omega
  · rw [zI_cl (by omega)] <;> omega
  have hcA : cA = g.2.2 4 := by
    obtain ⟨_, _, _, _, _, h1⟩ := (hK.1.2 4 _ rfl).2
    obtain ⟨_, _, _, _, _, h2⟩ := (hK1.2 6 (cA, .object "BlockTrees$State") rfl).2
    exact Option.some.inj (h2.symm.trans h1)
  subst hcA
  intro T hT X
  have hz := X.heapSize
  rw [hT, hsz] at hz
  have hq0 : q = g.1.2 + (n + 1) := zq_eq hD1 hP1 (by omega)
  subst hq0
  rw [show ((g.1.2 + (n + 1), Sum.inl (g.2.2 4, (L, Sum.inr (Sum.inr (Sum.inr (Sum.inr (fun _ : Nat => none))))))) : Nat × va_E) = (g.1.2 + (n + 1), zc g (zQ 4 L (fun _ => none))) from rfl, zW_push] at hP1
  refine (W.cs (cells' := n + 1 - n0) (slots' := w + L) (by omega) rfl ?_) T hT X
  have e9 : zv g (zr ((n : Int) + 1)) = .ref (g.1.2 + (n + 1)) := by
    show va_rf (some (zad g _)) = _
    rw [zad_pos g (by omega)]
    rfl
  rw [← e9]
  exact k ls H1 locs ⟨by omega, by omega, by omega⟩ hl ⟨by have := (hP1 n _ (by rw [zW_get, if_pos (by omega)])).lt; dsimp only at this; omega, hP.2.1, hP1⟩ hS1
set_option maxHeartbeats 2000000 in
theorem x_newq5 {y : MethodName} {cc : ByteArray} {ml : Nat} {ret : Option FieldType} {h mc ms n0 : Nat} {Ret : zRT} {K : zKT} (C : zX y cc ml ret h mc ms n0 Ret K) {pc : Nat} {Lo : List (Option zV)} {st : List zV} {n : Nat} {σ : zS} {w : Nat} {idx : Nat} {z : Int} {L : Nat} (d : decode cc pc = .ok (.anewarray idx, 3)) (hw : Cond.classLink y.cls idx "BlockTrees$Slot" ∈ zGW) (hq : z = L ∧ L * 4 ≤ 536870912 ∧ (L : Int) < 2147483648) (hf : n + 1 ≤ n0 + mc ∧ w + L ≤ ms) (k : K (pc + 3) Lo (zr ((n : Int) + 1) :: st) (n + 1) (zsu σ ((n : Int) + 1) (zQ 5 L (fun _ => none))) (w + L)) : K pc Lo (zi z :: st) n σ w := by
  obtain ⟨p, l, e, R, s, m, args, below, meth, c, Q, g, ⟨hx, hb, hml, hown, hts, hK, hin⟩, hR, hsz, rfl, hrt⟩ := C
  intro ls H locs hn hl hP hS
  refine va_newq (C := "BlockTrees$Slot") (N' := L) hx hb hown (hts _ hw) hK.2.2.2.2 hK.1 hP.2.2 (zD g n σ) hS (fun q hq => by show g.1.2 < q; omega) ?_ ?_ hq.2.1 (by omega) (by omega) d (fun q cA H1 hK1 hP1 hD1 hS1 => ?_)
  · rw [← zI_0, zI_lt (by omega)]; omega
  · rw [zI_cl (by omega)] <;> omega
  have hcA : cA = g.2.2 5 := by
    obtain ⟨_, _, _, _, _, h1⟩ := (hK.1.2 5 _ rfl).2
    obtain ⟨_, _, _, _, _, h2⟩ := (hK1.2 6 (cA, .object "BlockTrees$Slot") rfl).2
    exact Option.some.inj (h2.symm.trans h1)
  subst hcA
  intro T hT X
  have hz := X.heapSize
  rw [hT, hsz] at hz
  have hq0 : q = g.1.2 + (n + 1) := zq_eq hD1 hP1 (by omega)
  subst hq0
  rw [show ((g.1.2 + (n + 1), Sum.inl (g.2.2 5, (L, Sum.inr (Sum.inr (Sum.inr (Sum.inr (fun _ : Nat => none))))))) : Nat × va_E) = (g.1.2 + (n + 1), zc g (zQ 5 L (fun _ => none))) from rfl, zW_push] at hP1
  refine (W.cs (cells' := n + 1 - n0) (slots' := w + L) (by omega) rfl ?_) T hT X
  have e9 : zv g (zr ((n : Int) + 1)) = .ref (g.1.2 + (n + 1)) := by
    show va_rf (some (zad g _)) = _
    rw [zad_pos g (by omega)]
    rfl
  rw [← e9]
  exact k ls H1 locs ⟨by omega, by omega, by omega⟩ hl ⟨by have := (hP1 n _ (by rw [zW_get, if_pos (by omega)])).lt; dsimp only at this; omega, hP.2.1, hP1⟩ hS1
set_option maxHeartbeats 2000000 in
theorem x_new {y : MethodName} {cc : ByteArray} {ml : Nat} {ret : Option FieldType} {h mc ms n0 : Nat} {Ret : zRT} {K : zKT} (C : zX y cc ml ret h mc ms n0 Ret K) {pc : Nat} {Lo : List (Option zV)} {st : List zV} {n : Nat} {σ : zS} {w : Nat} {idx ci N : Nat} {CC : String} {T : u_T} {fs : List zV} (d : decode cc pc = .ok (.new idx, 3)) (hc : vwCl[ci]? = some (CC, T, N)) (hw : Cond.classLink y.cls idx CC ∈ zGW ∧ Cond.instantiable CC N ∈ zGW ∧ Cond.initialized CC ∈ zGW ∧ ∀ w ∈ u_ws CC T N, w ∈ zGW) (ty : Nat → FieldType) (hty : ∀ k, k < N → parseFieldDescriptor (T k).2.2.1 = some (ty k)) (hfs : ∀ (g : zG) (j : Nat), j < N → defaultValue (ty j) = vp_V (fs.map (zv g)) j) (hf : n + 1 ≤ n0 + mc ∧ w + N ≤ ms) (k : K (pc + 3) Lo (zr ((n : Int) + 1) :: st) (n + 1) (zsu σ ((n : Int) + 1) (zO ci fs)) (w + N)) : K pc Lo st n σ w := by
  obtain ⟨p, l, e, R, s, m, args, below, meth, c, Q, g, ⟨hx, hb, hml, hown, hts, hK, hin⟩, hR, hsz, rfl, hrt⟩ := C
  intro ls H locs hn hl hP hS
  refine va_new hx hb hts hw.2.2.2 ty hty hown (hts _ hw.1) (hts _ hw.2.1) (hts _ hw.2.2.1) hK.1 hP.2.2 (zD g n σ) hS (fun q hq => by show g.1.2 < q; omega) hc (hfs g) (by omega) (by omega) d (fun q H1 hP1 hD1 hS1 => ?_)
  intro T hT X
  have hz := X.heapSize
  rw [hT, hsz] at hz
  have hq0 : q = g.1.2 + (n + 1) := zq_eq hD1 hP1 (by omega)
  subst hq0
  rw [show ((g.1.2 + (n + 1), Sum.inr (ci, fs.map (zv g))) : Nat × va_E) = (g.1.2 + (n + 1), zc g (zO ci fs)) from rfl, zW_push] at hP1
  refine (W.cs (cells' := n + 1 - n0) (slots' := w + N) (by omega) rfl ?_) T hT X
  have e9 : zv g (zr ((n : Int) + 1)) = .ref (g.1.2 + (n + 1)) := by
    show va_rf (some (zad g _)) = _
    rw [zad_pos g (by omega)]
    rfl
  rw [← e9]
  exact k ls H1 locs ⟨by omega, by omega, by omega⟩ hl ⟨by have := (hP1 n _ (by rw [zW_get, if_pos (by omega)])).lt; dsimp only at this; omega, hP.2.1, hP1⟩ hS1
set_option maxHeartbeats 2000000 in
theorem x_objInit {y : MethodName} {cc : ByteArray} {ml : Nat} {ret : Option FieldType} {h mc ms n0 : Nat} {Ret : zRT} {K : zKT} (C : zX y cc ml ret h mc ms n0 Ret K) {pc : Nat} {Lo : List (Option zV)} {st : List zV} {n : Nat} {σ : zS} {w : Nat} {idx : Nat} {o : Int} (d : decode cc pc = .ok (.invokespecial idx, 3)) (hw : Cond.methodLink y.cls idx objectInit ∈ zGW ∧ Cond.instanceMethod objectInit ∈ zGW ∧ Cond.code objectInit ⟨#[0xb1]⟩ 1 none ∈ zGW) (h1 : 1 ≤ h) (hc : zcat st ≤ 8) (k : K (pc + 3) Lo st n σ w) : K pc Lo (zr o :: st) n σ w := by
  obtain ⟨p, l, e, R, s, m, args, below, meth, c, Q, g, ⟨hx, hb, hml, hown, hts, hK, hin⟩, hR, hsz, rfl, hrt⟩ := C
  intro ls H locs hn hl hP hS
  refine W.objInit hx hb hown (hts _ hw.1) (hts _ hw.2.1) (hts _ hw.2.2) rfl (by rw [hml]; exact hl.1) rfl d (by omega) ?_ (k ls H locs hn hl hP hS)
  have e := zcat_eq g st
  show 2 * 0 + _ + 12 ≤ _
  omega
set_option maxHeartbeats 2000000 in
theorem x_callS {y : MethodName} {cc : ByteArray} {ml : Nat} {ret : Option FieldType} {h mc ms n0 : Nat} {Ret : zRT} {K : zKT} (C : zX y cc ml ret h mc ms n0 Ret K) {pc : Nat} {Lo : List (Option zV)} {st : List zV} {n : Nat} {σ : zS} {w : Nat} {y' : MethodName} {cc' : ByteArray} {ml' : Nat} {ret' : Option FieldType} {h' mc' ms' na idx n' : Nat} {as rest : List zV} {r : Option zV} {σ' : zS} (d : decode cc pc = .ok (.invokestatic idx, 3)) (hM : zCt h' mc' ms' y' cc' ml' ret' as n σ r n' σ') (ok : zOk y' cc' ml' ret' na) (lk : zLs y.cls idx y') (hh : h' < h ∧ as.length = na ∧ n' = n + mc' ∧ zcat rest ≤ 8) (hst : as.reverse ++ rest = st) (hf : mc' = 0 ∧ ms' = 0 ∨ n + mc' ≤ n0 + mc ∧ w + ms' ≤ ms) (k : K (pc + 3) Lo (r.toList ++ rest) n' σ' (w + ms')) : K pc Lo st n σ w := by
  obtain ⟨p, l, e, R, s, m, args, below, meth, c, Q, g, ⟨hx, hb, hml, hown, hts, hK, hin⟩, hR, hsz, rfl, hrt⟩ := C
  intro ls H locs hn hl hP hS
  intro T hT X
  have hz : H.size = g.1.2 + 1 + n := by
    have h1 := X.heapSize
    rw [hT] at h1
    have h2 := hP.1
    omega
  subst hst
  obtain ⟨⟨ok1, ok2⟩, ok3, ok4, ok5, ok6⟩ := ok
  obtain ⟨hh1, hh2, hh3, hh4⟩ := hh
  have hws : ∀ w ∈ (Cond.code y' cc' ml' ret' :: zGW), ∀ (a' : Array Value) (U : State), s.WarmedH U.vm → w.before a' U = true := pay_in hts (zGoodIn ok5)
  have hrm : (zRm h' mc' ms').frames + 1 ≤ R.frames ∧ 8 + (ml' + 11) + (zRm h' mc' ms').locals ≤ R.locals := by
    show h' + 1 ≤ _ ∧ 8 + (ml' + 11) + 64 * h' ≤ _
    omega
  have hlen : ∀ sig, parseMethodDescriptor y'.desc = some sig → na = sig.parameters.length := fun sig q => by
    rw [q] at ok3
    exact (Option.some.inj ok3).symm
  have hfb : FrameBlind (zPre g n σ as) := fun a U fr mk q => ⟨q.1, q.2.1, q.2.2.1, zK.calling fr mk a q.2.2.2⟩
  have hpc : ∀ U : State, U.heap = H → s.WarmedH U.vm → zPre g n σ as (as.map (zv g)).toArray U := fun U hU hW => ⟨rfl, by rw [hU]; exact hz, by rw [hU]; exact hP, zK.warm hW hK⟩
  have hcat : 2 * (0 : Nat) + ((rest.map (zv g)).map fun v => v.category).sum ≤ 8 := by
    rw [zcat_eq]
    omega
  have hstk : ((as.reverse ++ rest).map (zv g)) = (as.map (zv g)).reverse ++ rest.map (zv g) := by
    simp [List.map_append, List.map_reverse]
  have hfix : CallFix p m c cc ml s args zGW y.cls := ⟨hx, hb, hml, hown, hts⟩
  have hrun : va_Run p l e R s m args below meth c H locs (n - n0) w mc' ms' (F0 m pc ls ((as.reverse ++ rest).map (zv g))) (rest.map (zv g)) (zPost g r n' σ' (as.map (zv g)).toArray) (zF g) := (va_runS (As := as.map (zv g)) (rest := rest.map (zv g)) hfix (hM l g) ⟨⟨rfl, rfl, hrm.1, hrm.2, hws, List.mem_cons_self, hts _ ok5, hts _ ok6, ⟨ok1, ok2⟩, hlen, hts _ lk.1⟩, hts _ lk.2⟩ ⟨hfb, hpc⟩ rfl (by rw [List.length_map]; exact hh2) hl.1 hstk hcat d ⟨by omega, by omega⟩)
  exact zrun hrun hS (fun H1 locs1 h1 h2 => by
    have hk := k ls H1 locs1 ⟨by omega, by omega, by omega⟩ hl h1 h2
    rw [show n' - n0 = n - n0 + mc' by omega, show ((r.toList ++ rest).map (zv g)) = (r.map (zv g)).toList ++ rest.map (zv g) by cases r <;> simp] at hk
    exact hk) T hT X
set_option maxHeartbeats 2000000 in
theorem x_callSN {y : MethodName} {cc : ByteArray} {ml : Nat} {ret : Option FieldType} {h mc ms n0 : Nat} {Ret : zRT} {K : zKT} (C : zX y cc ml ret h mc ms n0 Ret K) {pc : Nat} {Lo : List (Option zV)} {st : List zV} {n : Nat} {σ : zS} {w : Nat} {y' : MethodName} {cc' : ByteArray} {ml' : Nat} {ret' : Option FieldType} {h' mc' ms' na idx n' : Nat} {as rest : List zV} {r : Option zV} {σ' : zS} (d : decode cc pc = .ok (.invokestatic idx, 3)) (hM : zCt h' mc' ms' y' cc' ml' ret' as n σ r n' σ') (ok : zOk y' cc' ml' ret' na) (lk : zNs y.cls idx y') (hh : h' < h ∧ as.length = na ∧ n' = n + mc' ∧ zcat rest ≤ 8) (hst : as.reverse ++ rest = st) (hf : mc' = 0 ∧ ms' = 0 ∨ n + mc' ≤ n0 + mc ∧ w + ms' ≤ ms) (k : K (pc + 3) Lo (r.toList ++ rest) n' σ' (w + ms')) : K pc Lo st n σ w := by
  obtain ⟨p, l, e, R, s, m, args, below, meth, c, Q, g, ⟨hx, hb, hml, hown, hts, hK, hin⟩, hR, hsz, rfl, hrt⟩ := C
  intro ls H locs hn hl hP hS
  intro T hT X
  have hz : H.size = g.1.2 + 1 + n := by
    have h1 := X.heapSize
    rw [hT] at h1
    have h2 := hP.1
    omega
  subst hst
  obtain ⟨⟨ok1, ok2⟩, ok3, ok4, ok5, ok6⟩ := ok
  obtain ⟨hh1, hh2, hh3, hh4⟩ := hh
  have hws : ∀ w ∈ (Cond.code y' cc' ml' ret' :: zGW), ∀ (a' : Array Value) (U : State), s.WarmedH U.vm → w.before a' U = true := pay_in hts (zGoodIn ok5)
  have hrm : (zRm h' mc' ms').frames + 1 ≤ R.frames ∧ 8 + (ml' + 11) + (zRm h' mc' ms').locals ≤ R.locals := by
    show h' + 1 ≤ _ ∧ 8 + (ml' + 11) + 64 * h' ≤ _
    omega
  have hlen : ∀ sig, parseMethodDescriptor y'.desc = some sig → na = sig.parameters.length := fun sig q => by
    rw [q] at ok3
    exact (Option.some.inj ok3).symm
  have hfb : FrameBlind (zPre g n σ as) := fun a U fr mk q => ⟨q.1, q.2.1, q.2.2.1, zK.calling fr mk a q.2.2.2⟩
  have hpc : ∀ U : State, U.heap = H → s.WarmedH U.vm → zPre g n σ as (as.map (zv g)).toArray U := fun U hU hW => ⟨rfl, by rw [hU]; exact hz, by rw [hU]; exact hP, zK.warm hW hK⟩
  have hcat : 2 * (0 : Nat) + ((rest.map (zv g)).map fun v => v.category).sum ≤ 8 := by
    rw [zcat_eq]
    omega
  have hstk : ((as.reverse ++ rest).map (zv g)) = (as.map (zv g)).reverse ++ rest.map (zv g) := by
    simp [List.map_append, List.map_reverse]
  have hfix : CallFix p m c cc ml s args zGW y.cls := ⟨hx, hb, hml, hown, hts⟩
  have hrun : va_Run p l e R s m args below meth c H locs (n - n0) w mc' ms' (F0 m pc ls ((as.reverse ++ rest).map (zv g))) (rest.map (zv g)) (zPost g r n' σ' (as.map (zv g)).toArray) (zF g) := (va_runSN (As := as.map (zv g)) (rest := rest.map (zv g)) hfix (hM l g) ⟨⟨⟨rfl, rfl, hrm.1, hrm.2, hws, List.mem_cons_self⟩, hts _ ok5, hts _ ok6, ⟨ok1, ok2⟩, hlen, va_Nw.use rfl (hK.2.1 _ lk.1)⟩, hts _ lk.2, trivial⟩ ⟨hfb, hpc⟩ rfl (by rw [List.length_map]; exact hh2) hl.1 hstk hcat d ⟨by omega, by omega⟩)
  exact zrun hrun hS (fun H1 locs1 h1 h2 => by
    have hk := k ls H1 locs1 ⟨by omega, by omega, by omega⟩ hl h1 h2
    rw [show n' - n0 = n - n0 + mc' by omega, show ((r.toList ++ rest).map (zv g)) = (r.map (zv g)).toList ++ rest.map (zv g) by cases r <;> simp] at hk
    exact hk) T hT X
set_option maxHeartbeats 2000000 in
theorem x_callV {y : MethodName} {cc : ByteArray} {ml : Nat} {ret : Option FieldType} {h mc ms n0 : Nat} {Ret : zRT} {K : zKT} (C : zX y cc ml ret h mc ms n0 Ret K) {pc : Nat} {Lo : List (Option zV)} {st : List zV} {n : Nat} {σ : zS} {w : Nat} {y' : MethodName} {cc' : ByteArray} {ml' : Nat} {ret' : Option FieldType} {h' mc' ms' na idx n' : Nat} {as rest : List zV} {r : Option zV} {σ' : zS} {b : Int} {ci : Nat} {vs : List zV} {C0 : String} {T0 : u_T} {N0 : Nat} (d : decode cc pc = .ok (.invokevirtual idx, 3)) (hM : zCt h' mc' ms' y' cc' ml' ret' (zr b :: as) n σ r n' σ') (ok : zOk y' cc' ml' ret' na) (lk : zLv y.cls idx y') (ho : (σ b = zO ci vs ∧ vwCl[ci]? = some (C0, T0, N0) ∧ C0 = y'.cls) ∧ 0 < b ∧ b ≤ n) (hh : h' < h ∧ as.length = na ∧ n' = n + mc' ∧ zcat rest ≤ 8) (hst : as.reverse ++ zr b :: rest = st) (hf : mc' = 0 ∧ ms' = 0 ∨ n + mc' ≤ n0 + mc ∧ w + ms' ≤ ms) (k : K (pc + 3) Lo (r.toList ++ rest) n' σ' (w + ms')) : K pc Lo st n σ w := by
  obtain ⟨p, l, e, R, s, m, args, below, meth, c, Q, g, ⟨hx, hb, hml, hown, hts, hK, hin⟩, hR, hsz, rfl, hrt⟩ := C
  intro ls H locs hn hl hP hS
  intro T hT X
  have hz : H.size = g.1.2 + 1 + n := by
    have h1 := X.heapSize
    rw [hT] at h1
    have h2 := hP.1
    omega
  subst hst
  obtain ⟨⟨ok1, ok2⟩, ok3, ok4, ok5, ok6⟩ := ok
  obtain ⟨hh1, hh2, hh3, hh4⟩ := hh
  have hws : ∀ w ∈ (Cond.code y' cc' ml' ret' :: zGW), ∀ (a' : Array Value) (U : State), s.WarmedH U.vm → w.before a' U = true := pay_in hts (zGoodIn ok5)
  have hrm : (zRm h' mc' ms').frames + 1 ≤ R.frames ∧ 8 + (ml' + 11) + (zRm h' mc' ms').locals ≤ R.locals := by
    show h' + 1 ≤ _ ∧ 8 + (ml' + 11) + 64 * h' ≤ _
    omega
  have hlen : ∀ sig, parseMethodDescriptor y'.desc = some sig → na = sig.parameters.length := fun sig q => by
    rw [q] at ok3
    exact (Option.some.inj ok3).symm
  have hfb : FrameBlind (zPre g n σ (zr b :: as)) := fun a U fr mk q => ⟨q.1, q.2.1, q.2.2.1, zK.calling fr mk a q.2.2.2⟩
  have hpc : ∀ U : State, U.heap = H → s.WarmedH U.vm → zPre g n σ (zr b :: as) ((zr b :: as).map (zv g)).toArray U := fun U hU hW => ⟨rfl, by rw [hU]; exact hz, by rw [hU]; exact hP, zK.warm hW hK⟩
  have hcat : 2 * (0 : Nat) + ((rest.map (zv g)).map fun v => v.category).sum ≤ 8 := by
    rw [zcat_eq]
    omega
  have hstk : ((as.reverse ++ zr b :: rest).map (zv g)) = (as.map (zv g)).reverse ++ zv g (zr b) :: rest.map (zv g) := by
    simp [List.map_append, List.map_reverse]
  have hfix : CallFix p m c cc ml s args zGW y.cls := ⟨hx, hb, hml, hown, hts⟩
  obtain ⟨⟨ho1, ho2, ho3⟩, ho4⟩ := ho
  have hat := zW_at g σ ho4
  rw [ho1] at hat
  subst ho3
  have hrecv := va_recv hK.1 hP.2.2 ho2 hat
  have hrun : va_Run p l e R s m args below meth c H locs (n - n0) w mc' ms' (F0 m pc ls ((as.reverse ++ zr b :: rest).map (zv g))) (rest.map (zv g)) (zPost g r n' σ' ((zr b :: as).map (zv g)).toArray) (zF g) := (va_runV (b := zad g b) (As := as.map (zv g)) (rest := rest.map (zv g)) hfix (hM l g) ⟨⟨rfl, rfl, hrm.1, hrm.2, hws, List.mem_cons_self, hts _ ok5, hts _ ok6, ⟨ok1, ok2⟩, hlen, hts _ lk.1⟩, hts _ lk.2.1, hts _ lk.2.2⟩ ⟨hfb, hrecv, hpc⟩ rfl (by rw [List.length_map]; exact hh2) hl.1 hstk hcat d ⟨by omega, by omega⟩)
  exact zrun hrun hS (fun H1 locs1 h1 h2 => by
    have hk := k ls H1 locs1 ⟨by omega, by omega, by omega⟩ hl h1 h2
    rw [show n' - n0 = n - n0 + mc' by omega, show ((r.toList ++ rest).map (zv g)) = (r.map (zv g)).toList ++ rest.map (zv g) by cases r <;> simp] at hk
    exact hk) T hT X
set_option maxHeartbeats 2000000 in
theorem x_callVN {y : MethodName} {cc : ByteArray} {ml : Nat} {ret : Option FieldType} {h mc ms n0 : Nat} {Ret : zRT} {K : zKT} (C : zX y cc ml ret h mc ms n0 Ret K) {pc : Nat} {Lo : List (Option zV)} {st : List zV} {n : Nat} {σ : zS} {w : Nat} {y' : MethodName} {cc' : ByteArray} {ml' : Nat} {ret' : Option FieldType} {h' mc' ms' na idx n' : Nat} {as rest : List zV} {r : Option zV} {σ' : zS} {b : Int} {ci : Nat} {vs : List zV} {C0 : String} {T0 : u_T} {N0 : Nat} (d : decode cc pc = .ok (.invokevirtual idx, 3)) (hM : zCt h' mc' ms' y' cc' ml' ret' (zr b :: as) n σ r n' σ') (ok : zOk y' cc' ml' ret' na) (lk : zNv y.cls idx y') (ho : (σ b = zO ci vs ∧ vwCl[ci]? = some (C0, T0, N0) ∧ C0 = y'.cls) ∧ 0 < b ∧ b ≤ n) (hh : h' < h ∧ as.length = na ∧ n' = n + mc' ∧ zcat rest ≤ 8) (hst : as.reverse ++ zr b :: rest = st) (hf : mc' = 0 ∧ ms' = 0 ∨ n + mc' ≤ n0 + mc ∧ w + ms' ≤ ms) (k : K (pc + 3) Lo (r.toList ++ rest) n' σ' (w + ms')) : K pc Lo st n σ w := by
  obtain ⟨p, l, e, R, s, m, args, below, meth, c, Q, g, ⟨hx, hb, hml, hown, hts, hK, hin⟩, hR, hsz, rfl, hrt⟩ := C
  intro ls H locs hn hl hP hS
  intro T hT X
  have hz : H.size = g.1.2 + 1 + n := by
    have h1 := X.heapSize
    rw [hT] at h1
    have h2 := hP.1
    omega
  subst hst
  obtain ⟨⟨ok1, ok2⟩, ok3, ok4, ok5, ok6⟩ := ok
  obtain ⟨hh1, hh2, hh3, hh4⟩ := hh
  have hws : ∀ w ∈ (Cond.code y' cc' ml' ret' :: zGW), ∀ (a' : Array Value) (U : State), s.WarmedH U.vm → w.before a' U = true := pay_in hts (zGoodIn ok5)
  have hrm : (zRm h' mc' ms').frames + 1 ≤ R.frames ∧ 8 + (ml' + 11) + (zRm h' mc' ms').locals ≤ R.locals := by
    show h' + 1 ≤ _ ∧ 8 + (ml' + 11) + 64 * h' ≤ _
    omega
  have hlen : ∀ sig, parseMethodDescriptor y'.desc = some sig → na = sig.parameters.length := fun sig q => by
    rw [q] at ok3
    exact (Option.some.inj ok3).symm
  have hfb : FrameBlind (zPre g n σ (zr b :: as)) := fun a U fr mk q => ⟨q.1, q.2.1, q.2.2.1, zK.calling fr mk a q.2.2.2⟩
  have hpc : ∀ U : State, U.heap = H → s.WarmedH U.vm → zPre g n σ (zr b :: as) ((zr b :: as).map (zv g)).toArray U := fun U hU hW => ⟨rfl, by rw [hU]; exact hz, by rw [hU]; exact hP, zK.warm hW hK⟩
  have hcat : 2 * (0 : Nat) + ((rest.map (zv g)).map fun v => v.category).sum ≤ 8 := by
    rw [zcat_eq]
    omega
  have hstk : ((as.reverse ++ zr b :: rest).map (zv g)) = (as.map (zv g)).reverse ++ zv g (zr b) :: rest.map (zv g) := by
    simp [List.map_append, List.map_reverse]
  have hfix : CallFix p m c cc ml s args zGW y.cls := ⟨hx, hb, hml, hown, hts⟩
  obtain ⟨⟨ho1, ho2, ho3⟩, ho4⟩ := ho
  have hat := zW_at g σ ho4
  rw [ho1] at hat
  subst ho3
  have hrecv := va_recv hK.1 hP.2.2 ho2 hat
  have hrun : va_Run p l e R s m args below meth c H locs (n - n0) w mc' ms' (F0 m pc ls ((as.reverse ++ zr b :: rest).map (zv g))) (rest.map (zv g)) (zPost g r n' σ' ((zr b :: as).map (zv g)).toArray) (zF g) := (va_runVN (b := zad g b) (As := as.map (zv g)) (rest := rest.map (zv g)) hfix (hM l g) ⟨⟨⟨rfl, rfl, hrm.1, hrm.2, hws, List.mem_cons_self⟩, hts _ ok5, hts _ ok6, ⟨ok1, ok2⟩, hlen, va_Nw.use rfl (hK.2.1 _ lk.1)⟩, hts _ lk.2.1, hts _ lk.2.2⟩ ⟨hfb, hrecv, hpc⟩ rfl (by rw [List.length_map]; exact hh2) hl.1 hstk hcat d ⟨by omega, by omega⟩)
  exact zrun hrun hS (fun H1 locs1 h1 h2 => by
    have hk := k ls H1 locs1 ⟨by omega, by omega, by omega⟩ hl h1 h2
    rw [show n' - n0 = n - n0 + mc' by omega, show ((r.toList ++ rest).map (zv g)) = (r.map (zv g)).toList ++ rest.map (zv g) by cases r <;> simp] at hk
    exact hk) T hT X
set_option maxHeartbeats 2000000 in
theorem x_callI {y : MethodName} {cc : ByteArray} {ml : Nat} {ret : Option FieldType} {h mc ms n0 : Nat} {Ret : zRT} {K : zKT} (C : zX y cc ml ret h mc ms n0 Ret K) {pc : Nat} {Lo : List (Option zV)} {st : List zV} {n : Nat} {σ : zS} {w : Nat} {y' : MethodName} {cc' : ByteArray} {ml' : Nat} {h' mc' ms' na idx n' : Nat} {as rest : List zV} {r : Option zV} {σ' : zS} {b : Int} (d : decode cc pc = .ok (.invokespecial idx, 3)) (hM : zCt h' mc' ms' y' cc' ml' none (zr b :: as) n σ r n' σ') (ok : zOk y' cc' ml' none na) (lk : zLi y.cls idx y') (hh : h' < h ∧ as.length = na ∧ n' = n + mc' ∧ zcat rest ≤ 8) (hst : as.reverse ++ zr b :: rest = st) (hf : mc' = 0 ∧ ms' = 0 ∨ n + mc' ≤ n0 + mc ∧ w + ms' ≤ ms) (k : K (pc + 3) Lo (r.toList ++ rest) n' σ' (w + ms')) : K pc Lo st n σ w := by
  obtain ⟨p, l, e, R, s, m, args, below, meth, c, Q, g, ⟨hx, hb, hml, hown, hts, hK, hin⟩, hR, hsz, rfl, hrt⟩ := C
  intro ls H locs hn hl hP hS
  intro T hT X
  have hz : H.size = g.1.2 + 1 + n := by
    have h1 := X.heapSize
    rw [hT] at h1
    have h2 := hP.1
    omega
  subst hst
  obtain ⟨⟨ok1, ok2⟩, ok3, ok4, ok5, ok6⟩ := ok
  obtain ⟨hh1, hh2, hh3, hh4⟩ := hh
  have hws : ∀ w ∈ (Cond.code y' cc' ml' none :: zGW), ∀ (a' : Array Value) (U : State), s.WarmedH U.vm → w.before a' U = true := pay_in hts (zGoodIn ok5)
  have hrm : (zRm h' mc' ms').frames + 1 ≤ R.frames ∧ 8 + (ml' + 11) + (zRm h' mc' ms').locals ≤ R.locals := by
    show h' + 1 ≤ _ ∧ 8 + (ml' + 11) + 64 * h' ≤ _
    omega
  have hlen : ∀ sig, parseMethodDescriptor y'.desc = some sig → na = sig.parameters.length := fun sig q => by
    rw [q] at ok3
    exact (Option.some.inj ok3).symm
  have hfb : FrameBlind (zPre g n σ (zr b :: as)) := fun a U fr mk q => ⟨q.1, q.2.1, q.2.2.1, zK.calling fr mk a q.2.2.2⟩
  have hpc : ∀ U : State, U.heap = H → s.WarmedH U.vm → zPre g n σ (zr b :: as) ((zr b :: as).map (zv g)).toArray U := fun U hU hW => ⟨rfl, by rw [hU]; exact hz, by rw [hU]; exact hP, zK.warm hW hK⟩
  have hcat : 2 * (0 : Nat) + ((rest.map (zv g)).map fun v => v.category).sum ≤ 8 := by
    rw [zcat_eq]
    omega
  have hstk : ((as.reverse ++ zr b :: rest).map (zv g)) = (as.map (zv g)).reverse ++ zv g (zr b) :: rest.map (zv g) := by
    simp [List.map_append, List.map_reverse]
  have hfix : CallFix p m c cc ml s args zGW y.cls := ⟨hx, hb, hml, hown, hts⟩
  have hrun : va_Run p l e R s m args below meth c H locs (n - n0) w mc' ms' (F0 m pc ls ((as.reverse ++ zr b :: rest).map (zv g))) (rest.map (zv g)) (zPost g r n' σ' ((zr b :: as).map (zv g)).toArray) (zF g) := (va_runI (b := zad g b) (As := as.map (zv g)) (rest := rest.map (zv g)) hfix (hM l g) ⟨⟨rfl, rfl, hrm.1, hrm.2, hws, List.mem_cons_self, hts _ ok5, hts _ ok6, ⟨ok1, ok2⟩, hlen, hts _ lk.1⟩, lk.2.2, hts _ lk.2.1⟩ ⟨hfb, hpc⟩ rfl (by rw [List.length_map]; exact hh2) hl.1 hstk hcat d ⟨by omega, by omega⟩)
  exact zrun hrun hS (fun H1 locs1 h1 h2 => by
    have hk := k ls H1 locs1 ⟨by omega, by omega, by omega⟩ hl h1 h2
    rw [show n' - n0 = n - n0 + mc' by omega, show ((r.toList ++ rest).map (zv g)) = (r.map (zv g)).toList ++ rest.map (zv g) by cases r <;> simp] at hk
    exact hk) T hT X
set_option maxHeartbeats 2000000 in
theorem x_callIN {y : MethodName} {cc : ByteArray} {ml : Nat} {ret : Option FieldType} {h mc ms n0 : Nat} {Ret : zRT} {K : zKT} (C : zX y cc ml ret h mc ms n0 Ret K) {pc : Nat} {Lo : List (Option zV)} {st : List zV} {n : Nat} {σ : zS} {w : Nat} {y' : MethodName} {cc' : ByteArray} {ml' : Nat} {h' mc' ms' na idx n' : Nat} {as rest : List zV} {r : Option zV} {σ' : zS} {b : Int} (d : decode cc pc = .ok (.invokespecial idx, 3)) (hM : zCt h' mc' ms' y' cc' ml' none (zr b :: as) n σ r n' σ') (ok : zOk y' cc' ml' none na) (lk : zNi y.cls idx y') (hh : h' < h ∧ as.length = na ∧ n' = n + mc' ∧ zcat rest ≤ 8) (hst : as.reverse ++ zr b :: rest = st) (hf : mc' = 0 ∧ ms' = 0 ∨ n + mc' ≤ n0 + mc ∧ w + ms' ≤ ms) (k : K (pc + 3) Lo (r.toList ++ rest) n' σ' (w + ms')) : K pc Lo st n σ w := by
  obtain ⟨p, l, e, R, s, m, args, below, meth, c, Q, g, ⟨hx, hb, hml, hown, hts, hK, hin⟩, hR, hsz, rfl, hrt⟩ := C
  intro ls H locs hn hl hP hS
  intro T hT X
  have hz : H.size = g.1.2 + 1 + n := by
    have h1 := X.heapSize
    rw [hT] at h1
    have h2 := hP.1
    omega
  subst hst
  obtain ⟨⟨ok1, ok2⟩, ok3, ok4, ok5, ok6⟩ := ok
  obtain ⟨hh1, hh2, hh3, hh4⟩ := hh
  have hws : ∀ w ∈ (Cond.code y' cc' ml' none :: zGW), ∀ (a' : Array Value) (U : State), s.WarmedH U.vm → w.before a' U = true := pay_in hts (zGoodIn ok5)
  have hrm : (zRm h' mc' ms').frames + 1 ≤ R.frames ∧ 8 + (ml' + 11) + (zRm h' mc' ms').locals ≤ R.locals := by
    show h' + 1 ≤ _ ∧ 8 + (ml' + 11) + 64 * h' ≤ _
    omega
  have hlen : ∀ sig, parseMethodDescriptor y'.desc = some sig → na = sig.parameters.length := fun sig q => by
    rw [q] at ok3
    exact (Option.some.inj ok3).symm
  have hfb : FrameBlind (zPre g n σ (zr b :: as)) := fun a U fr mk q => ⟨q.1, q.2.1, q.2.2.1, zK.calling fr mk a q.2.2.2⟩
  have hpc : ∀ U : State, U.heap = H → s.WarmedH U.vm → zPre g n σ (zr b :: as) ((zr b :: as).map (zv g)).toArray U := fun U hU hW => ⟨rfl, by rw [hU]; exact hz, by rw [hU]; exact hP, zK.warm hW hK⟩
  have hcat : 2 * (0 : Nat) + ((rest.map (zv g)).map fun v => v.category).sum ≤ 8 := by
    rw [zcat_eq]
    omega
  have hstk : ((as.reverse ++ zr b :: rest).map (zv g)) = (as.map (zv g)).reverse ++ zv g (zr b) :: rest.map (zv g) := by
    simp [List.map_append, List.map_reverse]
  have hfix : CallFix p m c cc ml s args zGW y.cls := ⟨hx, hb, hml, hown, hts⟩
  have hrun : va_Run p l e R s m args below meth c H locs (n - n0) w mc' ms' (F0 m pc ls ((as.reverse ++ zr b :: rest).map (zv g))) (rest.map (zv g)) (zPost g r n' σ' ((zr b :: as).map (zv g)).toArray) (zF g) := (va_runIN (b := zad g b) (As := as.map (zv g)) (rest := rest.map (zv g)) hfix (hM l g) ⟨⟨⟨rfl, rfl, hrm.1, hrm.2, hws, List.mem_cons_self⟩, hts _ ok5, hts _ ok6, ⟨ok1, ok2⟩, hlen, va_Nw.use rfl (hK.2.1 _ lk.1)⟩, lk.2.2, hts _ lk.2.1⟩ ⟨hfb, hpc⟩ rfl (by rw [List.length_map]; exact hh2) hl.1 hstk hcat d ⟨by omega, by omega⟩)
  exact zrun hrun hS (fun H1 locs1 h1 h2 => by
    have hk := k ls H1 locs1 ⟨by omega, by omega, by omega⟩ hl h1 h2
    rw [show n' - n0 = n - n0 + mc' by omega, show ((r.toList ++ rest).map (zv g)) = (r.map (zv g)).toList ++ rest.map (zv g) by cases r <;> simp] at hk
    exact hk) T hT X
