set_option maxHeartbeats 2000000 in
theorem x_dcmp {y : MethodName} {cc : ByteArray} {ml : Nat} {ret : Option FieldType} {h mc ms n0 : Nat} {Ret : zRT} {K : zKT} (C : zX y cc ml ret h mc ms n0 Ret K) {pc : Nat} {Lo : List (Option zV)} {st : List zV} {n : Nat} {σ : zS} {w : Nat} {a b : UInt64} {op : CmpOp} {r : Int} (d : decode cc pc = .ok (.dcmp op, 1)) (hr : Op.cmpValue (FP.dcmp a b) op = zI r) (k : K (pc + 1) Lo (zi r :: st) n σ w) : K pc Lo (zd b :: zd a :: st) n σ w := by
  obtain ⟨p, l, e, R, s, m, args, below, meth, c, Q, g, ⟨hx, hb, hml, hown, hts, hK, hin⟩, hR, hsz, rfl, hrt⟩ := C
  intro ls H locs hn hl hP hS
  refine lv_dcmp hx hb d ?_
  rw [hr]
  exact k ls H locs hn hl hP hS
set_option maxHeartbeats 2000000 in
theorem x_d2l {y : MethodName} {cc : ByteArray} {ml : Nat} {ret : Option FieldType} {h mc ms n0 : Nat} {Ret : zRT} {K : zKT} (C : zX y cc ml ret h mc ms n0 Ret K) {pc : Nat} {Lo : List (Option zV)} {st : List zV} {n : Nat} {σ : zS} {w : Nat} {idx : Nat} {x : UInt64} (d : decode cc pc = .ok (.invokestatic idx, 3)) (hw : Cond.methodLink y.cls idx ⟨"java/lang/Double", "doubleToRawLongBits", "(D)J"⟩ ∈ zGW ∧ Cond.native ⟨"java/lang/Double", "doubleToRawLongBits", "(D)J"⟩ ∈ zGW ∧ Cond.static ⟨"java/lang/Double", "doubleToRawLongBits", "(D)J"⟩ ∈ zGW ∧ Cond.initialized "java/lang/Double" ∈ zGW) (h1 : 1 ≤ h) (hc : zcat st ≤ 8) (k : K (pc + 3) Lo (zl ((x.toInt64).toInt) :: st) n σ w) : K pc Lo (zd x :: st) n σ w := by
  obtain ⟨p, l, e, R, s, m, args, below, meth, c, Q, g, ⟨hx, hb, hml, hown, hts, hK, hin⟩, hR, hsz, rfl, hrt⟩ := C
  intro ls H locs hn hl hP hS
  have k := k ls H locs hn hl hP hS
  have e9 := zcat_eq g st
  refine vn_d2l hx hb (by rw [hml]; exact hl.1.symm) hown (hts _ hw.1) (hts _ hw.2.1) (hts _ hw.2.2.1) (hts _ hw.2.2.2) (by omega) (by omega) d ?_
  have e8 : zv g (zl ((x.toInt64).toInt)) = .long x.toInt64 := congrArg _ (zJ_to _)
  rw [← e8]
  exact k
set_option maxHeartbeats 2000000 in
theorem x_fcmp {y : MethodName} {cc : ByteArray} {ml : Nat} {ret : Option FieldType} {h mc ms n0 : Nat} {Ret : zRT} {K : zKT} (C : zX y cc ml ret h mc ms n0 Ret K) {pc : Nat} {Lo : List (Option zV)} {st : List zV} {n : Nat} {σ : zS} {w : Nat} {a b : UInt32} {op : CmpOp} {r : Int} (d : decode cc pc = .ok (.fcmp op, 1)) (hr : Op.cmpValue (FP.fcmp a b) op = zI r) (k : K (pc + 1) Lo (zi r :: st) n σ w) : K pc Lo (zf b :: zf a :: st) n σ w := by
  obtain ⟨p, l, e, R, s, m, args, below, meth, c, Q, g, ⟨hx, hb, hml, hown, hts, hK, hin⟩, hR, hsz, rfl, hrt⟩ := C
  intro ls H locs hn hl hP hS
  refine lv_fcmp hx hb d ?_
  rw [hr]
  exact k ls H locs hn hl hP hS
set_option maxHeartbeats 2000000 in
theorem x_f2i {y : MethodName} {cc : ByteArray} {ml : Nat} {ret : Option FieldType} {h mc ms n0 : Nat} {Ret : zRT} {K : zKT} (C : zX y cc ml ret h mc ms n0 Ret K) {pc : Nat} {Lo : List (Option zV)} {st : List zV} {n : Nat} {σ : zS} {w : Nat} {idx : Nat} {x : UInt32} (d : decode cc pc = .ok (.invokestatic idx, 3)) (hw : Cond.methodLink y.cls idx ⟨"java/lang/Float", "floatToRawIntBits", "(F)I"⟩ ∈ zGW ∧ Cond.native ⟨"java/lang/Float", "floatToRawIntBits", "(F)I"⟩ ∈ zGW ∧ Cond.static ⟨"java/lang/Float", "floatToRawIntBits", "(F)I"⟩ ∈ zGW ∧ Cond.initialized "java/lang/Float" ∈ zGW) (h1 : 1 ≤ h) (hc : zcat st ≤ 8) (k : K (pc + 3) Lo (zi ((x.toInt32).toInt) :: st) n σ w) : K pc Lo (zf x :: st) n σ w := by
  obtain ⟨p, l, e, R, s, m, args, below, meth, c, Q, g, ⟨hx, hb, hml, hown, hts, hK, hin⟩, hR, hsz, rfl, hrt⟩ := C
  intro ls H locs hn hl hP hS
  have k := k ls H locs hn hl hP hS
  have e9 := zcat_eq g st
  refine vn_f2i hx hb (by rw [hml]; exact hl.1.symm) hown (hts _ hw.1) (hts _ hw.2.1) (hts _ hw.2.2.1) (hts _ hw.2.2.2) (by omega) (by omega) d ?_
  have e8 : zv g (zi ((x.toInt32).toInt)) = .int x.toInt32 := congrArg _ (zI_to _)
  rw [← e8]
  exact k
theorem zMetF {l : Launch} {y : MethodName} {ws ws' : List Cond} {rm : Room} {Pc : Array Value → State → Prop} {Qc : Array Value → State → Outcome → State → Prop} {mc ms : Nat} {free : Addr → Prop} {cc : ByteArray} {maxL : Nat} {ret : Option FieldType}
    (hy : plainFor y = true) (hw : ws = Cond.code y cc maxL ret :: ws')
    (body : ∀ p e s m args below meth c s₁, BodyLoose p l y (headSpec ws rm) cc maxL ret e s m args below meth c s₁ → c.maxLocals = maxL → Pc args s →
      W p l e (headSpec ws rm).room s m args below meth c s.heap [] 0 0 (MQ below Qc args s mc ms free) (entryFrame m args maxL)) : Met l y ws rm Pc Qc mc ms free := by
  refine MetFree.of_bodySF (code := cc) (maxLocals := maxL) (ret := ret) hy ?_ ?_
  · intro args s m h hn
    have h0 := Cond.code_spec hn (atoms_spec (ws := ws) h _ (by rw [hw]; exact List.mem_cons_self))
    obtain ⟨meth, c, h1, h2, h3, h4, h5, h6, -⟩ := h0
    exact ⟨meth, c, h1, h2, h3, h4, h5, h6⟩
  · intro p e s m args below meth c s₁ B hml hP _
    have e0 : s₁.heap = s.heap := by rw [B.state]; rfl
    obtain ⟨t, a1, o, b1, b2, b3⟩ := body p e s m args below meth c s₁ B hml hP s₁ e0 (Stand.of_body B)
    exact ⟨t, o, a1, b1, b2, b3⟩
theorem zCt.ofF {h mc ms : Nat} {y : MethodName} {cc : ByteArray} {ml : Nat} {ret : Option FieldType} {as : List zV} {n : Nat} {σ : zS} {r : Option zV} {n' : Nat} {σ' : zS} (hy : plainFor y = true) (hn : n' = n + mc) (ha : (zsl as).length ≤ ml)
    (body : ∀ K : zKT, zX y cc ml ret h mc ms n (fun v n1 σ1 w => v = r ∧ n1 = n' ∧ σ1 = σ' ∧ w = ms) K → K 0 (zen ml as) [] n σ 0) : zCt h mc ms y cc ml ret as n σ r n' σ' := by
  intro l g
  refine zMetF (cc := cc) (maxL := ml) (ret := ret) hy rfl ?_
  intro p e s m args below meth c s₁ B hml hv
  obtain ⟨rfl, hz, hH, hK⟩ := hv
  have hx := B.exec
  have hb := B.bytes
  have hr := B.returns
  have hts := atoms_spec (ws := Cond.code y cc ml ret :: zGW) B.pre
  have hown : s.vm.findClass y.cls = some m.cls := findClass_of_methodNamed B.named
  have hlocks := B.notSynchronized
  have hin : meth.name = y.name := (name_of_methodNamed B.named B.method).1
  have key := body _ ⟨p, l, e, (headSpec (Cond.code y cc ml ret :: zGW) (zRm h mc ms)).room, s, m, (as.map (zv g)).toArray, below, meth, c, MQ below (zPost g r n' σ') (as.map (zv g)).toArray s mc ms (zF g), g,
    ⟨hx, hb, hml, hown, fun w hw => hts w (List.mem_cons_of_mem _ hw), hK, hin⟩, ⟨Nat.le_refl _, Nat.le_refl _, Nat.le_refl _, Nat.le_refl _⟩, hz, rfl, ?_⟩
  · have k := key _ s.heap [] ⟨Nat.le_refl _, by omega, Nat.zero_le _⟩ (zen_L g ha) hH va_S.rf
    rw [Nat.sub_self] at k
    rw [lg_entry_eq]
    exact k
  · intro v pc Lo st n1 σ1 w hrt hR ls H locs hn1 hl hP hS
    obtain ⟨rfl, rfl, rfl, rfl⟩ := hR
    have e : n1 - n = mc := by omega
    rw [e]
    rcases hrt with ⟨d, rfl, rfl, rfl⟩ | ⟨d, rfl, x, rfl, rfl⟩ | ⟨d, rfl, x, hx01, rfl, rfl⟩ | ⟨d, rfl, x, rfl, rfl⟩
    · exact W.vret hx hb hr (fun t ht _ => ⟨rfl, by rw [ht]; exact hP, hS.F ht⟩) hS.2.2 d
    · exact W.iret hx hb hr (fun t ht _ => ⟨rfl, by rw [ht]; exact hP, hS.F ht⟩) hS.2.2 d
    · refine W.zret hx hb hr ?_ (fun t ht _ => ⟨rfl, by rw [ht]; exact hP, hS.F ht⟩) hS.2.2 d
      rcases hx01 with rfl | rfl <;> rfl
    · exact W.lret hx hb hr (fun t ht _ => ⟨rfl, by rw [ht]; exact hP, hS.F ht⟩) hS.2.2 d

theorem nkD : Cond.methodLink RJxe99ae 134 ⟨"java/lang/Double", "doubleToRawLongBits", "(D)J"⟩ ∈ zGW ∧ Cond.native ⟨"java/lang/Double", "doubleToRawLongBits", "(D)J"⟩ ∈ zGW ∧ Cond.static ⟨"java/lang/Double", "doubleToRawLongBits", "(D)J"⟩ ∈ zGW ∧ Cond.initialized "java/lang/Double" ∈ zGW := ⟨zGW_in 884 (by decide +kernel) (by decide +kernel), zGW_in 886 (by decide +kernel) (by decide +kernel), zGW_in 885 (by decide +kernel) (by decide +kernel), zGW_in 72 (by decide +kernel) (by decide +kernel)⟩
theorem nkF : Cond.methodLink RJxf58ca 74 ⟨"java/lang/Float", "floatToRawIntBits", "(F)I"⟩ ∈ zGW ∧ Cond.native ⟨"java/lang/Float", "floatToRawIntBits", "(F)I"⟩ ∈ zGW ∧ Cond.static ⟨"java/lang/Float", "floatToRawIntBits", "(F)I"⟩ ∈ zGW ∧ Cond.initialized "java/lang/Float" ∈ zGW := ⟨zGW_in 899 (by decide +kernel) (by decide +kernel), zGW_in 901 (by decide +kernel) (by decide +kernel), zGW_in 900 (by decide +kernel) (by decide +kernel), zGW_in 73 (by decide +kernel) (by decide +kernel)⟩
theorem zord (s : Bool) (c : Nat) (q : Int) : FP.Core.order (.fin s c q) (.fin s c q) = some .eq := by
  have e : ∀ x : Int, compare x x = .eq := fun x => by
    unfold compare instOrdInt compareOfLessAndEq
    dsimp only
    rw [if_neg (by omega), if_pos rfl]
  unfold FP.Core.order
  exact congrArg some (e _)
section
variable {n : Nat} {σ : zS}
theorem ctJxe99ae_isNaN_b9ae7 {x : UInt64} {s : Bool} {c : Nat} {q : Int} (hx : FP.Core.decode FP.Core.b64 x.toNat = .fin s c q) : zCt 1 0 0 yJxe99ae_isNaN_b9ae7 cJxe99ae_isNaN_b9ae7 2 (some .boolean) [zd x] n σ (some (zi (zb false))) n σ := by
  have hr : Op.cmpValue (FP.dcmp x x) .l = zI 0 := by
    have e : FP.dcmp x x = some .eq := by
      show FP.Core.order (FP.Core.decode FP.Core.b64 x.toNat) (FP.Core.decode FP.Core.b64 x.toNat) = some .eq
      rw [hx, zord]
    rw [e]
    rfl
  refine zCt.of (by decide) rfl (Nat.le_of_ble_eq_true rfl) (fun K C => ?_)
  refine x_dload_n C dJxe99ae_isNaN_b9ae7_0 rfl ?_
  refine x_dload_n C dJxe99ae_isNaN_b9ae7_1 rfl ?_
  refine x_dcmp (r := 0) C dJxe99ae_isNaN_b9ae7_2 hr ?_
  refine x_if_eq (tgt := 10) C dJxe99ae_isNaN_b9ae7_3 (by decide) (by omega) (fun c3 => ?_) (fun c3 => ?_)
  · refine x_iconst C dJxe99ae_isNaN_b9ae7_10 ?_
    exact x_zret (st := []) (b := false) C dJxe99ae_isNaN_b9ae7_11 rfl ⟨rfl, rfl, rfl, rfl⟩
  · exact absurd rfl c3
theorem ctJxe99ae_doubleToLongBits_ccdee {x : UInt64} {s : Bool} {c : Nat} {q : Int} (hx : FP.Core.decode FP.Core.b64 x.toNat = .fin s c q) : zCt 2 0 0 yJxe99ae_doubleToLongBits_ccdee cJxe99ae_doubleToLongBits_ccdee 2 (some .long) [zd x] n σ (some (zl ((x.toInt64).toInt))) n σ := by
  refine zCt.of (by decide) rfl (Nat.le_of_ble_eq_true rfl) (fun K C => ?_)
  refine x_dload_n C dJxe99ae_doubleToLongBits_ccdee_0 rfl ?_
  refine x_callS C dJxe99ae_doubleToLongBits_ccdee_1 (ctJxe99ae_isNaN_b9ae7 hx) okJxe99ae_isNaN_b9ae7 lkJxe99ae_122 ⟨by decide, rfl, rfl, Nat.le_of_ble_eq_true rfl⟩ rfl (Or.inl ⟨rfl, rfl⟩) ?_
  refine x_ifne_b (tgt := 12) C dJxe99ae_doubleToLongBits_ccdee_4 (by decide) (fun c4 => ?_) (fun c4 => ?_)
  · cases c4
  · refine x_dload_n C dJxe99ae_doubleToLongBits_ccdee_7 rfl ?_
    refine x_d2l C dJxe99ae_doubleToLongBits_ccdee_8 nkD (by decide) (by decide) ?_
    exact x_lret (st := []) C dJxe99ae_doubleToLongBits_ccdee_11 rfl ⟨rfl, rfl, rfl, rfl⟩
theorem ctJxf58ca_isNaN_12338 {x : UInt32} {s : Bool} {c : Nat} {q : Int} (hx : FP.Core.decode FP.Core.b32 x.toNat = .fin s c q) : zCt 1 0 0 yJxf58ca_isNaN_12338 cJxf58ca_isNaN_12338 1 (some .boolean) [zf x] n σ (some (zi (zb false))) n σ := by
  have hr : Op.cmpValue (FP.fcmp x x) .l = zI 0 := by
    have e : FP.fcmp x x = some .eq := by
      show FP.Core.order (FP.Core.decode FP.Core.b32 x.toNat) (FP.Core.decode FP.Core.b32 x.toNat) = some .eq
      rw [hx, zord]
    rw [e]
    rfl
  refine zCt.ofF (by decide +kernel) rfl (Nat.le_of_ble_eq_true rfl) (fun K C => ?_)
  refine x_fload_n C dJxf58ca_isNaN_12338_0 rfl ?_
  refine x_fload_n C dJxf58ca_isNaN_12338_1 rfl ?_
  refine x_fcmp (r := 0) C dJxf58ca_isNaN_12338_2 hr ?_
  refine x_if_eq (tgt := 10) C dJxf58ca_isNaN_12338_3 (by decide) (by omega) (fun c3 => ?_) (fun c3 => ?_)
  · refine x_iconst C dJxf58ca_isNaN_12338_10 ?_
    exact x_zret (st := []) (b := false) C dJxf58ca_isNaN_12338_11 rfl ⟨rfl, rfl, rfl, rfl⟩
  · exact absurd rfl c3
theorem ctJxf58ca_floatToIntBits_5c35a {x : UInt32} {s : Bool} {c : Nat} {q : Int} (hx : FP.Core.decode FP.Core.b32 x.toNat = .fin s c q) : zCt 2 0 0 yJxf58ca_floatToIntBits_5c35a cJxf58ca_floatToIntBits_5c35a 1 (some .int) [zf x] n σ (some (zi ((x.toInt32).toInt))) n σ := by
  refine zCt.ofF (by decide +kernel) rfl (Nat.le_of_ble_eq_true rfl) (fun K C => ?_)
  refine x_fload_n C dJxf58ca_floatToIntBits_5c35a_0 rfl ?_
  refine x_callS C dJxf58ca_floatToIntBits_5c35a_1 (ctJxf58ca_isNaN_12338 hx) okJxf58ca_isNaN_12338 lkJxf58ca_59 ⟨by decide, rfl, rfl, Nat.le_of_ble_eq_true rfl⟩ rfl (Or.inl ⟨rfl, rfl⟩) ?_
  refine x_ifne_b (tgt := 12) C dJxf58ca_floatToIntBits_5c35a_4 (by decide) (fun c4 => ?_) (fun c4 => ?_)
  · cases c4
  · refine x_fload_n C dJxf58ca_floatToIntBits_5c35a_7 rfl ?_
    refine x_f2i C dJxf58ca_floatToIntBits_5c35a_8 nkF (by decide) (by decide) ?_
    exact x_iret (st := []) C dJxf58ca_floatToIntBits_5c35a_11 rfl ⟨rfl, rfl, rfl, rfl⟩
end
