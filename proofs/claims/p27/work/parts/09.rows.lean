set_option maxHeartbeats 2000000 in
theorem x_iconst {y : MethodName} {cc : ByteArray} {ml : Nat} {ret : Option FieldType} {h mc ms n0 : Nat} {Ret : zRT} {K : zKT} (C : zX y cc ml ret h mc ms n0 Ret K) {pc : Nat} {Lo : List (Option zV)} {st : List zV} {n : Nat} {σ : zS} {w : Nat} {v : Int} (d : decode cc pc = .ok (.iconst v, 1)) (k : K (pc + 1) Lo (zi v :: st) n σ w) : K pc Lo st n σ w := by
  obtain ⟨p, l, e, R, s, m, args, below, meth, c, Q, g, ⟨hx, hb, hml, hown, hts, hK, hin⟩, hR, hsz, rfl, hrt⟩ := C
  intro ls H locs hn hl hP hS
  exact lv_iconst hx hb d rfl (k ls H locs hn hl hP hS)
set_option maxHeartbeats 2000000 in
theorem x_bipush {y : MethodName} {cc : ByteArray} {ml : Nat} {ret : Option FieldType} {h mc ms n0 : Nat} {Ret : zRT} {K : zKT} (C : zX y cc ml ret h mc ms n0 Ret K) {pc : Nat} {Lo : List (Option zV)} {st : List zV} {n : Nat} {σ : zS} {w : Nat} {v : Int} (d : decode cc pc = .ok (.bipush v, 2)) (hv : (Int8.ofInt v).toInt32 = zI v) (k : K (pc + 2) Lo (zi v :: st) n σ w) : K pc Lo st n σ w := by
  obtain ⟨p, l, e, R, s, m, args, below, meth, c, Q, g, ⟨hx, hb, hml, hown, hts, hK, hin⟩, hR, hsz, rfl, hrt⟩ := C
  intro ls H locs hn hl hP hS
  exact lv_bipush hx hb d hv (k ls H locs hn hl hP hS)
set_option maxHeartbeats 2000000 in
theorem x_sipush {y : MethodName} {cc : ByteArray} {ml : Nat} {ret : Option FieldType} {h mc ms n0 : Nat} {Ret : zRT} {K : zKT} (C : zX y cc ml ret h mc ms n0 Ret K) {pc : Nat} {Lo : List (Option zV)} {st : List zV} {n : Nat} {σ : zS} {w : Nat} {v : Int} (d : decode cc pc = .ok (.sipush v, 3)) (hv : (Int16.ofInt v).toInt32 = zI v) (k : K (pc + 3) Lo (zi v :: st) n σ w) : K pc Lo st n σ w := by
  obtain ⟨p, l, e, R, s, m, args, below, meth, c, Q, g, ⟨hx, hb, hml, hown, hts, hK, hin⟩, hR, hsz, rfl, hrt⟩ := C
  intro ls H locs hn hl hP hS
  exact lv_sipush hx hb d hv (k ls H locs hn hl hP hS)
set_option maxHeartbeats 2000000 in
theorem x_ldc {y : MethodName} {cc : ByteArray} {ml : Nat} {ret : Option FieldType} {h mc ms n0 : Nat} {Ret : zRT} {K : zKT} (C : zX y cc ml ret h mc ms n0 Ret K) {pc : Nat} {Lo : List (Option zV)} {st : List zV} {n : Nat} {σ : zS} {w : Nat} {idx : Nat} {v : Int} {x : Int32} (d : decode cc pc = .ok (.ldc idx, 2)) (hw : Cond.constant y.cls idx x ∈ zGW) (hv : x = zI v) (k : K (pc + 2) Lo (zi v :: st) n σ w) : K pc Lo st n σ w := by
  obtain ⟨p, l, e, R, s, m, args, below, meth, c, Q, g, ⟨hx, hb, hml, hown, hts, hK, hin⟩, hR, hsz, rfl, hrt⟩ := C
  intro ls H locs hn hl hP hS
  subst hv
  exact lv_ldc hx hb hown (hts _ hw) d (k ls H locs hn hl hP hS)
set_option maxHeartbeats 2000000 in
theorem x_ldcf {y : MethodName} {cc : ByteArray} {ml : Nat} {ret : Option FieldType} {h mc ms n0 : Nat} {Ret : zRT} {K : zKT} (C : zX y cc ml ret h mc ms n0 Ret K) {pc : Nat} {Lo : List (Option zV)} {st : List zV} {n : Nat} {σ : zS} {w : Nat} {idx : Nat} {x : UInt32} (d : decode cc pc = .ok (.ldc idx, 2)) (hw : Cond.constantFloat y.cls idx x ∈ zGW) (k : K (pc + 2) Lo (zf x :: st) n σ w) : K pc Lo st n σ w := by
  obtain ⟨p, l, e, R, s, m, args, below, meth, c, Q, g, ⟨hx, hb, hml, hown, hts, hK, hin⟩, hR, hsz, rfl, hrt⟩ := C
  intro ls H locs hn hl hP hS
  exact lv_ldcf hx hb hown (hts _ hw) d (k ls H locs hn hl hP hS)
set_option maxHeartbeats 2000000 in
theorem x_ldc2 {y : MethodName} {cc : ByteArray} {ml : Nat} {ret : Option FieldType} {h mc ms n0 : Nat} {Ret : zRT} {K : zKT} (C : zX y cc ml ret h mc ms n0 Ret K) {pc : Nat} {Lo : List (Option zV)} {st : List zV} {n : Nat} {σ : zS} {w : Nat} {idx : Nat} {v : Int} {x : Int64} (d : decode cc pc = .ok (.ldc2_w idx, 3)) (hw : Cond.constantLong y.cls idx x ∈ zGW) (hv : x = zJ v) (k : K (pc + 3) Lo (zl v :: st) n σ w) : K pc Lo st n σ w := by
  obtain ⟨p, l, e, R, s, m, args, below, meth, c, Q, g, ⟨hx, hb, hml, hown, hts, hK, hin⟩, hR, hsz, rfl, hrt⟩ := C
  intro ls H locs hn hl hP hS
  subst hv
  exact lv_ldc2 hx hb hown (hts _ hw) d (k ls H locs hn hl hP hS)
set_option maxHeartbeats 2000000 in
theorem x_ldc2d {y : MethodName} {cc : ByteArray} {ml : Nat} {ret : Option FieldType} {h mc ms n0 : Nat} {Ret : zRT} {K : zKT} (C : zX y cc ml ret h mc ms n0 Ret K) {pc : Nat} {Lo : List (Option zV)} {st : List zV} {n : Nat} {σ : zS} {w : Nat} {idx : Nat} {x : UInt64} (d : decode cc pc = .ok (.ldc2_w idx, 3)) (hw : Cond.constantDouble y.cls idx x ∈ zGW) (k : K (pc + 3) Lo (zd x :: st) n σ w) : K pc Lo st n σ w := by
  obtain ⟨p, l, e, R, s, m, args, below, meth, c, Q, g, ⟨hx, hb, hml, hown, hts, hK, hin⟩, hR, hsz, rfl, hrt⟩ := C
  intro ls H locs hn hl hP hS
  exact lv_ldc2d hx hb hown (hts _ hw) d (k ls H locs hn hl hP hS)
set_option maxHeartbeats 2000000 in
theorem x_lconst {y : MethodName} {cc : ByteArray} {ml : Nat} {ret : Option FieldType} {h mc ms n0 : Nat} {Ret : zRT} {K : zKT} (C : zX y cc ml ret h mc ms n0 Ret K) {pc : Nat} {Lo : List (Option zV)} {st : List zV} {n : Nat} {σ : zS} {w : Nat} {v : Fin 2} (d : decode cc pc = .ok (.lconst v, 1)) (k : K (pc + 1) Lo (zl (v.val : Int) :: st) n σ w) : K pc Lo st n σ w := by
  obtain ⟨p, l, e, R, s, m, args, below, meth, c, Q, g, ⟨hx, hb, hml, hown, hts, hK, hin⟩, hR, hsz, rfl, hrt⟩ := C
  intro ls H locs hn hl hP hS
  exact lv_lconst hx hb d (by rw [← Int64.ofInt_eq_ofNat]; rfl) (k ls H locs hn hl hP hS)
set_option maxHeartbeats 2000000 in
theorem x_iload {y : MethodName} {cc : ByteArray} {ml : Nat} {ret : Option FieldType} {h mc ms n0 : Nat} {Ret : zRT} {K : zKT} (C : zX y cc ml ret h mc ms n0 Ret K) {pc : Nat} {Lo : List (Option zV)} {st : List zV} {n : Nat} {σ : zS} {w : Nat} {i : Nat} {x : Int} (d : decode cc pc = .ok (.iload i, 2)) (hl0 : zg Lo i = some (zi x)) (k : K (pc + 2) Lo (zi x :: st) n σ w) : K pc Lo st n σ w := by
  obtain ⟨p, l, e, R, s, m, args, below, meth, c, Q, g, ⟨hx, hb, hml, hown, hts, hK, hin⟩, hR, hsz, rfl, hrt⟩ := C
  intro ls H locs hn hl hP hS
  exact lv_iload hx hb d (hl.at hl0) (k ls H locs hn hl hP hS)
set_option maxHeartbeats 2000000 in
theorem x_iload_n {y : MethodName} {cc : ByteArray} {ml : Nat} {ret : Option FieldType} {h mc ms n0 : Nat} {Ret : zRT} {K : zKT} (C : zX y cc ml ret h mc ms n0 Ret K) {pc : Nat} {Lo : List (Option zV)} {st : List zV} {n : Nat} {σ : zS} {w : Nat} {q : Fin 4} {x : Int} (d : decode cc pc = .ok (.iload_n q, 1)) (hl0 : zg Lo q.val = some (zi x)) (k : K (pc + 1) Lo (zi x :: st) n σ w) : K pc Lo st n σ w := by
  obtain ⟨p, l, e, R, s, m, args, below, meth, c, Q, g, ⟨hx, hb, hml, hown, hts, hK, hin⟩, hR, hsz, rfl, hrt⟩ := C
  intro ls H locs hn hl hP hS
  exact lv_iload_n hx hb d rfl (hl.at hl0) (k ls H locs hn hl hP hS)
set_option maxHeartbeats 2000000 in
theorem x_lload {y : MethodName} {cc : ByteArray} {ml : Nat} {ret : Option FieldType} {h mc ms n0 : Nat} {Ret : zRT} {K : zKT} (C : zX y cc ml ret h mc ms n0 Ret K) {pc : Nat} {Lo : List (Option zV)} {st : List zV} {n : Nat} {σ : zS} {w : Nat} {i : Nat} {x : Int} (d : decode cc pc = .ok (.lload i, 2)) (hl0 : zg Lo i = some (zl x)) (k : K (pc + 2) Lo (zl x :: st) n σ w) : K pc Lo st n σ w := by
  obtain ⟨p, l, e, R, s, m, args, below, meth, c, Q, g, ⟨hx, hb, hml, hown, hts, hK, hin⟩, hR, hsz, rfl, hrt⟩ := C
  intro ls H locs hn hl hP hS
  exact lv_lload hx hb d (hl.at hl0) (k ls H locs hn hl hP hS)
set_option maxHeartbeats 2000000 in
theorem x_lload_n {y : MethodName} {cc : ByteArray} {ml : Nat} {ret : Option FieldType} {h mc ms n0 : Nat} {Ret : zRT} {K : zKT} (C : zX y cc ml ret h mc ms n0 Ret K) {pc : Nat} {Lo : List (Option zV)} {st : List zV} {n : Nat} {σ : zS} {w : Nat} {q : Fin 4} {x : Int} (d : decode cc pc = .ok (.lload_n q, 1)) (hl0 : zg Lo q.val = some (zl x)) (k : K (pc + 1) Lo (zl x :: st) n σ w) : K pc Lo st n σ w := by
  obtain ⟨p, l, e, R, s, m, args, below, meth, c, Q, g, ⟨hx, hb, hml, hown, hts, hK, hin⟩, hR, hsz, rfl, hrt⟩ := C
  intro ls H locs hn hl hP hS
  exact lv_lload_n hx hb d rfl (hl.at hl0) (k ls H locs hn hl hP hS)
set_option maxHeartbeats 2000000 in
theorem x_aload {y : MethodName} {cc : ByteArray} {ml : Nat} {ret : Option FieldType} {h mc ms n0 : Nat} {Ret : zRT} {K : zKT} (C : zX y cc ml ret h mc ms n0 Ret K) {pc : Nat} {Lo : List (Option zV)} {st : List zV} {n : Nat} {σ : zS} {w : Nat} {i : Nat} {x : Int} (d : decode cc pc = .ok (.aload i, 2)) (hl0 : zg Lo i = some (zr x)) (k : K (pc + 2) Lo (zr x :: st) n σ w) : K pc Lo st n σ w := by
  obtain ⟨p, l, e, R, s, m, args, below, meth, c, Q, g, ⟨hx, hb, hml, hown, hts, hK, hin⟩, hR, hsz, rfl, hrt⟩ := C
  intro ls H locs hn hl hP hS
  exact lv_aload hx hb d (hl.at hl0) (k ls H locs hn hl hP hS)
set_option maxHeartbeats 2000000 in
theorem x_aload_n {y : MethodName} {cc : ByteArray} {ml : Nat} {ret : Option FieldType} {h mc ms n0 : Nat} {Ret : zRT} {K : zKT} (C : zX y cc ml ret h mc ms n0 Ret K) {pc : Nat} {Lo : List (Option zV)} {st : List zV} {n : Nat} {σ : zS} {w : Nat} {q : Fin 4} {x : Int} (d : decode cc pc = .ok (.aload_n q, 1)) (hl0 : zg Lo q.val = some (zr x)) (k : K (pc + 1) Lo (zr x :: st) n σ w) : K pc Lo st n σ w := by
  obtain ⟨p, l, e, R, s, m, args, below, meth, c, Q, g, ⟨hx, hb, hml, hown, hts, hK, hin⟩, hR, hsz, rfl, hrt⟩ := C
  intro ls H locs hn hl hP hS
  exact lv_aload_n hx hb d rfl (hl.at hl0) (k ls H locs hn hl hP hS)
set_option maxHeartbeats 2000000 in
theorem x_dload_n {y : MethodName} {cc : ByteArray} {ml : Nat} {ret : Option FieldType} {h mc ms n0 : Nat} {Ret : zRT} {K : zKT} (C : zX y cc ml ret h mc ms n0 Ret K) {pc : Nat} {Lo : List (Option zV)} {st : List zV} {n : Nat} {σ : zS} {w : Nat} {q : Fin 4} {x : UInt64} (d : decode cc pc = .ok (.dload_n q, 1)) (hl0 : zg Lo q.val = some (zd x)) (k : K (pc + 1) Lo (zd x :: st) n σ w) : K pc Lo st n σ w := by
  obtain ⟨p, l, e, R, s, m, args, below, meth, c, Q, g, ⟨hx, hb, hml, hown, hts, hK, hin⟩, hR, hsz, rfl, hrt⟩ := C
  intro ls H locs hn hl hP hS
  exact lv_dload_n hx hb d rfl (hl.at hl0) (k ls H locs hn hl hP hS)
set_option maxHeartbeats 2000000 in
theorem x_fload_n {y : MethodName} {cc : ByteArray} {ml : Nat} {ret : Option FieldType} {h mc ms n0 : Nat} {Ret : zRT} {K : zKT} (C : zX y cc ml ret h mc ms n0 Ret K) {pc : Nat} {Lo : List (Option zV)} {st : List zV} {n : Nat} {σ : zS} {w : Nat} {q : Fin 4} {x : UInt32} (d : decode cc pc = .ok (.fload_n q, 1)) (hl0 : zg Lo q.val = some (zf x)) (k : K (pc + 1) Lo (zf x :: st) n σ w) : K pc Lo st n σ w := by
  obtain ⟨p, l, e, R, s, m, args, below, meth, c, Q, g, ⟨hx, hb, hml, hown, hts, hK, hin⟩, hR, hsz, rfl, hrt⟩ := C
  intro ls H locs hn hl hP hS
  exact lv_fload_n hx hb d rfl (hl.at hl0) (k ls H locs hn hl hP hS)
set_option maxHeartbeats 2000000 in
theorem x_istore {y : MethodName} {cc : ByteArray} {ml : Nat} {ret : Option FieldType} {h mc ms n0 : Nat} {Ret : zRT} {K : zKT} (C : zX y cc ml ret h mc ms n0 Ret K) {pc : Nat} {Lo : List (Option zV)} {st : List zV} {n : Nat} {σ : zS} {w : Nat} {i : Nat} {x : Int} (d : decode cc pc = .ok (.istore i, 2)) (hi : i < ml) (k : K (pc + 2) (zs1 Lo i (zi x)) st n σ w) : K pc Lo (zi x :: st) n σ w := by
  obtain ⟨p, l, e, R, s, m, args, below, meth, c, Q, g, ⟨hx, hb, hml, hown, hts, hK, hin⟩, hR, hsz, rfl, hrt⟩ := C
  intro ls H locs hn hl hP hS
  exact lv_istore hx hb d hl hi rfl (fun ls' hl' => k ls' H locs hn (zL.st1 hl') hP hS)
set_option maxHeartbeats 2000000 in
theorem x_istore_n {y : MethodName} {cc : ByteArray} {ml : Nat} {ret : Option FieldType} {h mc ms n0 : Nat} {Ret : zRT} {K : zKT} (C : zX y cc ml ret h mc ms n0 Ret K) {pc : Nat} {Lo : List (Option zV)} {st : List zV} {n : Nat} {σ : zS} {w : Nat} {q : Fin 4} {x : Int} (d : decode cc pc = .ok (.istore_n q, 1)) (hi : q.val < ml) (k : K (pc + 1) (zs1 Lo q.val (zi x)) st n σ w) : K pc Lo (zi x :: st) n σ w := by
  obtain ⟨p, l, e, R, s, m, args, below, meth, c, Q, g, ⟨hx, hb, hml, hown, hts, hK, hin⟩, hR, hsz, rfl, hrt⟩ := C
  intro ls H locs hn hl hP hS
  exact lv_istore_n hx hb d rfl hl hi rfl (fun ls' hl' => k ls' H locs hn (zL.st1 hl') hP hS)
set_option maxHeartbeats 2000000 in
theorem x_astore {y : MethodName} {cc : ByteArray} {ml : Nat} {ret : Option FieldType} {h mc ms n0 : Nat} {Ret : zRT} {K : zKT} (C : zX y cc ml ret h mc ms n0 Ret K) {pc : Nat} {Lo : List (Option zV)} {st : List zV} {n : Nat} {σ : zS} {w : Nat} {i : Nat} {x : Int} (d : decode cc pc = .ok (.astore i, 2)) (hi : i < ml) (k : K (pc + 2) (zs1 Lo i (zr x)) st n σ w) : K pc Lo (zr x :: st) n σ w := by
  obtain ⟨p, l, e, R, s, m, args, below, meth, c, Q, g, ⟨hx, hb, hml, hown, hts, hK, hin⟩, hR, hsz, rfl, hrt⟩ := C
  intro ls H locs hn hl hP hS
  exact lv_astore hx hb d hl hi rfl (fun ls' hl' => k ls' H locs hn (zL.st1 hl') hP hS)
set_option maxHeartbeats 2000000 in
theorem x_astore_n {y : MethodName} {cc : ByteArray} {ml : Nat} {ret : Option FieldType} {h mc ms n0 : Nat} {Ret : zRT} {K : zKT} (C : zX y cc ml ret h mc ms n0 Ret K) {pc : Nat} {Lo : List (Option zV)} {st : List zV} {n : Nat} {σ : zS} {w : Nat} {q : Fin 4} {x : Int} (d : decode cc pc = .ok (.astore_n q, 1)) (hi : q.val < ml) (k : K (pc + 1) (zs1 Lo q.val (zr x)) st n σ w) : K pc Lo (zr x :: st) n σ w := by
  obtain ⟨p, l, e, R, s, m, args, below, meth, c, Q, g, ⟨hx, hb, hml, hown, hts, hK, hin⟩, hR, hsz, rfl, hrt⟩ := C
  intro ls H locs hn hl hP hS
  exact lv_astore_n hx hb d rfl hl hi rfl (fun ls' hl' => k ls' H locs hn (zL.st1 hl') hP hS)
set_option maxHeartbeats 2000000 in
theorem x_lstore {y : MethodName} {cc : ByteArray} {ml : Nat} {ret : Option FieldType} {h mc ms n0 : Nat} {Ret : zRT} {K : zKT} (C : zX y cc ml ret h mc ms n0 Ret K) {pc : Nat} {Lo : List (Option zV)} {st : List zV} {n : Nat} {σ : zS} {w : Nat} {i : Nat} {x : Int} (d : decode cc pc = .ok (.lstore i, 2)) (hi : i + 1 < ml) (k : K (pc + 2) (zs2 Lo i (zl x)) st n σ w) : K pc Lo (zl x :: st) n σ w := by
  obtain ⟨p, l, e, R, s, m, args, below, meth, c, Q, g, ⟨hx, hb, hml, hown, hts, hK, hin⟩, hR, hsz, rfl, hrt⟩ := C
  intro ls H locs hn hl hP hS
  exact lv_lstore hx hb d hl hi rfl (fun ls' hl' => k ls' H locs hn (zL.st2 hl') hP hS)
set_option maxHeartbeats 2000000 in
theorem x_lstore_n {y : MethodName} {cc : ByteArray} {ml : Nat} {ret : Option FieldType} {h mc ms n0 : Nat} {Ret : zRT} {K : zKT} (C : zX y cc ml ret h mc ms n0 Ret K) {pc : Nat} {Lo : List (Option zV)} {st : List zV} {n : Nat} {σ : zS} {w : Nat} {q : Fin 4} {x : Int} (d : decode cc pc = .ok (.lstore_n q, 1)) (hi : q.val + 1 < ml) (k : K (pc + 1) (zs2 Lo q.val (zl x)) st n σ w) : K pc Lo (zl x :: st) n σ w := by
  obtain ⟨p, l, e, R, s, m, args, below, meth, c, Q, g, ⟨hx, hb, hml, hown, hts, hK, hin⟩, hR, hsz, rfl, hrt⟩ := C
  intro ls H locs hn hl hP hS
  exact lv_lstore_n hx hb d rfl hl hi rfl (fun ls' hl' => k ls' H locs hn (zL.st2 hl') hP hS)
set_option maxHeartbeats 2000000 in
theorem x_iinc {y : MethodName} {cc : ByteArray} {ml : Nat} {ret : Option FieldType} {h mc ms n0 : Nat} {Ret : zRT} {K : zKT} (C : zX y cc ml ret h mc ms n0 Ret K) {pc : Nat} {Lo : List (Option zV)} {st : List zV} {n : Nat} {σ : zS} {w : Nat} {i : Nat} {v x : Int} (d : decode cc pc = .ok (.iinc i v, 3)) (hl0 : zg Lo i = some (zi x)) (hi : i < ml) (k : K (pc + 3) (zs1 Lo i (zi (x + v))) st n σ w) : K pc Lo st n σ w := by
  obtain ⟨p, l, e, R, s, m, args, below, meth, c, Q, g, ⟨hx, hb, hml, hown, hts, hK, hin⟩, hR, hsz, rfl, hrt⟩ := C
  intro ls H locs hn hl hP hS
  have hm := zlst_in g Lo 0 i _ hl0
  rw [Nat.zero_add] at hm
  obtain ⟨q, hq⟩ := List.getElem?_of_mem hm
  exact lv_iinc (v := zI (x + v)) hx hb d hl hq (zI_add x v).symm hi rfl (fun ls' hl' => k ls' H locs hn (zL.st1 hl') hP hS)
set_option maxHeartbeats 2000000 in
theorem x_iadd {y : MethodName} {cc : ByteArray} {ml : Nat} {ret : Option FieldType} {h mc ms n0 : Nat} {Ret : zRT} {K : zKT} (C : zX y cc ml ret h mc ms n0 Ret K) {pc : Nat} {Lo : List (Option zV)} {st : List zV} {n : Nat} {σ : zS} {w : Nat} {a b : Int} (d : decode cc pc = .ok (.iadd, 1)) (k : K (pc + 1) Lo (zi (a + b) :: st) n σ w) : K pc Lo (zi b :: zi a :: st) n σ w := by
  obtain ⟨p, l, e, R, s, m, args, below, meth, c, Q, g, ⟨hx, hb, hml, hown, hts, hK, hin⟩, hR, hsz, rfl, hrt⟩ := C
  intro ls H locs hn hl hP hS
  refine lv_iadd hx hb d ?_
  rw [← zI_add]
  exact k ls H locs hn hl hP hS
set_option maxHeartbeats 2000000 in
theorem x_isub {y : MethodName} {cc : ByteArray} {ml : Nat} {ret : Option FieldType} {h mc ms n0 : Nat} {Ret : zRT} {K : zKT} (C : zX y cc ml ret h mc ms n0 Ret K) {pc : Nat} {Lo : List (Option zV)} {st : List zV} {n : Nat} {σ : zS} {w : Nat} {a b : Int} (d : decode cc pc = .ok (.isub, 1)) (k : K (pc + 1) Lo (zi (a - b) :: st) n σ w) : K pc Lo (zi b :: zi a :: st) n σ w := by
  obtain ⟨p, l, e, R, s, m, args, below, meth, c, Q, g, ⟨hx, hb, hml, hown, hts, hK, hin⟩, hR, hsz, rfl, hrt⟩ := C
  intro ls H locs hn hl hP hS
  refine lv_isub hx hb d ?_
  rw [← zI_sub]
  exact k ls H locs hn hl hP hS
set_option maxHeartbeats 2000000 in
theorem x_imul {y : MethodName} {cc : ByteArray} {ml : Nat} {ret : Option FieldType} {h mc ms n0 : Nat} {Ret : zRT} {K : zKT} (C : zX y cc ml ret h mc ms n0 Ret K) {pc : Nat} {Lo : List (Option zV)} {st : List zV} {n : Nat} {σ : zS} {w : Nat} {a b : Int} (d : decode cc pc = .ok (.imul, 1)) (k : K (pc + 1) Lo (zi (a * b) :: st) n σ w) : K pc Lo (zi b :: zi a :: st) n σ w := by
  obtain ⟨p, l, e, R, s, m, args, below, meth, c, Q, g, ⟨hx, hb, hml, hown, hts, hK, hin⟩, hR, hsz, rfl, hrt⟩ := C
  intro ls H locs hn hl hP hS
  refine lv_imul hx hb d ?_
  rw [← zI_mul]
  exact k ls H locs hn hl hP hS
set_option maxHeartbeats 2000000 in
theorem x_ladd {y : MethodName} {cc : ByteArray} {ml : Nat} {ret : Option FieldType} {h mc ms n0 : Nat} {Ret : zRT} {K : zKT} (C : zX y cc ml ret h mc ms n0 Ret K) {pc : Nat} {Lo : List (Option zV)} {st : List zV} {n : Nat} {σ : zS} {w : Nat} {a b : Int} (d : decode cc pc = .ok (.ladd, 1)) (k : K (pc + 1) Lo (zl (a + b) :: st) n σ w) : K pc Lo (zl b :: zl a :: st) n σ w := by
  obtain ⟨p, l, e, R, s, m, args, below, meth, c, Q, g, ⟨hx, hb, hml, hown, hts, hK, hin⟩, hR, hsz, rfl, hrt⟩ := C
  intro ls H locs hn hl hP hS
  refine lv_ladd hx hb d ?_
  rw [← zJ_add]
  exact k ls H locs hn hl hP hS
set_option maxHeartbeats 2000000 in
theorem x_lsub {y : MethodName} {cc : ByteArray} {ml : Nat} {ret : Option FieldType} {h mc ms n0 : Nat} {Ret : zRT} {K : zKT} (C : zX y cc ml ret h mc ms n0 Ret K) {pc : Nat} {Lo : List (Option zV)} {st : List zV} {n : Nat} {σ : zS} {w : Nat} {a b : Int} (d : decode cc pc = .ok (.lsub, 1)) (k : K (pc + 1) Lo (zl (a - b) :: st) n σ w) : K pc Lo (zl b :: zl a :: st) n σ w := by
  obtain ⟨p, l, e, R, s, m, args, below, meth, c, Q, g, ⟨hx, hb, hml, hown, hts, hK, hin⟩, hR, hsz, rfl, hrt⟩ := C
  intro ls H locs hn hl hP hS
  refine lv_lsub hx hb d ?_
  rw [← zJ_sub]
  exact k ls H locs hn hl hP hS
set_option maxHeartbeats 2000000 in
theorem x_lmul {y : MethodName} {cc : ByteArray} {ml : Nat} {ret : Option FieldType} {h mc ms n0 : Nat} {Ret : zRT} {K : zKT} (C : zX y cc ml ret h mc ms n0 Ret K) {pc : Nat} {Lo : List (Option zV)} {st : List zV} {n : Nat} {σ : zS} {w : Nat} {a b : Int} (d : decode cc pc = .ok (.lmul, 1)) (k : K (pc + 1) Lo (zl (a * b) :: st) n σ w) : K pc Lo (zl b :: zl a :: st) n σ w := by
  obtain ⟨p, l, e, R, s, m, args, below, meth, c, Q, g, ⟨hx, hb, hml, hown, hts, hK, hin⟩, hR, hsz, rfl, hrt⟩ := C
  intro ls H locs hn hl hP hS
  refine lv_lmul hx hb d ?_
  rw [← zJ_mul]
  exact k ls H locs hn hl hP hS
set_option maxHeartbeats 2000000 in
theorem x_ineg {y : MethodName} {cc : ByteArray} {ml : Nat} {ret : Option FieldType} {h mc ms n0 : Nat} {Ret : zRT} {K : zKT} (C : zX y cc ml ret h mc ms n0 Ret K) {pc : Nat} {Lo : List (Option zV)} {st : List zV} {n : Nat} {σ : zS} {w : Nat} {a : Int} (d : decode cc pc = .ok (.ineg, 1)) (k : K (pc + 1) Lo (zi (-a) :: st) n σ w) : K pc Lo (zi a :: st) n σ w := by
  obtain ⟨p, l, e, R, s, m, args, below, meth, c, Q, g, ⟨hx, hb, hml, hown, hts, hK, hin⟩, hR, hsz, rfl, hrt⟩ := C
  intro ls H locs hn hl hP hS
  refine lv_ineg hx hb d ?_
  rw [← zI_neg]
  exact k ls H locs hn hl hP hS
set_option maxHeartbeats 2000000 in
theorem x_lneg {y : MethodName} {cc : ByteArray} {ml : Nat} {ret : Option FieldType} {h mc ms n0 : Nat} {Ret : zRT} {K : zKT} (C : zX y cc ml ret h mc ms n0 Ret K) {pc : Nat} {Lo : List (Option zV)} {st : List zV} {n : Nat} {σ : zS} {w : Nat} {a : Int} (d : decode cc pc = .ok (.lneg, 1)) (k : K (pc + 1) Lo (zl (-a) :: st) n σ w) : K pc Lo (zl a :: st) n σ w := by
  obtain ⟨p, l, e, R, s, m, args, below, meth, c, Q, g, ⟨hx, hb, hml, hown, hts, hK, hin⟩, hR, hsz, rfl, hrt⟩ := C
  intro ls H locs hn hl hP hS
  refine lv_lneg hx hb d ?_
  rw [← zJ_neg]
  exact k ls H locs hn hl hP hS
set_option maxHeartbeats 2000000 in
theorem x_idiv {y : MethodName} {cc : ByteArray} {ml : Nat} {ret : Option FieldType} {h mc ms n0 : Nat} {Ret : zRT} {K : zKT} (C : zX y cc ml ret h mc ms n0 Ret K) {pc : Nat} {Lo : List (Option zV)} {st : List zV} {n : Nat} {σ : zS} {w : Nat} {a b : Int} (d : decode cc pc = .ok (.idiv, 1)) (hr : (0 ≤ a ∧ a < 2147483648) ∧ 0 < b ∧ b < 2147483648) (k : K (pc + 1) Lo (zi (a / b) :: st) n σ w) : K pc Lo (zi b :: zi a :: st) n σ w := by
  obtain ⟨p, l, e, R, s, m, args, below, meth, c, Q, g, ⟨hx, hb, hml, hown, hts, hK, hin⟩, hR, hsz, rfl, hrt⟩ := C
  intro ls H locs hn hl hP hS
  refine lv_idiv hx hb d (zI_ne0 (by omega) (by omega)) ?_
  rw [zI_div hr.1 hr.2]
  exact k ls H locs hn hl hP hS
set_option maxHeartbeats 2000000 in
theorem x_irem {y : MethodName} {cc : ByteArray} {ml : Nat} {ret : Option FieldType} {h mc ms n0 : Nat} {Ret : zRT} {K : zKT} (C : zX y cc ml ret h mc ms n0 Ret K) {pc : Nat} {Lo : List (Option zV)} {st : List zV} {n : Nat} {σ : zS} {w : Nat} {a b : Int} (d : decode cc pc = .ok (.irem, 1)) (hr : (0 ≤ a ∧ a < 2147483648) ∧ 0 < b ∧ b < 2147483648) (k : K (pc + 1) Lo (zi (a % b) :: st) n σ w) : K pc Lo (zi b :: zi a :: st) n σ w := by
  obtain ⟨p, l, e, R, s, m, args, below, meth, c, Q, g, ⟨hx, hb, hml, hown, hts, hK, hin⟩, hR, hsz, rfl, hrt⟩ := C
  intro ls H locs hn hl hP hS
  refine lv_irem hx hb d (zI_ne0 (by omega) (by omega)) ?_
  rw [zI_rem hr.1 hr.2]
  exact k ls H locs hn hl hP hS
set_option maxHeartbeats 2000000 in
theorem x_idivs {y : MethodName} {cc : ByteArray} {ml : Nat} {ret : Option FieldType} {h mc ms n0 : Nat} {Ret : zRT} {K : zKT} (C : zX y cc ml ret h mc ms n0 Ret K) {pc : Nat} {Lo : List (Option zV)} {st : List zV} {n : Nat} {σ : zS} {w : Nat} {a b : Int} (d : decode cc pc = .ok (.idiv, 1)) (hr : (-2147483648 < a ∧ a < 2147483648) ∧ b ≠ 0 ∧ -2147483648 ≤ b ∧ b < 2147483648) (k : K (pc + 1) Lo (zi (a.tdiv b) :: st) n σ w) : K pc Lo (zi b :: zi a :: st) n σ w := by
  obtain ⟨p, l, e, R, s, m, args, below, meth, c, Q, g, ⟨hx, hb, hml, hown, hts, hK, hin⟩, hR, hsz, rfl, hrt⟩ := C
  intro ls H locs hn hl hP hS
  refine lv_idiv hx hb d (zI_ne0 (by omega) hr.2.1) ?_
  rw [zI_divs hr.1 hr.2.2]
  exact k ls H locs hn hl hP hS
set_option maxHeartbeats 2000000 in
theorem x_irems {y : MethodName} {cc : ByteArray} {ml : Nat} {ret : Option FieldType} {h mc ms n0 : Nat} {Ret : zRT} {K : zKT} (C : zX y cc ml ret h mc ms n0 Ret K) {pc : Nat} {Lo : List (Option zV)} {st : List zV} {n : Nat} {σ : zS} {w : Nat} {a b : Int} (d : decode cc pc = .ok (.irem, 1)) (hr : (-2147483648 < a ∧ a < 2147483648) ∧ b ≠ 0 ∧ -2147483648 ≤ b ∧ b < 2147483648) (k : K (pc + 1) Lo (zi (a.tmod b) :: st) n σ w) : K pc Lo (zi b :: zi a :: st) n σ w := by
  obtain ⟨p, l, e, R, s, m, args, below, meth, c, Q, g, ⟨hx, hb, hml, hown, hts, hK, hin⟩, hR, hsz, rfl, hrt⟩ := C
  intro ls H locs hn hl hP hS
  refine lv_irem hx hb d (zI_ne0 (by omega) hr.2.1) ?_
  rw [zI_rems hr.1 hr.2.2]
  exact k ls H locs hn hl hP hS
set_option maxHeartbeats 2000000 in
theorem x_ishl {y : MethodName} {cc : ByteArray} {ml : Nat} {ret : Option FieldType} {h mc ms n0 : Nat} {Ret : zRT} {K : zKT} (C : zX y cc ml ret h mc ms n0 Ret K) {pc : Nat} {Lo : List (Option zV)} {st : List zV} {n : Nat} {σ : zS} {w : Nat} {a b : Int} (d : decode cc pc = .ok (.ishl, 1)) (hr : 0 ≤ b ∧ b < 32) (k : K (pc + 1) Lo (zi (a * 2 ^ b.toNat) :: st) n σ w) : K pc Lo (zi b :: zi a :: st) n σ w := by
  obtain ⟨p, l, e, R, s, m, args, below, meth, c, Q, g, ⟨hx, hb, hml, hown, hts, hK, hin⟩, hR, hsz, rfl, hrt⟩ := C
  intro ls H locs hn hl hP hS
  refine lv_ishl hx hb d ?_
  rw [zI_shl a hr]
  exact k ls H locs hn hl hP hS
set_option maxHeartbeats 2000000 in
theorem x_ishr {y : MethodName} {cc : ByteArray} {ml : Nat} {ret : Option FieldType} {h mc ms n0 : Nat} {Ret : zRT} {K : zKT} (C : zX y cc ml ret h mc ms n0 Ret K) {pc : Nat} {Lo : List (Option zV)} {st : List zV} {n : Nat} {σ : zS} {w : Nat} {a b : Int} (d : decode cc pc = .ok (.ishr, 1)) (hr : (-2147483648 ≤ a ∧ a < 2147483648) ∧ 0 ≤ b ∧ b < 32) (k : K (pc + 1) Lo (zi (a / 2 ^ b.toNat) :: st) n σ w) : K pc Lo (zi b :: zi a :: st) n σ w := by
  obtain ⟨p, l, e, R, s, m, args, below, meth, c, Q, g, ⟨hx, hb, hml, hown, hts, hK, hin⟩, hR, hsz, rfl, hrt⟩ := C
  intro ls H locs hn hl hP hS
  refine lv_ishr hx hb d ?_
  rw [zI_shr hr.1 hr.2]
  exact k ls H locs hn hl hP hS
set_option maxHeartbeats 2000000 in
theorem x_iand {y : MethodName} {cc : ByteArray} {ml : Nat} {ret : Option FieldType} {h mc ms n0 : Nat} {Ret : zRT} {K : zKT} (C : zX y cc ml ret h mc ms n0 Ret K) {pc : Nat} {Lo : List (Option zV)} {st : List zV} {n : Nat} {σ : zS} {w : Nat} {a b : Int} (d : decode cc pc = .ok (.iand, 1)) (k : K (pc + 1) Lo (zi (zand a b) :: st) n σ w) : K pc Lo (zi b :: zi a :: st) n σ w := by
  obtain ⟨p, l, e, R, s, m, args, below, meth, c, Q, g, ⟨hx, hb, hml, hown, hts, hK, hin⟩, hR, hsz, rfl, hrt⟩ := C
  intro ls H locs hn hl hP hS
  refine lv_iand hx hb d ?_
  rw [← zI_and]
  exact k ls H locs hn hl hP hS
set_option maxHeartbeats 2000000 in
theorem x_ior {y : MethodName} {cc : ByteArray} {ml : Nat} {ret : Option FieldType} {h mc ms n0 : Nat} {Ret : zRT} {K : zKT} (C : zX y cc ml ret h mc ms n0 Ret K) {pc : Nat} {Lo : List (Option zV)} {st : List zV} {n : Nat} {σ : zS} {w : Nat} {a b : Int} (d : decode cc pc = .ok (.ior, 1)) (k : K (pc + 1) Lo (zi (zor a b) :: st) n σ w) : K pc Lo (zi b :: zi a :: st) n σ w := by
  obtain ⟨p, l, e, R, s, m, args, below, meth, c, Q, g, ⟨hx, hb, hml, hown, hts, hK, hin⟩, hR, hsz, rfl, hrt⟩ := C
  intro ls H locs hn hl hP hS
  refine lv_ior hx hb d ?_
  rw [← zI_or]
  exact k ls H locs hn hl hP hS
set_option maxHeartbeats 2000000 in
theorem x_land {y : MethodName} {cc : ByteArray} {ml : Nat} {ret : Option FieldType} {h mc ms n0 : Nat} {Ret : zRT} {K : zKT} (C : zX y cc ml ret h mc ms n0 Ret K) {pc : Nat} {Lo : List (Option zV)} {st : List zV} {n : Nat} {σ : zS} {w : Nat} {a b : Int} (d : decode cc pc = .ok (.land, 1)) (k : K (pc + 1) Lo (zl (zandl a b) :: st) n σ w) : K pc Lo (zl b :: zl a :: st) n σ w := by
  obtain ⟨p, l, e, R, s, m, args, below, meth, c, Q, g, ⟨hx, hb, hml, hown, hts, hK, hin⟩, hR, hsz, rfl, hrt⟩ := C
  intro ls H locs hn hl hP hS
  refine lv_land hx hb d ?_
  rw [← zJ_and]
  exact k ls H locs hn hl hP hS
set_option maxHeartbeats 2000000 in
theorem x_lor {y : MethodName} {cc : ByteArray} {ml : Nat} {ret : Option FieldType} {h mc ms n0 : Nat} {Ret : zRT} {K : zKT} (C : zX y cc ml ret h mc ms n0 Ret K) {pc : Nat} {Lo : List (Option zV)} {st : List zV} {n : Nat} {σ : zS} {w : Nat} {a b : Int} (d : decode cc pc = .ok (.lor, 1)) (k : K (pc + 1) Lo (zl (zorl a b) :: st) n σ w) : K pc Lo (zl b :: zl a :: st) n σ w := by
  obtain ⟨p, l, e, R, s, m, args, below, meth, c, Q, g, ⟨hx, hb, hml, hown, hts, hK, hin⟩, hR, hsz, rfl, hrt⟩ := C
  intro ls H locs hn hl hP hS
  refine lv_lor hx hb d ?_
  rw [← zJ_or]
  exact k ls H locs hn hl hP hS
set_option maxHeartbeats 2000000 in
theorem x_lshl {y : MethodName} {cc : ByteArray} {ml : Nat} {ret : Option FieldType} {h mc ms n0 : Nat} {Ret : zRT} {K : zKT} (C : zX y cc ml ret h mc ms n0 Ret K) {pc : Nat} {Lo : List (Option zV)} {st : List zV} {n : Nat} {σ : zS} {w : Nat} {a b : Int} (d : decode cc pc = .ok (.lshl, 1)) (hr : 0 ≤ b ∧ b < 64) (k : K (pc + 1) Lo (zl (a * 2 ^ b.toNat) :: st) n σ w) : K pc Lo (zi b :: zl a :: st) n σ w := by
  obtain ⟨p, l, e, R, s, m, args, below, meth, c, Q, g, ⟨hx, hb, hml, hown, hts, hK, hin⟩, hR, hsz, rfl, hrt⟩ := C
  intro ls H locs hn hl hP hS
  exact lv_lshl hx hb d (zJ_shl a hr) (k ls H locs hn hl hP hS)
set_option maxHeartbeats 2000000 in
theorem x_lshr {y : MethodName} {cc : ByteArray} {ml : Nat} {ret : Option FieldType} {h mc ms n0 : Nat} {Ret : zRT} {K : zKT} (C : zX y cc ml ret h mc ms n0 Ret K) {pc : Nat} {Lo : List (Option zV)} {st : List zV} {n : Nat} {σ : zS} {w : Nat} {a b : Int} (d : decode cc pc = .ok (.lshr, 1)) (hr : (-9223372036854775808 ≤ a ∧ a < 9223372036854775808) ∧ 0 ≤ b ∧ b < 64) (k : K (pc + 1) Lo (zl (a / 2 ^ b.toNat) :: st) n σ w) : K pc Lo (zi b :: zl a :: st) n σ w := by
  obtain ⟨p, l, e, R, s, m, args, below, meth, c, Q, g, ⟨hx, hb, hml, hown, hts, hK, hin⟩, hR, hsz, rfl, hrt⟩ := C
  intro ls H locs hn hl hP hS
  exact lv_lshr hx hb d (zJ_shr hr.1 hr.2) (k ls H locs hn hl hP hS)
set_option maxHeartbeats 2000000 in
theorem x_lushr {y : MethodName} {cc : ByteArray} {ml : Nat} {ret : Option FieldType} {h mc ms n0 : Nat} {Ret : zRT} {K : zKT} (C : zX y cc ml ret h mc ms n0 Ret K) {pc : Nat} {Lo : List (Option zV)} {st : List zV} {n : Nat} {σ : zS} {w : Nat} {a b : Int} (d : decode cc pc = .ok (.lushr, 1)) (hr : 0 ≤ b ∧ b < 64) (k : K (pc + 1) Lo (zl ((a % 18446744073709551616) / 2 ^ b.toNat) :: st) n σ w) : K pc Lo (zi b :: zl a :: st) n σ w := by
  obtain ⟨p, l, e, R, s, m, args, below, meth, c, Q, g, ⟨hx, hb, hml, hown, hts, hK, hin⟩, hR, hsz, rfl, hrt⟩ := C
  intro ls H locs hn hl hP hS
  exact lv_lushr hx hb d (zJ_ushr a hr) (k ls H locs hn hl hP hS)
set_option maxHeartbeats 2000000 in
theorem x_i2l {y : MethodName} {cc : ByteArray} {ml : Nat} {ret : Option FieldType} {h mc ms n0 : Nat} {Ret : zRT} {K : zKT} (C : zX y cc ml ret h mc ms n0 Ret K) {pc : Nat} {Lo : List (Option zV)} {st : List zV} {n : Nat} {σ : zS} {w : Nat} {a : Int} (d : decode cc pc = .ok (.i2l, 1)) (hr : -2147483648 ≤ a ∧ a < 2147483648) (k : K (pc + 1) Lo (zl a :: st) n σ w) : K pc Lo (zi a :: st) n σ w := by
  obtain ⟨p, l, e, R, s, m, args, below, meth, c, Q, g, ⟨hx, hb, hml, hown, hts, hK, hin⟩, hR, hsz, rfl, hrt⟩ := C
  intro ls H locs hn hl hP hS
  exact lv_i2l hx hb d (zI_l hr) (k ls H locs hn hl hP hS)
set_option maxHeartbeats 2000000 in
theorem x_l2i {y : MethodName} {cc : ByteArray} {ml : Nat} {ret : Option FieldType} {h mc ms n0 : Nat} {Ret : zRT} {K : zKT} (C : zX y cc ml ret h mc ms n0 Ret K) {pc : Nat} {Lo : List (Option zV)} {st : List zV} {n : Nat} {σ : zS} {w : Nat} {a : Int} (d : decode cc pc = .ok (.l2i, 1)) (k : K (pc + 1) Lo (zi a :: st) n σ w) : K pc Lo (zl a :: st) n σ w := by
  obtain ⟨p, l, e, R, s, m, args, below, meth, c, Q, g, ⟨hx, hb, hml, hown, hts, hK, hin⟩, hR, hsz, rfl, hrt⟩ := C
  intro ls H locs hn hl hP hS
  exact lv_l2i hx hb d Int64.toInt32_ofInt (k ls H locs hn hl hP hS)
set_option maxHeartbeats 2000000 in
theorem x_i2c {y : MethodName} {cc : ByteArray} {ml : Nat} {ret : Option FieldType} {h mc ms n0 : Nat} {Ret : zRT} {K : zKT} (C : zX y cc ml ret h mc ms n0 Ret K) {pc : Nat} {Lo : List (Option zV)} {st : List zV} {n : Nat} {σ : zS} {w : Nat} {a : Int} (d : decode cc pc = .ok (.i2c, 1)) (hr : 0 ≤ a ∧ a < 65536) (k : K (pc + 1) Lo (zi a :: st) n σ w) : K pc Lo (zi a :: st) n σ w := by
  obtain ⟨p, l, e, R, s, m, args, below, meth, c, Q, g, ⟨hx, hb, hml, hown, hts, hK, hin⟩, hR, hsz, rfl, hrt⟩ := C
  intro ls H locs hn hl hP hS
  exact lv_i2c hx hb d (zI_c hr) (k ls H locs hn hl hP hS)
set_option maxHeartbeats 2000000 in
theorem x_i2d {y : MethodName} {cc : ByteArray} {ml : Nat} {ret : Option FieldType} {h mc ms n0 : Nat} {Ret : zRT} {K : zKT} (C : zX y cc ml ret h mc ms n0 Ret K) {pc : Nat} {Lo : List (Option zV)} {st : List zV} {n : Nat} {σ : zS} {w : Nat} {a : Int} (d : decode cc pc = .ok (.i2d, 1)) (k : K (pc + 1) Lo (zd (FP.i2d (zI a)) :: st) n σ w) : K pc Lo (zi a :: st) n σ w := by
  obtain ⟨p, l, e, R, s, m, args, below, meth, c, Q, g, ⟨hx, hb, hml, hown, hts, hK, hin⟩, hR, hsz, rfl, hrt⟩ := C
  intro ls H locs hn hl hP hS
  exact lv_i2d hx hb d (k ls H locs hn hl hP hS)
set_option maxHeartbeats 2000000 in
theorem x_i2f {y : MethodName} {cc : ByteArray} {ml : Nat} {ret : Option FieldType} {h mc ms n0 : Nat} {Ret : zRT} {K : zKT} (C : zX y cc ml ret h mc ms n0 Ret K) {pc : Nat} {Lo : List (Option zV)} {st : List zV} {n : Nat} {σ : zS} {w : Nat} {a : Int} (d : decode cc pc = .ok (.i2f, 1)) (k : K (pc + 1) Lo (zf (FP.i2f (zI a)) :: st) n σ w) : K pc Lo (zi a :: st) n σ w := by
  obtain ⟨p, l, e, R, s, m, args, below, meth, c, Q, g, ⟨hx, hb, hml, hown, hts, hK, hin⟩, hR, hsz, rfl, hrt⟩ := C
  intro ls H locs hn hl hP hS
  exact lv_i2f hx hb d (k ls H locs hn hl hP hS)
set_option maxHeartbeats 2000000 in
theorem x_ddiv {y : MethodName} {cc : ByteArray} {ml : Nat} {ret : Option FieldType} {h mc ms n0 : Nat} {Ret : zRT} {K : zKT} (C : zX y cc ml ret h mc ms n0 Ret K) {pc : Nat} {Lo : List (Option zV)} {st : List zV} {n : Nat} {σ : zS} {w : Nat} {a b : UInt64} (d : decode cc pc = .ok (.ddiv, 1)) (hr : vf_n64 (FP.ddiv a b)) (k : K (pc + 1) Lo (zd (FP.ddiv a b) :: st) n σ w) : K pc Lo (zd b :: zd a :: st) n σ w := by
  obtain ⟨p, l, e, R, s, m, args, below, meth, c, Q, g, ⟨hx, hb, hml, hown, hts, hK, hin⟩, hR, hsz, rfl, hrt⟩ := C
  intro ls H locs hn hl hP hS
  exact lv_ddiv hx hb d hr (k ls H locs hn hl hP hS)
set_option maxHeartbeats 2000000 in
theorem x_fdiv {y : MethodName} {cc : ByteArray} {ml : Nat} {ret : Option FieldType} {h mc ms n0 : Nat} {Ret : zRT} {K : zKT} (C : zX y cc ml ret h mc ms n0 Ret K) {pc : Nat} {Lo : List (Option zV)} {st : List zV} {n : Nat} {σ : zS} {w : Nat} {a b : UInt32} (d : decode cc pc = .ok (.fdiv, 1)) (hr : vf_n32 (FP.fdiv a b)) (k : K (pc + 1) Lo (zf (FP.fdiv a b) :: st) n σ w) : K pc Lo (zf b :: zf a :: st) n σ w := by
  obtain ⟨p, l, e, R, s, m, args, below, meth, c, Q, g, ⟨hx, hb, hml, hown, hts, hK, hin⟩, hR, hsz, rfl, hrt⟩ := C
  intro ls H locs hn hl hP hS
  exact lv_fdiv hx hb d hr (k ls H locs hn hl hP hS)
set_option maxHeartbeats 2000000 in
theorem x_lcmp {y : MethodName} {cc : ByteArray} {ml : Nat} {ret : Option FieldType} {h mc ms n0 : Nat} {Ret : zRT} {K : zKT} (C : zX y cc ml ret h mc ms n0 Ret K) {pc : Nat} {Lo : List (Option zV)} {st : List zV} {n : Nat} {σ : zS} {w : Nat} {a b : Int} (d : decode cc pc = .ok (.lcmp, 1)) (hr : (-9223372036854775808 ≤ a ∧ a < 9223372036854775808) ∧ (-9223372036854775808 ≤ b ∧ b < 9223372036854775808)) (k : ∀ r : Int, ((a < b ∧ r = -1) ∨ (a = b ∧ r = 0) ∨ (b < a ∧ r = 1)) → K (pc + 1) Lo (zi r :: st) n σ w) : K pc Lo (zl b :: zl a :: st) n σ w := by
  obtain ⟨p, l, e, R, s, m, args, below, meth, c, Q, g, ⟨hx, hb, hml, hown, hts, hK, hin⟩, hR, hsz, rfl, hrt⟩ := C
  intro ls H locs hn hl hP hS
  refine W.lcmp hx hb d ?_
  obtain ⟨r, hr1, hr2⟩ := zJ_cmp hr
  rw [hr1]
  exact k r hr2 ls H locs hn hl hP hS
set_option maxHeartbeats 2000000 in
theorem x_dup {y : MethodName} {cc : ByteArray} {ml : Nat} {ret : Option FieldType} {h mc ms n0 : Nat} {Ret : zRT} {K : zKT} (C : zX y cc ml ret h mc ms n0 Ret K) {pc : Nat} {Lo : List (Option zV)} {st : List zV} {n : Nat} {σ : zS} {w : Nat} {v : zV} (d : decode cc pc = .ok (.dup, 1)) (hw : zwide v = false) (k : K (pc + 1) Lo (v :: v :: st) n σ w) : K pc Lo (v :: st) n σ w := by
  obtain ⟨p, l, e, R, s, m, args, below, meth, c, Q, g, ⟨hx, hb, hml, hown, hts, hK, hin⟩, hR, hsz, rfl, hrt⟩ := C
  intro ls H locs hn hl hP hS
  exact lv_dup hx hb d ((lv_cat _).resolve_right (fun q => by rw [(zcat_wide g v).mp q] at hw; cases hw)) (k ls H locs hn hl hP hS)
set_option maxHeartbeats 2000000 in
theorem x_dup2 {y : MethodName} {cc : ByteArray} {ml : Nat} {ret : Option FieldType} {h mc ms n0 : Nat} {Ret : zRT} {K : zKT} (C : zX y cc ml ret h mc ms n0 Ret K) {pc : Nat} {Lo : List (Option zV)} {st : List zV} {n : Nat} {σ : zS} {w : Nat} {v u : zV} (d : decode cc pc = .ok (.dup2, 1)) (hw : zwide v = false ∧ zwide u = false) (k : K (pc + 1) Lo (v :: u :: v :: u :: st) n σ w) : K pc Lo (v :: u :: st) n σ w := by
  obtain ⟨p, l, e, R, s, m, args, below, meth, c, Q, g, ⟨hx, hb, hml, hown, hts, hK, hin⟩, hR, hsz, rfl, hrt⟩ := C
  intro ls H locs hn hl hP hS
  exact lv_dup2_11 hx hb d ((lv_cat _).resolve_right (fun q => by have := (zcat_wide g _).mp q; simp [hw.1, hw.2] at this)) ((lv_cat _).resolve_right (fun q => by have := (zcat_wide g _).mp q; simp [hw.1, hw.2] at this)) (k ls H locs hn hl hP hS)
set_option maxHeartbeats 2000000 in
theorem x_goto {y : MethodName} {cc : ByteArray} {ml : Nat} {ret : Option FieldType} {h mc ms n0 : Nat} {Ret : zRT} {K : zKT} (C : zX y cc ml ret h mc ms n0 Ret K) {pc : Nat} {Lo : List (Option zV)} {st : List zV} {n : Nat} {σ : zS} {w : Nat} {off : Int} {tgt : Nat} (d : decode cc pc = .ok (.goto off, 3)) (ht : (pc : Int) + off = (tgt : Int)) (k : K tgt Lo st n σ w) : K pc Lo st n σ w := by
  obtain ⟨p, l, e, R, s, m, args, below, meth, c, Q, g, ⟨hx, hb, hml, hown, hts, hK, hin⟩, hR, hsz, rfl, hrt⟩ := C
  intro ls H locs hn hl hP hS
  exact lv_goto hx hb d ht (k ls H locs hn hl hP hS)
set_option maxHeartbeats 2000000 in
theorem x_icmp_eq {y : MethodName} {cc : ByteArray} {ml : Nat} {ret : Option FieldType} {h mc ms n0 : Nat} {Ret : zRT} {K : zKT} (C : zX y cc ml ret h mc ms n0 Ret K) {pc : Nat} {Lo : List (Option zV)} {st : List zV} {n : Nat} {σ : zS} {w : Nat} {a b : Int} {off : Int} {tgt : Nat} (d : decode cc pc = .ok (.if_icmp .eq off, 3)) (ht : (pc : Int) + off = (tgt : Int)) (hr : (-2147483648 ≤ a ∧ a < 2147483648) ∧ (-2147483648 ≤ b ∧ b < 2147483648)) (kt : a = b → K tgt Lo st n σ w) (kf : ¬ a = b → K (pc + 3) Lo st n σ w) : K pc Lo (zi b :: zi a :: st) n σ w := by
  obtain ⟨p, l, e, R, s, m, args, below, meth, c, Q, g, ⟨hx, hb, hml, hown, hts, hK, hin⟩, hR, hsz, rfl, hrt⟩ := C
  intro ls H locs hn hl hP hS
  have hr2 := And.intro hr.2 hr.1
  exact lv_icmp_eq hx hb d ht (fun q => kt ((zI_eq hr).mp q) ls H locs hn hl hP hS) (fun q => kf (fun z => q ((zI_eq hr).mpr z)) ls H locs hn hl hP hS)
set_option maxHeartbeats 2000000 in
theorem x_if_eq {y : MethodName} {cc : ByteArray} {ml : Nat} {ret : Option FieldType} {h mc ms n0 : Nat} {Ret : zRT} {K : zKT} (C : zX y cc ml ret h mc ms n0 Ret K) {pc : Nat} {Lo : List (Option zV)} {st : List zV} {n : Nat} {σ : zS} {w : Nat} {a : Int} {off : Int} {tgt : Nat} (d : decode cc pc = .ok (.ifCond .eq off, 3)) (ht : (pc : Int) + off = (tgt : Int)) (hr0 : -2147483648 ≤ a ∧ a < 2147483648) (kt : a = 0 → K tgt Lo st n σ w) (kf : ¬ a = 0 → K (pc + 3) Lo st n σ w) : K pc Lo (zi a :: st) n σ w := by
  obtain ⟨p, l, e, R, s, m, args, below, meth, c, Q, g, ⟨hx, hb, hml, hown, hts, hK, hin⟩, hR, hsz, rfl, hrt⟩ := C
  intro ls H locs hn hl hP hS
  have hr : (-2147483648 ≤ a ∧ a < 2147483648) ∧ (-2147483648 ≤ (0 : Int) ∧ (0 : Int) < 2147483648) := And.intro hr0 (by omega)
  have hr2 := And.intro hr.2 hr.1
  exact lv_if_eq hx hb d ht (fun q => kt ((zI_eq hr).mp q) ls H locs hn hl hP hS) (fun q => kf (fun z => q ((zI_eq hr).mpr z)) ls H locs hn hl hP hS)
set_option maxHeartbeats 2000000 in
theorem x_icmp_ne {y : MethodName} {cc : ByteArray} {ml : Nat} {ret : Option FieldType} {h mc ms n0 : Nat} {Ret : zRT} {K : zKT} (C : zX y cc ml ret h mc ms n0 Ret K) {pc : Nat} {Lo : List (Option zV)} {st : List zV} {n : Nat} {σ : zS} {w : Nat} {a b : Int} {off : Int} {tgt : Nat} (d : decode cc pc = .ok (.if_icmp .ne off, 3)) (ht : (pc : Int) + off = (tgt : Int)) (hr : (-2147483648 ≤ a ∧ a < 2147483648) ∧ (-2147483648 ≤ b ∧ b < 2147483648)) (kt : ¬ a = b → K tgt Lo st n σ w) (kf : a = b → K (pc + 3) Lo st n σ w) : K pc Lo (zi b :: zi a :: st) n σ w := by
  obtain ⟨p, l, e, R, s, m, args, below, meth, c, Q, g, ⟨hx, hb, hml, hown, hts, hK, hin⟩, hR, hsz, rfl, hrt⟩ := C
  intro ls H locs hn hl hP hS
  have hr2 := And.intro hr.2 hr.1
  exact lv_icmp_ne hx hb d ht (fun q => kt (fun z => q ((zI_eq hr).mpr z)) ls H locs hn hl hP hS) (fun q => kf ((zI_eq hr).mp q) ls H locs hn hl hP hS)
set_option maxHeartbeats 2000000 in
theorem x_if_ne {y : MethodName} {cc : ByteArray} {ml : Nat} {ret : Option FieldType} {h mc ms n0 : Nat} {Ret : zRT} {K : zKT} (C : zX y cc ml ret h mc ms n0 Ret K) {pc : Nat} {Lo : List (Option zV)} {st : List zV} {n : Nat} {σ : zS} {w : Nat} {a : Int} {off : Int} {tgt : Nat} (d : decode cc pc = .ok (.ifCond .ne off, 3)) (ht : (pc : Int) + off = (tgt : Int)) (hr0 : -2147483648 ≤ a ∧ a < 2147483648) (kt : ¬ a = 0 → K tgt Lo st n σ w) (kf : a = 0 → K (pc + 3) Lo st n σ w) : K pc Lo (zi a :: st) n σ w := by
  obtain ⟨p, l, e, R, s, m, args, below, meth, c, Q, g, ⟨hx, hb, hml, hown, hts, hK, hin⟩, hR, hsz, rfl, hrt⟩ := C
  intro ls H locs hn hl hP hS
  have hr : (-2147483648 ≤ a ∧ a < 2147483648) ∧ (-2147483648 ≤ (0 : Int) ∧ (0 : Int) < 2147483648) := And.intro hr0 (by omega)
  have hr2 := And.intro hr.2 hr.1
  exact lv_if_ne hx hb d ht (fun q => kt (fun z => q ((zI_eq hr).mpr z)) ls H locs hn hl hP hS) (fun q => kf ((zI_eq hr).mp q) ls H locs hn hl hP hS)
set_option maxHeartbeats 2000000 in
theorem x_icmp_lt {y : MethodName} {cc : ByteArray} {ml : Nat} {ret : Option FieldType} {h mc ms n0 : Nat} {Ret : zRT} {K : zKT} (C : zX y cc ml ret h mc ms n0 Ret K) {pc : Nat} {Lo : List (Option zV)} {st : List zV} {n : Nat} {σ : zS} {w : Nat} {a b : Int} {off : Int} {tgt : Nat} (d : decode cc pc = .ok (.if_icmp .lt off, 3)) (ht : (pc : Int) + off = (tgt : Int)) (hr : (-2147483648 ≤ a ∧ a < 2147483648) ∧ (-2147483648 ≤ b ∧ b < 2147483648)) (kt : a < b → K tgt Lo st n σ w) (kf : b ≤ a → K (pc + 3) Lo st n σ w) : K pc Lo (zi b :: zi a :: st) n σ w := by
  obtain ⟨p, l, e, R, s, m, args, below, meth, c, Q, g, ⟨hx, hb, hml, hown, hts, hK, hin⟩, hR, hsz, rfl, hrt⟩ := C
  intro ls H locs hn hl hP hS
  have hr2 := And.intro hr.2 hr.1
  exact lv_icmp_lt hx hb d ht (fun q => kt ((zI_lt hr).mp q) ls H locs hn hl hP hS) (fun q => kf (Int.not_lt.mp (fun z => q ((zI_lt hr).mpr z))) ls H locs hn hl hP hS)
set_option maxHeartbeats 2000000 in
theorem x_if_lt {y : MethodName} {cc : ByteArray} {ml : Nat} {ret : Option FieldType} {h mc ms n0 : Nat} {Ret : zRT} {K : zKT} (C : zX y cc ml ret h mc ms n0 Ret K) {pc : Nat} {Lo : List (Option zV)} {st : List zV} {n : Nat} {σ : zS} {w : Nat} {a : Int} {off : Int} {tgt : Nat} (d : decode cc pc = .ok (.ifCond .lt off, 3)) (ht : (pc : Int) + off = (tgt : Int)) (hr0 : -2147483648 ≤ a ∧ a < 2147483648) (kt : a < 0 → K tgt Lo st n σ w) (kf : 0 ≤ a → K (pc + 3) Lo st n σ w) : K pc Lo (zi a :: st) n σ w := by
  obtain ⟨p, l, e, R, s, m, args, below, meth, c, Q, g, ⟨hx, hb, hml, hown, hts, hK, hin⟩, hR, hsz, rfl, hrt⟩ := C
  intro ls H locs hn hl hP hS
  have hr : (-2147483648 ≤ a ∧ a < 2147483648) ∧ (-2147483648 ≤ (0 : Int) ∧ (0 : Int) < 2147483648) := And.intro hr0 (by omega)
  have hr2 := And.intro hr.2 hr.1
  exact lv_if_lt hx hb d ht (fun q => kt ((zI_lt hr).mp q) ls H locs hn hl hP hS) (fun q => kf (Int.not_lt.mp (fun z => q ((zI_lt hr).mpr z))) ls H locs hn hl hP hS)
set_option maxHeartbeats 2000000 in
theorem x_icmp_ge {y : MethodName} {cc : ByteArray} {ml : Nat} {ret : Option FieldType} {h mc ms n0 : Nat} {Ret : zRT} {K : zKT} (C : zX y cc ml ret h mc ms n0 Ret K) {pc : Nat} {Lo : List (Option zV)} {st : List zV} {n : Nat} {σ : zS} {w : Nat} {a b : Int} {off : Int} {tgt : Nat} (d : decode cc pc = .ok (.if_icmp .ge off, 3)) (ht : (pc : Int) + off = (tgt : Int)) (hr : (-2147483648 ≤ a ∧ a < 2147483648) ∧ (-2147483648 ≤ b ∧ b < 2147483648)) (kt : b ≤ a → K tgt Lo st n σ w) (kf : a < b → K (pc + 3) Lo st n σ w) : K pc Lo (zi b :: zi a :: st) n σ w := by
  obtain ⟨p, l, e, R, s, m, args, below, meth, c, Q, g, ⟨hx, hb, hml, hown, hts, hK, hin⟩, hR, hsz, rfl, hrt⟩ := C
  intro ls H locs hn hl hP hS
  have hr2 := And.intro hr.2 hr.1
  exact lv_icmp_ge hx hb d ht (fun q => kt ((zI_le hr2).mp q) ls H locs hn hl hP hS) (fun q => kf (Int.not_le.mp (fun z => q ((zI_le hr2).mpr z))) ls H locs hn hl hP hS)
set_option maxHeartbeats 2000000 in
theorem x_if_ge {y : MethodName} {cc : ByteArray} {ml : Nat} {ret : Option FieldType} {h mc ms n0 : Nat} {Ret : zRT} {K : zKT} (C : zX y cc ml ret h mc ms n0 Ret K) {pc : Nat} {Lo : List (Option zV)} {st : List zV} {n : Nat} {σ : zS} {w : Nat} {a : Int} {off : Int} {tgt : Nat} (d : decode cc pc = .ok (.ifCond .ge off, 3)) (ht : (pc : Int) + off = (tgt : Int)) (hr0 : -2147483648 ≤ a ∧ a < 2147483648) (kt : 0 ≤ a → K tgt Lo st n σ w) (kf : a < 0 → K (pc + 3) Lo st n σ w) : K pc Lo (zi a :: st) n σ w := by
  obtain ⟨p, l, e, R, s, m, args, below, meth, c, Q, g, ⟨hx, hb, hml, hown, hts, hK, hin⟩, hR, hsz, rfl, hrt⟩ := C
  intro ls H locs hn hl hP hS
  have hr : (-2147483648 ≤ a ∧ a < 2147483648) ∧ (-2147483648 ≤ (0 : Int) ∧ (0 : Int) < 2147483648) := And.intro hr0 (by omega)
  have hr2 := And.intro hr.2 hr.1
  exact lv_if_ge hx hb d ht (fun q => kt ((zI_le hr2).mp q) ls H locs hn hl hP hS) (fun q => kf (Int.not_le.mp (fun z => q ((zI_le hr2).mpr z))) ls H locs hn hl hP hS)
set_option maxHeartbeats 2000000 in
theorem x_icmp_gt {y : MethodName} {cc : ByteArray} {ml : Nat} {ret : Option FieldType} {h mc ms n0 : Nat} {Ret : zRT} {K : zKT} (C : zX y cc ml ret h mc ms n0 Ret K) {pc : Nat} {Lo : List (Option zV)} {st : List zV} {n : Nat} {σ : zS} {w : Nat} {a b : Int} {off : Int} {tgt : Nat} (d : decode cc pc = .ok (.if_icmp .gt off, 3)) (ht : (pc : Int) + off = (tgt : Int)) (hr : (-2147483648 ≤ a ∧ a < 2147483648) ∧ (-2147483648 ≤ b ∧ b < 2147483648)) (kt : b < a → K tgt Lo st n σ w) (kf : a ≤ b → K (pc + 3) Lo st n σ w) : K pc Lo (zi b :: zi a :: st) n σ w := by
  obtain ⟨p, l, e, R, s, m, args, below, meth, c, Q, g, ⟨hx, hb, hml, hown, hts, hK, hin⟩, hR, hsz, rfl, hrt⟩ := C
  intro ls H locs hn hl hP hS
  have hr2 := And.intro hr.2 hr.1
  exact lv_icmp_gt hx hb d ht (fun q => kt ((zI_lt hr2).mp q) ls H locs hn hl hP hS) (fun q => kf (Int.not_lt.mp (fun z => q ((zI_lt hr2).mpr z))) ls H locs hn hl hP hS)
set_option maxHeartbeats 2000000 in
theorem x_if_gt {y : MethodName} {cc : ByteArray} {ml : Nat} {ret : Option FieldType} {h mc ms n0 : Nat} {Ret : zRT} {K : zKT} (C : zX y cc ml ret h mc ms n0 Ret K) {pc : Nat} {Lo : List (Option zV)} {st : List zV} {n : Nat} {σ : zS} {w : Nat} {a : Int} {off : Int} {tgt : Nat} (d : decode cc pc = .ok (.ifCond .gt off, 3)) (ht : (pc : Int) + off = (tgt : Int)) (hr0 : -2147483648 ≤ a ∧ a < 2147483648) (kt : 0 < a → K tgt Lo st n σ w) (kf : a ≤ 0 → K (pc + 3) Lo st n σ w) : K pc Lo (zi a :: st) n σ w := by
  obtain ⟨p, l, e, R, s, m, args, below, meth, c, Q, g, ⟨hx, hb, hml, hown, hts, hK, hin⟩, hR, hsz, rfl, hrt⟩ := C
  intro ls H locs hn hl hP hS
  have hr : (-2147483648 ≤ a ∧ a < 2147483648) ∧ (-2147483648 ≤ (0 : Int) ∧ (0 : Int) < 2147483648) := And.intro hr0 (by omega)
  have hr2 := And.intro hr.2 hr.1
  exact lv_if_gt hx hb d ht (fun q => kt ((zI_lt hr2).mp q) ls H locs hn hl hP hS) (fun q => kf (Int.not_lt.mp (fun z => q ((zI_lt hr2).mpr z))) ls H locs hn hl hP hS)
set_option maxHeartbeats 2000000 in
theorem x_icmp_le {y : MethodName} {cc : ByteArray} {ml : Nat} {ret : Option FieldType} {h mc ms n0 : Nat} {Ret : zRT} {K : zKT} (C : zX y cc ml ret h mc ms n0 Ret K) {pc : Nat} {Lo : List (Option zV)} {st : List zV} {n : Nat} {σ : zS} {w : Nat} {a b : Int} {off : Int} {tgt : Nat} (d : decode cc pc = .ok (.if_icmp .le off, 3)) (ht : (pc : Int) + off = (tgt : Int)) (hr : (-2147483648 ≤ a ∧ a < 2147483648) ∧ (-2147483648 ≤ b ∧ b < 2147483648)) (kt : a ≤ b → K tgt Lo st n σ w) (kf : b < a → K (pc + 3) Lo st n σ w) : K pc Lo (zi b :: zi a :: st) n σ w := by
  obtain ⟨p, l, e, R, s, m, args, below, meth, c, Q, g, ⟨hx, hb, hml, hown, hts, hK, hin⟩, hR, hsz, rfl, hrt⟩ := C
  intro ls H locs hn hl hP hS
  have hr2 := And.intro hr.2 hr.1
  exact lv_icmp_le hx hb d ht (fun q => kt ((zI_le hr).mp q) ls H locs hn hl hP hS) (fun q => kf (Int.not_le.mp (fun z => q ((zI_le hr).mpr z))) ls H locs hn hl hP hS)
set_option maxHeartbeats 2000000 in
theorem x_if_le {y : MethodName} {cc : ByteArray} {ml : Nat} {ret : Option FieldType} {h mc ms n0 : Nat} {Ret : zRT} {K : zKT} (C : zX y cc ml ret h mc ms n0 Ret K) {pc : Nat} {Lo : List (Option zV)} {st : List zV} {n : Nat} {σ : zS} {w : Nat} {a : Int} {off : Int} {tgt : Nat} (d : decode cc pc = .ok (.ifCond .le off, 3)) (ht : (pc : Int) + off = (tgt : Int)) (hr0 : -2147483648 ≤ a ∧ a < 2147483648) (kt : a ≤ 0 → K tgt Lo st n σ w) (kf : 0 < a → K (pc + 3) Lo st n σ w) : K pc Lo (zi a :: st) n σ w := by
  obtain ⟨p, l, e, R, s, m, args, below, meth, c, Q, g, ⟨hx, hb, hml, hown, hts, hK, hin⟩, hR, hsz, rfl, hrt⟩ := C
  intro ls H locs hn hl hP hS
  have hr : (-2147483648 ≤ a ∧ a < 2147483648) ∧ (-2147483648 ≤ (0 : Int) ∧ (0 : Int) < 2147483648) := And.intro hr0 (by omega)
  have hr2 := And.intro hr.2 hr.1
  exact lv_if_le hx hb d ht (fun q => kt ((zI_le hr).mp q) ls H locs hn hl hP hS) (fun q => kf (Int.not_le.mp (fun z => q ((zI_le hr).mpr z))) ls H locs hn hl hP hS)
set_option maxHeartbeats 2000000 in
theorem x_icmp_eqr {y : MethodName} {cc : ByteArray} {ml : Nat} {ret : Option FieldType} {h mc ms n0 : Nat} {Ret : zRT} {K : zKT} (C : zX y cc ml ret h mc ms n0 Ret K) {pc : Nat} {Lo : List (Option zV)} {st : List zV} {n : Nat} {σ : zS} {w : Nat} {a b : Int} {off : Int} {tgt : Nat} (d : decode cc pc = .ok (.if_icmp .eq off, 3)) (ht : (pc : Int) + off = (tgt : Int)) (hab : a = b) (kt : K tgt Lo st n σ w) : K pc Lo (zi b :: zi a :: st) n σ w := by
  obtain ⟨p, l, e, R, s, m, args, below, meth, c, Q, g, ⟨hx, hb, hml, hown, hts, hK, hin⟩, hR, hsz, rfl, hrt⟩ := C
  intro ls H locs hn hl hP hS
  subst hab
  exact lv_icmp_eq hx hb d ht (fun q => kt ls H locs hn hl hP hS) (fun q => absurd rfl q)
set_option maxHeartbeats 2000000 in
theorem x_ifeq_b {y : MethodName} {cc : ByteArray} {ml : Nat} {ret : Option FieldType} {h mc ms n0 : Nat} {Ret : zRT} {K : zKT} (C : zX y cc ml ret h mc ms n0 Ret K) {pc : Nat} {Lo : List (Option zV)} {st : List zV} {n : Nat} {σ : zS} {w : Nat} {b : Bool} {off : Int} {tgt : Nat} (d : decode cc pc = .ok (.ifCond .eq off, 3)) (ht : (pc : Int) + off = (tgt : Int)) (kt : b = false → K tgt Lo st n σ w) (kf : b = true → K (pc + 3) Lo st n σ w) : K pc Lo (zi (zb b) :: st) n σ w := by
  obtain ⟨p, l, e, R, s, m, args, below, meth, c, Q, g, ⟨hx, hb, hml, hown, hts, hK, hin⟩, hR, hsz, rfl, hrt⟩ := C
  intro ls H locs hn hl hP hS
  cases b with
  | false => exact lv_if_eq hx hb d ht (fun q => kt rfl ls H locs hn hl hP hS) (fun q => absurd rfl q)
  | true => exact lv_if_eq hx hb d ht (fun q => absurd q (by decide)) (fun q => kf rfl ls H locs hn hl hP hS)
set_option maxHeartbeats 2000000 in
theorem x_ifne_b {y : MethodName} {cc : ByteArray} {ml : Nat} {ret : Option FieldType} {h mc ms n0 : Nat} {Ret : zRT} {K : zKT} (C : zX y cc ml ret h mc ms n0 Ret K) {pc : Nat} {Lo : List (Option zV)} {st : List zV} {n : Nat} {σ : zS} {w : Nat} {b : Bool} {off : Int} {tgt : Nat} (d : decode cc pc = .ok (.ifCond .ne off, 3)) (ht : (pc : Int) + off = (tgt : Int)) (kt : b = true → K tgt Lo st n σ w) (kf : b = false → K (pc + 3) Lo st n σ w) : K pc Lo (zi (zb b) :: st) n σ w := by
  obtain ⟨p, l, e, R, s, m, args, below, meth, c, Q, g, ⟨hx, hb, hml, hown, hts, hK, hin⟩, hR, hsz, rfl, hrt⟩ := C
  intro ls H locs hn hl hP hS
  cases b with
  | true => exact lv_if_ne hx hb d ht (fun q => kt rfl ls H locs hn hl hP hS) (fun q => absurd q (by decide))
  | false => exact lv_if_ne hx hb d ht (fun q => absurd rfl q) (fun q => kf rfl ls H locs hn hl hP hS)
set_option maxHeartbeats 2000000 in
theorem x_tableIn {y : MethodName} {cc : ByteArray} {ml : Nat} {ret : Option FieldType} {h mc ms n0 : Nat} {Ret : zRT} {K : zKT} (C : zX y cc ml ret h mc ms n0 Ret K) {pc : Nat} {Lo : List (Option zV)} {st : List zV} {n : Nat} {σ : zS} {w : Nat} {a : Int} {dflt lo hi : Int} {offs : Array Int} {len : Nat} {off : Int} {tgt : Nat} (d : decode cc pc = .ok (.tableswitch dflt lo hi offs, len)) (hr : (-2147483648 ≤ a ∧ a < 2147483648) ∧ lo ≤ a ∧ a ≤ hi) (ho : offs[(a - lo).toNat]? = some off) (ht : (pc : Int) + off = (tgt : Int)) (k : K tgt Lo st n σ w) : K pc Lo (zi a :: st) n σ w := by
  obtain ⟨p, l, e, R, s, m, args, below, meth, c, Q, g, ⟨hx, hb, hml, hown, hts, hK, hin⟩, hR, hsz, rfl, hrt⟩ := C
  intro ls H locs hn hl hP hS
  refine lv_tableIn hx hb d ?_ ?_ ?_ ht (k ls H locs hn hl hP hS)
  · rw [zI_t hr.1]; omega
  · rw [zI_t hr.1]; omega
  · rw [zI_t hr.1]; exact ho
set_option maxHeartbeats 2000000 in
theorem x_tableOut {y : MethodName} {cc : ByteArray} {ml : Nat} {ret : Option FieldType} {h mc ms n0 : Nat} {Ret : zRT} {K : zKT} (C : zX y cc ml ret h mc ms n0 Ret K) {pc : Nat} {Lo : List (Option zV)} {st : List zV} {n : Nat} {σ : zS} {w : Nat} {a : Int} {dflt lo hi : Int} {offs : Array Int} {len : Nat} {tgt : Nat} (d : decode cc pc = .ok (.tableswitch dflt lo hi offs, len)) (hr : (-2147483648 ≤ a ∧ a < 2147483648) ∧ (a < lo ∨ hi < a)) (ht : (pc : Int) + dflt = (tgt : Int)) (k : K tgt Lo st n σ w) : K pc Lo (zi a :: st) n σ w := by
  obtain ⟨p, l, e, R, s, m, args, below, meth, c, Q, g, ⟨hx, hb, hml, hown, hts, hK, hin⟩, hR, hsz, rfl, hrt⟩ := C
  intro ls H locs hn hl hP hS
  refine lv_tableOut hx hb d ?_ ht (k ls H locs hn hl hP hS)
  rw [zI_t hr.1]; exact hr.2
set_option maxHeartbeats 2000000 in
theorem x_lookup {y : MethodName} {cc : ByteArray} {ml : Nat} {ret : Option FieldType} {h mc ms n0 : Nat} {Ret : zRT} {K : zKT} (C : zX y cc ml ret h mc ms n0 Ret K) {pc : Nat} {Lo : List (Option zV)} {st : List zV} {n : Nat} {σ : zS} {w : Nat} {a : Int} {dflt : Int} {ps : Array (Int × Int)} {len : Nat} {off : Int} {tgt : Nat} (d : decode cc pc = .ok (.lookupswitch dflt ps, len)) (hr : -2147483648 ≤ a ∧ a < 2147483648) (hp : (ps.toList.zip (ps.toList.drop 1)).all (fun (a, next) => a.1 < next.1) = true) (ho : Op.lookupswitch.offset ps.toList dflt a = off) (ht : (pc : Int) + off = (tgt : Int)) (k : K tgt Lo st n σ w) : K pc Lo (zi a :: st) n σ w := by
  obtain ⟨p, l, e, R, s, m, args, below, meth, c, Q, g, ⟨hx, hb, hml, hown, hts, hK, hin⟩, hR, hsz, rfl, hrt⟩ := C
  intro ls H locs hn hl hP hS
  refine lv_lookup hx hb d hp ?_ ht (k ls H locs hn hl hP hS)
  rw [zI_t hr]; exact ho
set_option maxHeartbeats 2000000 in
theorem x_weak {y : MethodName} {cc : ByteArray} {ml : Nat} {ret : Option FieldType} {h mc ms n0 : Nat} {Ret : zRT} {K : zKT} (C : zX y cc ml ret h mc ms n0 Ret K) {pc : Nat} {Lo : List (Option zV)} {st : List zV} {n : Nat} {σ : zS} {w : Nat} {Lo' : List (Option zV)} (hw : ∀ (j : Nat) (u : zV), zg Lo' j = some u → zg Lo j = some u) (k : K pc Lo' st n σ w) : K pc Lo st n σ w := by
  obtain ⟨p, l, e, R, s, m, args, below, meth, c, Q, g, ⟨hx, hb, hml, hown, hts, hK, hin⟩, hR, hsz, rfl, hrt⟩ := C
  intro ls H locs hn hl hP hS
  exact k ls H locs hn (hl.weak hw) hP hS
set_option maxHeartbeats 2000000 in
theorem x_vret {y : MethodName} {cc : ByteArray} {ml : Nat} {ret : Option FieldType} {h mc ms n0 : Nat} {Ret : zRT} {K : zKT} (C : zX y cc ml ret h mc ms n0 Ret K) {pc : Nat} {Lo : List (Option zV)} {st : List zV} {n : Nat} {σ : zS} {w : Nat} (d : decode cc pc = .ok (.return_, 1)) (hy : ret = none) (hR : Ret none n σ w) : K pc Lo [] n σ w := by
  obtain ⟨p, l, e, R, s, m, args, below, meth, c, Q, g, hF, hRm, hsz, hKe, hrt⟩ := C
  exact hrt none pc Lo [] n σ w (Or.inl ⟨d, hy, rfl, rfl⟩) hR
set_option maxHeartbeats 2000000 in
theorem x_iret {y : MethodName} {cc : ByteArray} {ml : Nat} {ret : Option FieldType} {h mc ms n0 : Nat} {Ret : zRT} {K : zKT} (C : zX y cc ml ret h mc ms n0 Ret K) {pc : Nat} {Lo : List (Option zV)} {st : List zV} {n : Nat} {σ : zS} {w : Nat} {x : Int} (d : decode cc pc = .ok (.ireturn, 1)) (hy : ret = some .int) (hR : Ret (some (zi x)) n σ w) : K pc Lo [zi x] n σ w := by
  obtain ⟨p, l, e, R, s, m, args, below, meth, c, Q, g, hF, hRm, hsz, hKe, hrt⟩ := C
  exact hrt _ pc Lo [zi x] n σ w (Or.inr (Or.inl ⟨d, hy, x, rfl, rfl⟩)) hR
set_option maxHeartbeats 2000000 in
theorem x_zret {y : MethodName} {cc : ByteArray} {ml : Nat} {ret : Option FieldType} {h mc ms n0 : Nat} {Ret : zRT} {K : zKT} (C : zX y cc ml ret h mc ms n0 Ret K) {pc : Nat} {Lo : List (Option zV)} {st : List zV} {n : Nat} {σ : zS} {w : Nat} {b : Bool} (d : decode cc pc = .ok (.ireturn, 1)) (hy : ret = some .boolean) (hR : Ret (some (zi (zb b))) n σ w) : K pc Lo [zi (zb b)] n σ w := by
  obtain ⟨p, l, e, R, s, m, args, below, meth, c, Q, g, hF, hRm, hsz, hKe, hrt⟩ := C
  exact hrt _ pc Lo [zi (zb b)] n σ w (Or.inr (Or.inr (Or.inl ⟨d, hy, zb b, zb_01 b, rfl, rfl⟩))) hR
set_option maxHeartbeats 2000000 in
theorem x_lret {y : MethodName} {cc : ByteArray} {ml : Nat} {ret : Option FieldType} {h mc ms n0 : Nat} {Ret : zRT} {K : zKT} (C : zX y cc ml ret h mc ms n0 Ret K) {pc : Nat} {Lo : List (Option zV)} {st : List zV} {n : Nat} {σ : zS} {w : Nat} {x : Int} (d : decode cc pc = .ok (.lreturn, 1)) (hy : ret = some .long) (hR : Ret (some (zl x)) n σ w) : K pc Lo [zl x] n σ w := by
  obtain ⟨p, l, e, R, s, m, args, below, meth, c, Q, g, hF, hRm, hsz, hKe, hrt⟩ := C
  exact hrt _ pc Lo [zl x] n σ w (Or.inr (Or.inr (Or.inr ⟨d, hy, x, rfl, rfl⟩))) hR
