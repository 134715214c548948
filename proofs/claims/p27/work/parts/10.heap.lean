set_option maxHeartbeats 2000000 in
theorem x_getfield {y : MethodName} {cc : ByteArray} {ml : Nat} {ret : Option FieldType} {h mc ms n0 : Nat} {Ret : zRT} {K : zKT} (C : zX y cc ml ret h mc ms n0 Ret K) {pc : Nat} {Lo : List (Option zV)} {st : List zV} {n : Nat} {σ : zS} {w : Nat} {idx ci j : Nat} {o : Int} {vs : List zV} {v : zV} (d : decode cc pc = .ok (.getfield idx, 3)) (lf : zFl y.cls idx ci j) (ho : σ o = zO ci vs) (hk : 0 < o ∧ o ≤ n) (hv : vs[j]? = some v) (k : K (pc + 3) Lo (v :: st) n σ w) : K pc Lo (zr o :: st) n σ w := by
  obtain ⟨p, l, e, R, s, m, args, below, meth, c, Q, g, ⟨hx, hb, hml, hown, hts, hK, hin⟩, hR, hsz, rfl, hrt⟩ := C
  intro ls H locs hn hl hP hS
  obtain ⟨CC, T, N, h1, h2, h3, h4⟩ := lf
  have hat := zW_at g σ hk
  rw [ho] at hat
  exact va_get hx hb hts h4 hown hK.1 hP.2.2 (o - 1).toNat hat h1 j h2 (hts _ h3) (fun _ q => q) (v := zv g v) (by rw [List.getElem?_map, hv]; rfl) d (k ls H locs hn hl hP hS)
set_option maxHeartbeats 2000000 in
theorem x_getfieldN {y : MethodName} {cc : ByteArray} {ml : Nat} {ret : Option FieldType} {h mc ms n0 : Nat} {Ret : zRT} {K : zKT} (C : zX y cc ml ret h mc ms n0 Ret K) {pc : Nat} {Lo : List (Option zV)} {st : List zV} {n : Nat} {σ : zS} {w : Nat} {idx ci j : Nat} {o : Int} {vs : List zV} {v : zV} (d : decode cc pc = .ok (.getfield idx, 3)) (lf : zFn y.cls idx ci j) (ho : σ o = zO ci vs) (hk : 0 < o ∧ o ≤ n) (hv : vs[j]? = some v) (k : K (pc + 3) Lo (v :: st) n σ w) : K pc Lo (zr o :: st) n σ w := by
  obtain ⟨p, l, e, R, s, m, args, below, meth, c, Q, g, ⟨hx, hb, hml, hown, hts, hK, hin⟩, hR, hsz, rfl, hrt⟩ := C
  intro ls H locs hn hl hP hS
  obtain ⟨CC, T, N, h1, h2, h3, h4⟩ := lf
  have hat := zW_at g σ hk
  rw [ho] at hat
  exact va_getN hx hb hts h4 hown hK.1 hP.2.2 (o - 1).toNat hat h1 j h2 (va_Nw.use rfl (hK.2.1 _ h3)) (fun _ q => q) (v := zv g v) (by rw [List.getElem?_map, hv]; rfl) d (k ls H locs hn hl hP hS)
set_option maxHeartbeats 2000000 in
theorem x_putI {y : MethodName} {cc : ByteArray} {ml : Nat} {ret : Option FieldType} {h mc ms n0 : Nat} {Ret : zRT} {K : zKT} (C : zX y cc ml ret h mc ms n0 Ret K) {pc : Nat} {Lo : List (Option zV)} {st : List zV} {n : Nat} {σ : zS} {w : Nat} {idx ci j : Nat} {o : Int} {vs : List zV} {x : Int} (d : decode cc pc = .ok (.putfield idx, 3)) (lf : zFl y.cls idx ci j) (ly : zFy ci j false .int)  (ho : σ o = zO ci vs) (hk : 0 < o ∧ o ≤ n) (hj : j < vs.length) (k : K (pc + 3) Lo st n (zsu σ o (zO ci (vs.set j (zi x)))) w) : K pc Lo (zi x :: zr o :: st) n σ w := by
  obtain ⟨p, l, e, R, s, m, args, below, meth, c, Q, g, ⟨hx, hb, hml, hown, hts, hK, hin⟩, hR, hsz, rfl, hrt⟩ := C
  intro ls H locs hn hl hP hS
  obtain ⟨CC, T, N, h1, h2, h3, h4⟩ := lf
  obtain ⟨⟨ty0, f1⟩, f2, f3, f4, f5⟩ := ly CC T N h1
  have hat := zW_at g σ hk
  rw [ho] at hat
  refine va_put hx hb hts h4 ty0 f1 f2 hown hK.1 hP.2.2 (zD g n σ) hS (o - 1).toNat hat h1 j h2 (hts _ h3) (fun _ q => q) f3 f5 (v := zv g (zi x)) rfl rfl (by rw [List.length_map]; exact hj) d (fun H1 locs1 hP1 _ hS1 => ?_)
  refine k ls H1 locs1 hn hl (hP.set hk ?_) hS1
  have e : zc g (zO ci (vs.set j (zi x))) = Sum.inr (ci, (vs.map (zv g)).set j (zv g (zi x))) := by
    rw [← List.map_set]
    rfl
  rw [e]
  exact hP1
set_option maxHeartbeats 2000000 in
theorem x_putIN {y : MethodName} {cc : ByteArray} {ml : Nat} {ret : Option FieldType} {h mc ms n0 : Nat} {Ret : zRT} {K : zKT} (C : zX y cc ml ret h mc ms n0 Ret K) {pc : Nat} {Lo : List (Option zV)} {st : List zV} {n : Nat} {σ : zS} {w : Nat} {idx ci j : Nat} {o : Int} {vs : List zV} {x : Int} (d : decode cc pc = .ok (.putfield idx, 3)) (lf : zFn y.cls idx ci j) (ly : zFy ci j false .int)  (ho : σ o = zO ci vs) (hk : 0 < o ∧ o ≤ n) (hj : j < vs.length) (k : K (pc + 3) Lo st n (zsu σ o (zO ci (vs.set j (zi x)))) w) : K pc Lo (zi x :: zr o :: st) n σ w := by
  obtain ⟨p, l, e, R, s, m, args, below, meth, c, Q, g, ⟨hx, hb, hml, hown, hts, hK, hin⟩, hR, hsz, rfl, hrt⟩ := C
  intro ls H locs hn hl hP hS
  obtain ⟨CC, T, N, h1, h2, h3, h4⟩ := lf
  obtain ⟨⟨ty0, f1⟩, f2, f3, f4, f5⟩ := ly CC T N h1
  have hat := zW_at g σ hk
  rw [ho] at hat
  refine va_putN hx hb hts h4 ty0 f1 f2 hown hK.1 hP.2.2 (zD g n σ) hS (o - 1).toNat hat h1 j h2 (va_Nw.use rfl (hK.2.1 _ h3)) (fun _ q => q) f3 f5 (v := zv g (zi x)) rfl rfl (by rw [List.length_map]; exact hj) d (fun H1 locs1 hP1 _ hS1 => ?_)
  refine k ls H1 locs1 hn hl (hP.set hk ?_) hS1
  have e : zc g (zO ci (vs.set j (zi x))) = Sum.inr (ci, (vs.map (zv g)).set j (zv g (zi x))) := by
    rw [← List.map_set]
    rfl
  rw [e]
  exact hP1
set_option maxHeartbeats 2000000 in
theorem x_putZ {y : MethodName} {cc : ByteArray} {ml : Nat} {ret : Option FieldType} {h mc ms n0 : Nat} {Ret : zRT} {K : zKT} (C : zX y cc ml ret h mc ms n0 Ret K) {pc : Nat} {Lo : List (Option zV)} {st : List zV} {n : Nat} {σ : zS} {w : Nat} {idx ci j : Nat} {o : Int} {vs : List zV} {x : Int} (d : decode cc pc = .ok (.putfield idx, 3)) (lf : zFl y.cls idx ci j) (ly : zFy ci j false .boolean) (hx01 : x = 0 ∨ x = 1) (ho : σ o = zO ci vs) (hk : 0 < o ∧ o ≤ n) (hj : j < vs.length) (k : K (pc + 3) Lo st n (zsu σ o (zO ci (vs.set j (zi x)))) w) : K pc Lo (zi x :: zr o :: st) n σ w := by
  obtain ⟨p, l, e, R, s, m, args, below, meth, c, Q, g, ⟨hx, hb, hml, hown, hts, hK, hin⟩, hR, hsz, rfl, hrt⟩ := C
  intro ls H locs hn hl hP hS
  obtain ⟨CC, T, N, h1, h2, h3, h4⟩ := lf
  obtain ⟨⟨ty0, f1⟩, f2, f3, f4, f5⟩ := ly CC T N h1
  have hat := zW_at g σ hk
  rw [ho] at hat
  refine va_put hx hb hts h4 ty0 f1 f2 hown hK.1 hP.2.2 (zD g n σ) hS (o - 1).toNat hat h1 j h2 (hts _ h3) (fun _ q => q) f3 f5 (v := zv g (zi x)) (by rcases hx01 with rfl | rfl <;> rfl) (by rcases hx01 with rfl | rfl <;> rfl) (by rw [List.length_map]; exact hj) d (fun H1 locs1 hP1 _ hS1 => ?_)
  refine k ls H1 locs1 hn hl (hP.set hk ?_) hS1
  have e : zc g (zO ci (vs.set j (zi x))) = Sum.inr (ci, (vs.map (zv g)).set j (zv g (zi x))) := by
    rw [← List.map_set]
    rfl
  rw [e]
  exact hP1
set_option maxHeartbeats 2000000 in
theorem x_putZN {y : MethodName} {cc : ByteArray} {ml : Nat} {ret : Option FieldType} {h mc ms n0 : Nat} {Ret : zRT} {K : zKT} (C : zX y cc ml ret h mc ms n0 Ret K) {pc : Nat} {Lo : List (Option zV)} {st : List zV} {n : Nat} {σ : zS} {w : Nat} {idx ci j : Nat} {o : Int} {vs : List zV} {x : Int} (d : decode cc pc = .ok (.putfield idx, 3)) (lf : zFn y.cls idx ci j) (ly : zFy ci j false .boolean) (hx01 : x = 0 ∨ x = 1) (ho : σ o = zO ci vs) (hk : 0 < o ∧ o ≤ n) (hj : j < vs.length) (k : K (pc + 3) Lo st n (zsu σ o (zO ci (vs.set j (zi x)))) w) : K pc Lo (zi x :: zr o :: st) n σ w := by
  obtain ⟨p, l, e, R, s, m, args, below, meth, c, Q, g, ⟨hx, hb, hml, hown, hts, hK, hin⟩, hR, hsz, rfl, hrt⟩ := C
  intro ls H locs hn hl hP hS
  obtain ⟨CC, T, N, h1, h2, h3, h4⟩ := lf
  obtain ⟨⟨ty0, f1⟩, f2, f3, f4, f5⟩ := ly CC T N h1
  have hat := zW_at g σ hk
  rw [ho] at hat
  refine va_putN hx hb hts h4 ty0 f1 f2 hown hK.1 hP.2.2 (zD g n σ) hS (o - 1).toNat hat h1 j h2 (va_Nw.use rfl (hK.2.1 _ h3)) (fun _ q => q) f3 f5 (v := zv g (zi x)) (by rcases hx01 with rfl | rfl <;> rfl) (by rcases hx01 with rfl | rfl <;> rfl) (by rw [List.length_map]; exact hj) d (fun H1 locs1 hP1 _ hS1 => ?_)
  refine k ls H1 locs1 hn hl (hP.set hk ?_) hS1
  have e : zc g (zO ci (vs.set j (zi x))) = Sum.inr (ci, (vs.map (zv g)).set j (zv g (zi x))) := by
    rw [← List.map_set]
    rfl
  rw [e]
  exact hP1
set_option maxHeartbeats 2000000 in
theorem x_putFA {y : MethodName} {cc : ByteArray} {ml : Nat} {ret : Option FieldType} {h mc ms n0 : Nat} {Ret : zRT} {K : zKT} (C : zX y cc ml ret h mc ms n0 Ret K) {pc : Nat} {Lo : List (Option zV)} {st : List zV} {n : Nat} {σ : zS} {w : Nat} {idx ci j : Nat} {o : Int} {vs : List zV} {fa : FieldType} {x : Int} (d : decode cc pc = .ok (.putfield idx, 3)) (lf : zFl y.cls idx ci j) (ly : zFy ci j true (.array fa)) (hini : y.name = "<init>") (hdecl : ∀ (C0 : String) (T0 : u_T) (N0 : Nat), vwCl[ci]? = some (C0, T0, N0) → C0 = y.cls) (ho : σ o = zO ci vs) (hk : 0 < o ∧ o ≤ n) (hj : j < vs.length) (k : K (pc + 3) Lo st n (zsu σ o (zO ci (vs.set j (zr x)))) w) : K pc Lo (zr x :: zr o :: st) n σ w := by
  obtain ⟨p, l, e, R, s, m, args, below, meth, c, Q, g, ⟨hx, hb, hml, hown, hts, hK, hin⟩, hR, hsz, rfl, hrt⟩ := C
  intro ls H locs hn hl hP hS
  obtain ⟨CC, T, N, h1, h2, h3, h4⟩ := lf
  obtain ⟨⟨ty0, f1⟩, f2, f3, f4, f5⟩ := ly CC T N h1
  have hat := zW_at g σ hk
  rw [ho] at hat
  refine va_putF hx hb hts h4 ty0 f1 f2 hown hK.1 hP.2.2 (zD g n σ) hS (o - 1).toNat hat h1 j h2 (hts _ h3) (fun _ q => q) f3 (hin.trans hini) (f4.trans (hdecl CC T N h1)) f5 (v := zv g (zr x)) rfl rfl (by rw [List.length_map]; exact hj) d (fun H1 locs1 hP1 _ hS1 => ?_)
  refine k ls H1 locs1 hn hl (hP.set hk ?_) hS1
  have e : zc g (zO ci (vs.set j (zr x))) = Sum.inr (ci, (vs.map (zv g)).set j (zv g (zr x))) := by
    rw [← List.map_set]
    rfl
  rw [e]
  exact hP1
set_option maxHeartbeats 2000000 in
theorem x_putFO {y : MethodName} {cc : ByteArray} {ml : Nat} {ret : Option FieldType} {h mc ms n0 : Nat} {Ret : zRT} {K : zKT} (C : zX y cc ml ret h mc ms n0 Ret K) {pc : Nat} {Lo : List (Option zV)} {st : List zV} {n : Nat} {σ : zS} {w : Nat} {idx ci j : Nat} {o : Int} {vs : List zV} {fa : String} {x : Int} (d : decode cc pc = .ok (.putfield idx, 3)) (lf : zFl y.cls idx ci j) (ly : zFy ci j true (.object fa)) (hini : y.name = "<init>") (hdecl : ∀ (C0 : String) (T0 : u_T) (N0 : Nat), vwCl[ci]? = some (C0, T0, N0) → C0 = y.cls) (ho : σ o = zO ci vs) (hk : 0 < o ∧ o ≤ n) (hj : j < vs.length) (k : K (pc + 3) Lo st n (zsu σ o (zO ci (vs.set j (zr x)))) w) : K pc Lo (zr x :: zr o :: st) n σ w := by
  obtain ⟨p, l, e, R, s, m, args, below, meth, c, Q, g, ⟨hx, hb, hml, hown, hts, hK, hin⟩, hR, hsz, rfl, hrt⟩ := C
  intro ls H locs hn hl hP hS
  obtain ⟨CC, T, N, h1, h2, h3, h4⟩ := lf
  obtain ⟨⟨ty0, f1⟩, f2, f3, f4, f5⟩ := ly CC T N h1
  have hat := zW_at g σ hk
  rw [ho] at hat
  refine va_putF hx hb hts h4 ty0 f1 f2 hown hK.1 hP.2.2 (zD g n σ) hS (o - 1).toNat hat h1 j h2 (hts _ h3) (fun _ q => q) f3 (hin.trans hini) (f4.trans (hdecl CC T N h1)) f5 (v := zv g (zr x)) rfl rfl (by rw [List.length_map]; exact hj) d (fun H1 locs1 hP1 _ hS1 => ?_)
  refine k ls H1 locs1 hn hl (hP.set hk ?_) hS1
  have e : zc g (zO ci (vs.set j (zr x))) = Sum.inr (ci, (vs.map (zv g)).set j (zv g (zr x))) := by
    rw [← List.map_set]
    rfl
  rw [e]
  exact hP1
set_option maxHeartbeats 2000000 in
theorem x_iaload {y : MethodName} {cc : ByteArray} {ml : Nat} {ret : Option FieldType} {h mc ms n0 : Nat} {Ret : zRT} {K : zKT} (C : zX y cc ml ret h mc ms n0 Ret K) {pc : Nat} {Lo : List (Option zV)} {st : List zV} {n : Nat} {σ : zS} {w : Nat} {a : Int} {L : Nat} {f : Int → Int} {i : Int} (d : decode cc pc = .ok (.iaload, 1)) (ho : σ a = zP 0 L f) (hr : (0 < a ∧ a ≤ n) ∧ (0 ≤ i ∧ i < L) ∧ (L : Int) < 2147483648) (k : K (pc + 1) Lo (zi (f i) :: st) n σ w) : K pc Lo (zi i :: zr a :: st) n σ w := by
  obtain ⟨p, l, e, R, s, m, args, below, meth, c, Q, g, ⟨hx, hb, hml, hown, hts, hK, hin⟩, hR, hsz, rfl, hrt⟩ := C
  intro ls H locs hn hl hP hS
  have hat := zW_at g σ hr.1
  rw [ho] at hat
  refine va_iald hx hb hK.1 hP.2.2 (a - 1).toNat 0 hat rfl (zI_in (L := L) hr.2.1 (by omega)) d ?_
  rw [zI_cl (by omega), Int.toNat_of_nonneg hr.2.1.1]
  exact k ls H locs hn hl hP hS
set_option maxHeartbeats 2000000 in
theorem x_caload {y : MethodName} {cc : ByteArray} {ml : Nat} {ret : Option FieldType} {h mc ms n0 : Nat} {Ret : zRT} {K : zKT} (C : zX y cc ml ret h mc ms n0 Ret K) {pc : Nat} {Lo : List (Option zV)} {st : List zV} {n : Nat} {σ : zS} {w : Nat} {a : Int} {L : Nat} {f : Int → Int} {i : Int} (d : decode cc pc = .ok (.caload, 1)) (ho : σ a = zP 2 L f) (hr : (0 < a ∧ a ≤ n) ∧ (0 ≤ i ∧ i < L) ∧ (L : Int) < 2147483648) (k : K (pc + 1) Lo (zi (f i) :: st) n σ w) : K pc Lo (zi i :: zr a :: st) n σ w := by
  obtain ⟨p, l, e, R, s, m, args, below, meth, c, Q, g, ⟨hx, hb, hml, hown, hts, hK, hin⟩, hR, hsz, rfl, hrt⟩ := C
  intro ls H locs hn hl hP hS
  have hat := zW_at g σ hr.1
  rw [ho] at hat
  refine va_cald hx hb hK.1 hP.2.2 (a - 1).toNat 2 hat rfl (zI_in (L := L) hr.2.1 (by omega)) d ?_
  rw [zI_cl (by omega), Int.toNat_of_nonneg hr.2.1.1]
  exact k ls H locs hn hl hP hS
set_option maxHeartbeats 2000000 in
theorem x_iastore {y : MethodName} {cc : ByteArray} {ml : Nat} {ret : Option FieldType} {h mc ms n0 : Nat} {Ret : zRT} {K : zKT} (C : zX y cc ml ret h mc ms n0 Ret K) {pc : Nat} {Lo : List (Option zV)} {st : List zV} {n : Nat} {σ : zS} {w : Nat} {a : Int} {L : Nat} {f : Int → Int} {i x : Int} (d : decode cc pc = .ok (.iastore, 1)) (ho : σ a = zP 0 L f) (hr : (0 < a ∧ a ≤ n) ∧ (0 ≤ i ∧ i < L) ∧ (L : Int) < 2147483648)  (k : K (pc + 1) Lo st n (zsu σ a (zP 0 L (zu f i x))) w) : K pc Lo (zi x :: zi i :: zr a :: st) n σ w := by
  obtain ⟨p, l, e, R, s, m, args, below, meth, c, Q, g, ⟨hx, hb, hml, hown, hts, hK, hin⟩, hR, hsz, rfl, hrt⟩ := C
  intro ls H locs hn hl hP hS
  have hat := zW_at g σ hr.1
  rw [ho] at hat
  refine va_iast hx hb hK.1 hP.2.2 (zD g n σ) hS (a - 1).toNat 0 hat rfl (zI_in (L := L) hr.2.1 (by omega)) d (fun H1 locs1 hP1 _ hS1 => ?_)
  rw [zI_cl (by omega), zI_upd f x hr.2.1.1] at hP1
  exact k ls H1 locs1 hn hl (hP.set hr.1 hP1) hS1
set_option maxHeartbeats 2000000 in
theorem x_castore {y : MethodName} {cc : ByteArray} {ml : Nat} {ret : Option FieldType} {h mc ms n0 : Nat} {Ret : zRT} {K : zKT} (C : zX y cc ml ret h mc ms n0 Ret K) {pc : Nat} {Lo : List (Option zV)} {st : List zV} {n : Nat} {σ : zS} {w : Nat} {a : Int} {L : Nat} {f : Int → Int} {i x : Int} (d : decode cc pc = .ok (.castore, 1)) (ho : σ a = zP 2 L f) (hr : (0 < a ∧ a ≤ n) ∧ (0 ≤ i ∧ i < L) ∧ (L : Int) < 2147483648) (hx16 : 0 ≤ x ∧ x < 65536) (k : K (pc + 1) Lo st n (zsu σ a (zP 2 L (zu f i x))) w) : K pc Lo (zi x :: zi i :: zr a :: st) n σ w := by
  obtain ⟨p, l, e, R, s, m, args, below, meth, c, Q, g, ⟨hx, hb, hml, hown, hts, hK, hin⟩, hR, hsz, rfl, hrt⟩ := C
  intro ls H locs hn hl hP hS
  have hat := zW_at g σ hr.1
  rw [ho] at hat
  refine va_cast hx hb hK.1 hP.2.2 (zD g n σ) hS (a - 1).toNat 2 hat rfl (zI_in (L := L) hr.2.1 (by omega)) d (fun H1 locs1 hP1 _ hS1 => ?_)
  rw [show vp_nar .char (zI x) = zI x by rw [vp_nar_char]; exact zI_c2 hx16] at hP1
  rw [zI_cl (by omega), zI_upd f x hr.2.1.1] at hP1
  exact k ls H1 locs1 hn hl (hP.set hr.1 hP1) hS1
set_option maxHeartbeats 2000000 in
theorem x_aaload3 {y : MethodName} {cc : ByteArray} {ml : Nat} {ret : Option FieldType} {h mc ms n0 : Nat} {Ret : zRT} {K : zKT} (C : zX y cc ml ret h mc ms n0 Ret K) {pc : Nat} {Lo : List (Option zV)} {st : List zV} {n : Nat} {σ : zS} {w : Nat} {a : Int} {L : Nat} {f : Int → Option Int} {i o : Int} (d : decode cc pc = .ok (.aaload, 1)) (ho : σ a = zQ 3 L f) (hr : (0 < a ∧ a ≤ n) ∧ (0 ≤ i ∧ i < L) ∧ (L : Int) < 2147483648) (hv : f i = some o) (k : K (pc + 1) Lo (zr o :: st) n σ w) : K pc Lo (zi i :: zr a :: st) n σ w := by
  obtain ⟨p, l, e, R, s, m, args, below, meth, c, Q, g, ⟨hx, hb, hml, hown, hts, hK, hin⟩, hR, hsz, rfl, hrt⟩ := C
  intro ls H locs hn hl hP hS
  have hat := zW_at g σ hr.1
  rw [ho] at hat
  refine va_aldq (C := "BlockTrees$Matrix") hx hb hK.1 hP.2.2 (a - 1).toNat 3 hat rfl (zI_in (L := L) hr.2.1 (by omega)) d ?_
  rw [zI_cl (by omega), Int.toNat_of_nonneg hr.2.1.1, show ((3 : Nat), (L, f)).2.2 i = some o from hv]
  exact k ls H locs hn hl hP hS
set_option maxHeartbeats 2000000 in
theorem x_aastore3 {y : MethodName} {cc : ByteArray} {ml : Nat} {ret : Option FieldType} {h mc ms n0 : Nat} {Ret : zRT} {K : zKT} (C : zX y cc ml ret h mc ms n0 Ret K) {pc : Nat} {Lo : List (Option zV)} {st : List zV} {n : Nat} {σ : zS} {w : Nat} {a : Int} {L : Nat} {f : Int → Option Int} {i o : Int} {vs : List zV} (d : decode cc pc = .ok (.aastore, 1)) (ho : σ a = zQ 3 L f) (hv : σ o = zO 1 vs) (hr : ((0 < a ∧ a ≤ n) ∧ (0 < o ∧ o ≤ n)) ∧ (0 ≤ i ∧ i < L) ∧ (L : Int) < 2147483648) (k : K (pc + 1) Lo st n (zsu σ a (zQ 3 L (zuq f i (some o)))) w) : K pc Lo (zr o :: zi i :: zr a :: st) n σ w := by
  obtain ⟨p, l, e, R, s, m, args, below, meth, c, Q, g, ⟨hx, hb, hml, hown, hts, hK, hin⟩, hR, hsz, rfl, hrt⟩ := C
  intro ls H locs hn hl hP hS
  have hat := zW_at g σ hr.1.1
  rw [ho] at hat
  have hav := zW_at g σ hr.1.2
  rw [hv] at hav
  refine va_astq (r := (RX1, TX1, 2)) hx hb hK.1 hP.2.2 (zD g n σ) hS (a - 1).toNat 3 (o - 1).toNat 1 hat rfl hav rfl (zI_in (L := L) hr.2.1 (by omega)) d (fun H1 locs1 hP1 _ hS1 => ?_)
  rw [zI_cl (by omega), zI_upq g f o hr.2.1.1] at hP1
  exact k ls H1 locs1 hn hl (hP.set hr.1.1 hP1) hS1
set_option maxHeartbeats 2000000 in
theorem x_aaload4 {y : MethodName} {cc : ByteArray} {ml : Nat} {ret : Option FieldType} {h mc ms n0 : Nat} {Ret : zRT} {K : zKT} (C : zX y cc ml ret h mc ms n0 Ret K) {pc : Nat} {Lo : List (Option zV)} {st : List zV} {n : Nat} {σ : zS} {w : Nat} {a : Int} {L : Nat} {f : Int → Option Int} {i o : Int} (d : decode cc pc = .ok (.aaload, 1)) (ho : σ a = zQ 4 L f) (hr : (0 < a ∧ a ≤ n) ∧ (0 ≤ i ∧ i < L) ∧ (L : Int) < 2147483648) (hv : f i = some o) (k : K (pc + 1) Lo (zr o :: st) n σ w) : K pc Lo (zi i :: zr a :: st) n σ w := by
  obtain ⟨p, l, e, R, s, m, args, below, meth, c, Q, g, ⟨hx, hb, hml, hown, hts, hK, hin⟩, hR, hsz, rfl, hrt⟩ := C
  intro ls H locs hn hl hP hS
  have hat := zW_at g σ hr.1
  rw [ho] at hat
  refine va_aldq (C := "BlockTrees$State") hx hb hK.1 hP.2.2 (a - 1).toNat 4 hat rfl (zI_in (L := L) hr.2.1 (by omega)) d ?_
  rw [zI_cl (by omega), Int.toNat_of_nonneg hr.2.1.1, show ((4 : Nat), (L, f)).2.2 i = some o from hv]
  exact k ls H locs hn hl hP hS
set_option maxHeartbeats 2000000 in
theorem x_aastore4 {y : MethodName} {cc : ByteArray} {ml : Nat} {ret : Option FieldType} {h mc ms n0 : Nat} {Ret : zRT} {K : zKT} (C : zX y cc ml ret h mc ms n0 Ret K) {pc : Nat} {Lo : List (Option zV)} {st : List zV} {n : Nat} {σ : zS} {w : Nat} {a : Int} {L : Nat} {f : Int → Option Int} {i o : Int} {vs : List zV} (d : decode cc pc = .ok (.aastore, 1)) (ho : σ a = zQ 4 L f) (hv : σ o = zO 4 vs) (hr : ((0 < a ∧ a ≤ n) ∧ (0 < o ∧ o ≤ n)) ∧ (0 ≤ i ∧ i < L) ∧ (L : Int) < 2147483648) (k : K (pc + 1) Lo st n (zsu σ a (zQ 4 L (zuq f i (some o)))) w) : K pc Lo (zr o :: zi i :: zr a :: st) n σ w := by
  obtain ⟨p, l, e, R, s, m, args, below, meth, c, Q, g, ⟨hx, hb, hml, hown, hts, hK, hin⟩, hR, hsz, rfl, hrt⟩ := C
  intro ls H locs hn hl hP hS
  have hat := zW_at g σ hr.1.1
  rw [ho] at hat
  have hav := zW_at g σ hr.1.2
  rw [hv] at hav
  refine va_astq (r := (RX4, TX4, 2)) hx hb hK.1 hP.2.2 (zD g n σ) hS (a - 1).toNat 4 (o - 1).toNat 4 hat rfl hav rfl (zI_in (L := L) hr.2.1 (by omega)) d (fun H1 locs1 hP1 _ hS1 => ?_)
  rw [zI_cl (by omega), zI_upq g f o hr.2.1.1] at hP1
  exact k ls H1 locs1 hn hl (hP.set hr.1.1 hP1) hS1
set_option maxHeartbeats 2000000 in
theorem x_aaload5 {y : MethodName} {cc : ByteArray} {ml : Nat} {ret : Option FieldType} {h mc ms n0 : Nat} {Ret : zRT} {K : zKT} (C : zX y cc ml ret h mc ms n0 Ret K) {pc : Nat} {Lo : List (Option zV)} {st : List zV} {n : Nat} {σ : zS} {w : Nat} {a : Int} {L : Nat} {f : Int → Option Int} {i o : Int} (d : decode cc pc = .ok (.aaload, 1)) (ho : σ a = zQ 5 L f) (hr : (0 < a ∧ a ≤ n) ∧ (0 ≤ i ∧ i < L) ∧ (L : Int) < 2147483648) (hv : f i = some o) (k : K (pc + 1) Lo (zr o :: st) n σ w) : K pc Lo (zi i :: zr a :: st) n σ w := by
  obtain ⟨p, l, e, R, s, m, args, below, meth, c, Q, g, ⟨hx, hb, hml, hown, hts, hK, hin⟩, hR, hsz, rfl, hrt⟩ := C
  intro ls H locs hn hl hP hS
  have hat := zW_at g σ hr.1
  rw [ho] at hat
  refine va_aldq (C := "BlockTrees$Slot") hx hb hK.1 hP.2.2 (a - 1).toNat 5 hat rfl (zI_in (L := L) hr.2.1 (by omega)) d ?_
  rw [zI_cl (by omega), Int.toNat_of_nonneg hr.2.1.1, show ((5 : Nat), (L, f)).2.2 i = some o from hv]
  exact k ls H locs hn hl hP hS
set_option maxHeartbeats 2000000 in
theorem x_aastore5 {y : MethodName} {cc : ByteArray} {ml : Nat} {ret : Option FieldType} {h mc ms n0 : Nat} {Ret : zRT} {K : zKT} (C : zX y cc ml ret h mc ms n0 Ret K) {pc : Nat} {Lo : List (Option zV)} {st : List zV} {n : Nat} {σ : zS} {w : Nat} {a : Int} {L : Nat} {f : Int → Option Int} {i o : Int} {vs : List zV} (d : decode cc pc = .ok (.aastore, 1)) (ho : σ a = zQ 5 L f) (hv : σ o = zO 3 vs) (hr : ((0 < a ∧ a ≤ n) ∧ (0 < o ∧ o ≤ n)) ∧ (0 ≤ i ∧ i < L) ∧ (L : Int) < 2147483648) (k : K (pc + 1) Lo st n (zsu σ a (zQ 5 L (zuq f i (some o)))) w) : K pc Lo (zr o :: zi i :: zr a :: st) n σ w := by
  obtain ⟨p, l, e, R, s, m, args, below, meth, c, Q, g, ⟨hx, hb, hml, hown, hts, hK, hin⟩, hR, hsz, rfl, hrt⟩ := C
  intro ls H locs hn hl hP hS
  have hat := zW_at g σ hr.1.1
  rw [ho] at hat
  have hav := zW_at g σ hr.1.2
  rw [hv] at hav
  refine va_astq (r := (RX3, TX3, 2)) hx hb hK.1 hP.2.2 (zD g n σ) hS (a - 1).toNat 5 (o - 1).toNat 3 hat rfl hav rfl (zI_in (L := L) hr.2.1 (by omega)) d (fun H1 locs1 hP1 _ hS1 => ?_)
  rw [zI_cl (by omega), zI_upq g f o hr.2.1.1] at hP1
  exact k ls H1 locs1 hn hl (hP.set hr.1.1 hP1) hS1
set_option maxHeartbeats 2000000 in
theorem x_alen0 {y : MethodName} {cc : ByteArray} {ml : Nat} {ret : Option FieldType} {h mc ms n0 : Nat} {Ret : zRT} {K : zKT} (C : zX y cc ml ret h mc ms n0 Ret K) {pc : Nat} {Lo : List (Option zV)} {st : List zV} {n : Nat} {σ : zS} {w : Nat} {a : Int} {L : Nat} {f : Int → Int} (d : decode cc pc = .ok (.arraylength, 1)) (ho : σ a = zP 0 L f) (hr : 0 < a ∧ a ≤ n) (k : K (pc + 1) Lo (zi (L : Int) :: st) n σ w) : K pc Lo (zr a :: st) n σ w := by
  obtain ⟨p, l, e, R, s, m, args, below, meth, c, Q, g, ⟨hx, hb, hml, hown, hts, hK, hin⟩, hR, hsz, rfl, hrt⟩ := C
  intro ls H locs hn hl hP hS
  have hat := zW_at g σ hr
  rw [ho] at hat
  exact va_alen hx hb hK.1 hP.2.2 (a - 1).toNat 0 hat rfl (v := zI (L : Int)) Int32.ofInt_eq_ofNat.symm d (k ls H locs hn hl hP hS)
set_option maxHeartbeats 2000000 in
theorem x_alen2 {y : MethodName} {cc : ByteArray} {ml : Nat} {ret : Option FieldType} {h mc ms n0 : Nat} {Ret : zRT} {K : zKT} (C : zX y cc ml ret h mc ms n0 Ret K) {pc : Nat} {Lo : List (Option zV)} {st : List zV} {n : Nat} {σ : zS} {w : Nat} {a : Int} {L : Nat} {f : Int → Int} (d : decode cc pc = .ok (.arraylength, 1)) (ho : σ a = zP 2 L f) (hr : 0 < a ∧ a ≤ n) (k : K (pc + 1) Lo (zi (L : Int) :: st) n σ w) : K pc Lo (zr a :: st) n σ w := by
  obtain ⟨p, l, e, R, s, m, args, below, meth, c, Q, g, ⟨hx, hb, hml, hown, hts, hK, hin⟩, hR, hsz, rfl, hrt⟩ := C
  intro ls H locs hn hl hP hS
  have hat := zW_at g σ hr
  rw [ho] at hat
  exact va_alen hx hb hK.1 hP.2.2 (a - 1).toNat 2 hat rfl (v := zI (L : Int)) Int32.ofInt_eq_ofNat.symm d (k ls H locs hn hl hP hS)
set_option maxHeartbeats 2000000 in
theorem x_acopy {y : MethodName} {cc : ByteArray} {ml : Nat} {ret : Option FieldType} {h mc ms n0 : Nat} {Ret : zRT} {K : zKT} (C : zX y cc ml ret h mc ms n0 Ret K) {pc : Nat} {Lo : List (Option zV)} {st : List zV} {n : Nat} {σ : zS} {w : Nat} {idx : Nat} {a0 a : Int} {L0 L : Nat} {f f2 : Int → Int} {sp dp q : Int} (d : decode cc pc = .ok (.invokestatic idx, 3)) (hw : Cond.methodLink y.cls idx arraycopyName ∈ zGW ∧ Cond.native arraycopyName ∈ zGW ∧ Cond.static arraycopyName ∈ zGW ∧ Cond.initialized "java/lang/System" ∈ zGW) (h1 : 1 ≤ h) (ho : σ a0 = zA L0 f) (ho2 : σ a = zA L f2) (hr : ((0 < a0 ∧ a0 ≤ n) ∧ 0 < a ∧ a ≤ n) ∧ (0 ≤ sp ∧ 0 ≤ q ∧ sp + q ≤ L0 ∧ (L0 : Int) < 2147483648) ∧ 0 ≤ dp ∧ dp + q ≤ L ∧ (L : Int) < 2147483648) (hc : zcat st ≤ 8) (k : K (pc + 3) Lo st n (zsu σ a (zA L (fun j => if dp ≤ j ∧ j < dp + q then f (sp + (j - dp)) else f2 j))) w) : K pc Lo (zi q :: zi dp :: zr a :: zi sp :: zr a0 :: st) n σ w := by
  obtain ⟨p, l, e, R, s, m, args, below, meth, c, Q, g, ⟨hx, hb, hml, hown, hts, hK, hin⟩, hR, hsz, rfl, hrt⟩ := C
  intro ls H locs hn hl hP hS
  have hat0 := zW_at g σ hr.1.1
  rw [ho] at hat0
  have hat := zW_at g σ hr.1.2
  rw [ho2] at hat
  refine va_copyi hx hb (by rw [hml]; exact hl.1.symm) hown (hts _ hw.1) (hts _ hw.2.1) (hts _ hw.2.2.1) (hts _ hw.2.2.2) hK.1 hP.2.2 (zD g n σ) hS (a0 - 1).toNat (a - 1).toNat 0 0 hat0 hat rfl rfl rfl ?_ ?_ ?_ ?_ ?_ (fun i _ => rfl) ?_ ?_ d (fun H1 locs1 hP1 _ hS1 => ?_)
  · rw [← zI_0, zI_lt (by omega)]; omega
  · rw [← zI_0, zI_lt (by omega)]; omega
  · rw [← zI_0, zI_lt (by omega)]; omega
  · rw [zI_cl (by omega), zI_cl (by omega)]; show sp.toNat + q.toNat ≤ L0; omega
  · rw [zI_cl (by omega), zI_cl (by omega)]; show dp.toNat + q.toNat ≤ L; omega
  · omega
  · have e := zcat_eq g st
    have e2 : nativeFrameWords "java/lang/System" "arraycopy" 5 ≤ 30 := by decide
    omega
  · rw [zI_cl (by omega), zI_cl (by omega), zI_cl (by omega)] at hP1
    refine k ls H1 locs1 hn hl (hP.set hr.1.2 ?_) hS1
    have e : va_cpy (fun j : Nat => zI (f (j : Int))) (fun j : Nat => zI (f2 (j : Int))) sp.toNat dp.toNat q.toNat = fun j : Nat => zI (if dp ≤ (j : Int) ∧ (j : Int) < dp + q then f (sp + ((j : Int) - dp)) else f2 (j : Int)) := by
      funext j
      unfold va_cpy
      by_cases e1 : dp.toNat ≤ j ∧ j < dp.toNat + q.toNat
      · rw [if_pos e1, if_pos (by omega)]
        have e3 : ((sp.toNat + (j - dp.toNat) : Nat) : Int) = sp + ((j : Int) - dp) := by omega
        show zI (f ((sp.toNat + (j - dp.toNat) : Nat) : Int)) = _
        rw [e3]
      · rw [if_neg e1, if_neg (by omega)]
    rw [e] at hP1
    exact hP1
