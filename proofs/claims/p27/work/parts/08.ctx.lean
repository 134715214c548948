/-! contracts, and the judgement of a method's body -/
abbrev zRT : Type := Option zV → Nat → zS → Nat → Prop
abbrev zKT : Type := Nat → List (Option zV) → List zV → Nat → zS → Nat → Prop
def zPre (g : zG) (n : Nat) (σ : zS) (as : List zV) : Array Value → State → Prop := va_Pc (as.map (zv g)) (fun U => U.heap.size = g.1.2 + 1 + n ∧ zH g n σ U.heap ∧ zK g U)
def zPost (g : zG) (r : Option zV) (n : Nat) (σ : zS) : Array Value → State → Outcome → State → Prop := fun _ s o t => o = .returned (r.map (zv g)) ∧ zH g n σ t.heap ∧ va_F (zF g) s t
def zRm (h mc ms : Nat) : Room := { frames := h, cells := mc, slots := ms, locals := 64 * h }
def zCt (h mc ms : Nat) (y : MethodName) (cc : ByteArray) (ml : Nat) (ret : Option FieldType) (as : List zV) (n : Nat) (σ : zS) (r : Option zV) (n' : Nat) (σ' : zS) : Prop :=
  ∀ (l : Launch) (g : zG), Met l y (Cond.code y cc ml ret :: zGW) (zRm h mc ms) (zPre g n σ as) (zPost g r n' σ') mc ms (zF g)
def zRt (cc : ByteArray) (ret : Option FieldType) (v : Option zV) (pc : Nat) (st : List zV) : Prop :=
  (decode cc pc = .ok (.return_, 1) ∧ ret = none ∧ v = none ∧ st = []) ∨ (decode cc pc = .ok (.ireturn, 1) ∧ ret = some .int ∧ ∃ x : Int, v = some (zi x) ∧ st = [zi x]) ∨
  (decode cc pc = .ok (.ireturn, 1) ∧ ret = some .boolean ∧ ∃ x : Int, (x = 0 ∨ x = 1) ∧ v = some (zi x) ∧ st = [zi x]) ∨ (decode cc pc = .ok (.lreturn, 1) ∧ ret = some .long ∧ ∃ x : Int, v = some (zl x) ∧ st = [zl x])
def zX (y : MethodName) (cc : ByteArray) (ml : Nat) (ret : Option FieldType) (h mc ms n0 : Nat) (Ret : zRT) (K : zKT) : Prop :=
  ∃ (p : Program) (l : Launch) (e : Env) (R : Room) (s : State) (m : MethodId) (args : Array Value) (below : List Frame) (meth : Method) (c : Code) (Q : State → Prop) (g : zG),
    (p.tables.exec = Jvm.exec ∧ c.code = cc ∧ c.maxLocals = ml ∧ s.vm.findClass y.cls = some m.cls ∧ (∀ w ∈ zGW, w.before args s = true) ∧ zK g s ∧ meth.name = y.name) ∧
    (h ≤ R.frames ∧ 64 * h ≤ R.locals ∧ mc ≤ R.cells ∧ ms ≤ R.slots) ∧ s.heap.size = g.1.2 + 1 + n0 ∧
    K = (fun pc Lo st n σ w => ∀ (ls : Array Slot) (H : Heap) (locs : List Loc), (n0 ≤ n ∧ n - n0 ≤ mc ∧ w ≤ ms) → zL g ls ml Lo → zH g n σ H → va_S (zF g) s.heap H locs → W p l e R s m args below meth c H locs (n - n0) w Q (F0 m pc ls (st.map (zv g)))) ∧
    (∀ v pc Lo st n σ w, zRt cc ret v pc st → Ret v n σ w → K pc Lo st n σ w)
/-- a value's slots -/
def zsl : List zV → List (Option zV)
  | [] => []
  | v :: t => if zwide v then some v :: none :: zsl t else some v :: zsl t
def zen (ml : Nat) (as : List zV) : List (Option zV) := zsl as ++ List.replicate (ml - (zsl as).length) none
theorem zsl_len (g : zG) : ∀ as : List zV, (lg_sl (as.map (zv g))).length = (zsl as).length
  | [] => rfl
  | v :: t => by
    have ih := zsl_len g t
    by_cases h : zwide v = true
    · have hc := (zcat_wide g v).mpr h
      simp [lg_sl, zsl, h, hc] at ih ⊢
      omega
    · have hc : ¬ (zv g v).category = 2 := fun q => h ((zcat_wide g v).mp q)
      simp [lg_sl, zsl, h, hc] at ih ⊢
      omega
theorem zsl_args (g : zG) : ∀ (as : List zV) (i j : Nat) (u : zV), zg (zsl as) j = some u → (i + j, zv g u) ∈ lv_args i (as.map (zv g))
  | [], i, j, u, h => by cases h
  | v :: t, i, j, u, h => by
    by_cases hw : zwide v = true
    · have hc := (zcat_wide g v).mpr hw
      have e : zsl (v :: t) = some v :: none :: zsl t := by simp [zsl, hw]
      rw [e] at h
      match j, h with
      | 0, h => cases h; simp [lv_args]
      | 1, h => cases h
      | j + 2, h =>
        have := zsl_args g t (i + 2) j u h
        simp only [List.map_cons, lv_args, hc]
        rw [show i + (j + 2) = i + 2 + j by omega]
        exact List.mem_cons_of_mem _ this
    · have hc : (zv g v).category = 1 := (lv_cat _).resolve_right (fun q => hw ((zcat_wide g v).mp q))
      have e : zsl (v :: t) = some v :: zsl t := by simp [zsl, hw]
      rw [e] at h
      match j, h with
      | 0, h => cases h; simp [lv_args]
      | j + 1, h =>
        have := zsl_args g t (i + 1) j u h
        simp only [List.map_cons, lv_args, hc]
        rw [show i + (j + 1) = i + 1 + j by omega]
        exact List.mem_cons_of_mem _ this
theorem zg_app : ∀ (a b : List (Option zV)) (j : Nat) (u : zV), (∀ o ∈ b, o = none) → zg (a ++ b) j = some u → zg a j = some u
  | [], b, j, u, hb, h => by
    exfalso
    have : ∀ (b : List (Option zV)) (j : Nat), (∀ o ∈ b, o = none) → zg b j = some u → False := by
      intro b
      induction b with
      | nil => intro j _ h; cases h
      | cons o t ih =>
        intro j hb h
        cases j with
        | zero =>
          have e : o = none := hb o List.mem_cons_self
          subst e
          cases h
        | succ j => exact ih j (fun o ho => hb o (List.mem_cons_of_mem _ ho)) h
    exact this b j hb h
  | o :: t, b, 0, u, hb, h => h
  | o :: t, b, j + 1, u, hb, h => zg_app t b j u hb h
theorem zen_L (g : zG) {ml : Nat} {as : List zV} (h : (zsl as).length ≤ ml) : zL g ((lg_sl (as.map (zv g)) ++ List.replicate (ml - (lg_sl (as.map (zv g))).length) Slot.unset).toArray) ml (zen ml as) := by
  refine zL.of (lv_entry (as.map (zv g)) (by rw [zsl_len]; exact h)) fun j u hu => ?_
  have h1 : zg (zsl as) j = some u := zg_app _ _ _ _ (fun o ho => (List.mem_replicate.mp ho).2) hu
  have h2 := zsl_args g as 0 j u h1
  rwa [Nat.zero_add] at h2
theorem zCt.of {h mc ms : Nat} {y : MethodName} {cc : ByteArray} {ml : Nat} {ret : Option FieldType} {as : List zV} {n : Nat} {σ : zS} {r : Option zV} {n' : Nat} {σ' : zS} (hy : plainName y.cls = true) (hn : n' = n + mc) (ha : (zsl as).length ≤ ml)
    (body : ∀ K : zKT, zX y cc ml ret h mc ms n (fun v n1 σ1 w => v = r ∧ n1 = n' ∧ σ1 = σ' ∧ w = ms) K → K 0 (zen ml as) [] n σ 0) : zCt h mc ms y cc ml ret as n σ r n' σ' := by
  intro l g
  refine Met.ofW (cc := cc) (maxL := ml) (ret := ret) hy rfl ?_
  intro p e s m args below meth c s₁ B hml hv
  obtain ⟨rfl, hz, hH, hK⟩ := hv
  have hx := B.exec
  have hb := B.bytes
  have hr := B.returns
  have hts := atoms_spec (ws := Cond.code y cc ml ret :: zGW) B.pre
  have hown : s.vm.findClass y.cls = some m.cls := findClass_of_methodNamed B.named
  have hlocks := B.notSynchronized
  have hin : meth.name = y.name := (name_of_methodNamed B.named B.method).1
  have key := body _ ⟨p, l, e, (headSpec (Cond.code y cc ml ret :: zGW) (zRm h mc ms)).room, s, m, (as.map (zv g)).toArray, below, meth, c, MQ below (zPost g r n' σ') (as.map (zv g)).toArray s mc ms (zF g), g,
    ⟨hx, hb, hml, hown, fun w hw => hts w (List.mem_cons_of_mem _ hw), hK, hin⟩, ⟨Nat.le_refl _, Nat.le_refl _, Nat.le_refl _, Nat.le_refl _⟩, hz, rfl, ?_⟩
  · have k := key _ s.heap [] ⟨Nat.le_refl _, by omega, Nat.zero_le _⟩ (zen_L g ha) hH va_S.rf
    rw [Nat.sub_self] at k
    rw [lg_entry_eq]
    exact k
  · intro v pc Lo st n1 σ1 w hrt hR ls H locs hn1 hl hP hS
    obtain ⟨rfl, rfl, rfl, rfl⟩ := hR
    have e : n1 - n = mc := by omega
    rw [e]
    rcases hrt with ⟨d, rfl, rfl, rfl⟩ | ⟨d, rfl, x, rfl, rfl⟩ | ⟨d, rfl, x, hx01, rfl, rfl⟩ | ⟨d, rfl, x, rfl, rfl⟩
    · exact W.vret hx hb hr (fun t ht _ => ⟨rfl, by rw [ht]; exact hP, hS.F ht⟩) hS.2.2 d
    · exact W.iret hx hb hr (fun t ht _ => ⟨rfl, by rw [ht]; exact hP, hS.F ht⟩) hS.2.2 d
    · refine W.zret hx hb hr ?_ (fun t ht _ => ⟨rfl, by rw [ht]; exact hP, hS.F ht⟩) hS.2.2 d
      rcases hx01 with rfl | rfl <;> rfl
    · exact W.lret hx hb hr (fun t ht _ => ⟨rfl, by rw [ht]; exact hP, hS.F ht⟩) hS.2.2 d
/-- words of a method that is called -/
def zOk (y : MethodName) (cc : ByteArray) (ml : Nat) (ret : Option FieldType) (na : Nat) : Prop :=
  (y.cls ≠ "java/lang/invoke/MethodHandle" ∧ y.cls ≠ "java/lang/invoke/VarHandle") ∧ (parseMethodDescriptor y.desc).map (fun d => d.parameters.length) = some na ∧ ml ≤ 40 ∧ Cond.code y cc ml ret ∈ zGW ∧ Cond.initialized y.cls ∈ zGW
def zLs (own : String) (idx : Nat) (y : MethodName) : Prop := Cond.methodLink own idx y ∈ zGW ∧ Cond.static y ∈ zGW
def zLv (own : String) (idx : Nat) (y : MethodName) : Prop := Cond.methodLink own idx y ∈ zGW ∧ Cond.instanceMethod y ∈ zGW ∧ Cond.selects y.cls y y ∈ zGW
def zLi (own : String) (idx : Nat) (y : MethodName) : Prop := Cond.methodLink own idx y ∈ zGW ∧ Cond.instanceMethod y ∈ zGW ∧ y.name = "<init>"
def zNs (own : String) (idx : Nat) (y : MethodName) : Prop := Cond.methodLinkNest own idx y "BlockTrees" ∈ zNW ∧ Cond.static y ∈ zGW
def zNv (own : String) (idx : Nat) (y : MethodName) : Prop := Cond.methodLinkNest own idx y "BlockTrees" ∈ zNW ∧ Cond.instanceMethod y ∈ zGW ∧ Cond.selects y.cls y y ∈ zGW
def zNi (own : String) (idx : Nat) (y : MethodName) : Prop := Cond.methodLinkNest own idx y "BlockTrees" ∈ zNW ∧ Cond.instanceMethod y ∈ zGW ∧ y.name = "<init>"
def zFl (own : String) (idx ci j : Nat) : Prop := ∃ (C : String) (T : u_T) (N : Nat), vwCl[ci]? = some (C, T, N) ∧ j < N ∧ Cond.fieldLink own idx (T j).1 (T j).2.1 (T j).2.2.1 ∈ zGW ∧ ∀ w ∈ u_ws C T N, w ∈ zGW
def zFn (own : String) (idx ci j : Nat) : Prop := ∃ (C : String) (T : u_T) (N : Nat), vwCl[ci]? = some (C, T, N) ∧ j < N ∧ Cond.fieldLinkNest own idx (T j).1 (T j).2.1 (T j).2.2.1 "BlockTrees" ∈ zNW ∧ ∀ w ∈ u_ws C T N, w ∈ zGW
/-- what putfield asks besides -/
def zFy (ci j : Nat) (fin : Bool) (ty : FieldType) : Prop := ∀ (C : String) (T : u_T) (N : Nat), vwCl[ci]? = some (C, T, N) → (∃ ty0 : Nat → FieldType, ∀ k, k < N → parseFieldDescriptor (T k).2.2.1 = some (ty0 k)) ∧ (∀ a, a < N → ∀ b, b < N → a ≠ b → (T a).2.1 ≠ (T b).2.1) ∧ (T j).2.2.2 = fin ∧ (T j).1 = C ∧ parseFieldDescriptor (T j).2.2.1 = some ty
def zcat (st : List zV) : Nat := (st.map fun v => if zwide v then 2 else 1).sum
theorem zcat_eq (g : zG) : ∀ st : List zV, ((st.map (zv g)).map fun v => v.category).sum = zcat st
  | [] => rfl
  | v :: t => by
    have ih := zcat_eq g t
    by_cases h : zwide v = true
    · have hc := (zcat_wide g v).mpr h
      simp [zcat, h, hc] at ih ⊢
      exact ih
    · have hc : (zv g v).category = 1 := (lv_cat _).resolve_right (fun q => h ((zcat_wide g v).mp q))
      simp [zcat, h, hc] at ih ⊢
      exact ih

theorem zrun {p : Program} {l : Launch} {e : Env} {R : Room} {s : State} {m : MethodId} {args : Array Value} {below : List Frame} {meth : Method} {c : Code} {H : Heap} {locs : List Loc} {cells slots mc ms pc : Nat} {ls : Array Slot} {Q : State → Prop} {stk rest : List Value} {g : zG} {r : Option zV} {n' : Nat} {σ' : zS} {a : Array Value}
    (hr : va_Run p l e R s m args below meth c H locs cells slots mc ms (F0 m pc ls stk) rest (zPost g r n' σ' a) (zF g)) (hS : va_S (zF g) s.heap H locs)
    (kk : ∀ (H1 : Heap) (locs1 : List Loc), zH g n' σ' H1 → va_S (zF g) s.heap H1 locs1 → W p l e R s m args below meth c H1 locs1 (cells + mc) (slots + ms) Q (F0 m (pc + 3) ls ((r.map (zv g)).toList ++ rest))) : W p l e R s m args below meth c H locs cells slots Q (F0 m pc ls stk) := by
  intro T hT X
  obtain ⟨v, st₀, t, T', L, h0, X', hL, e1, e2, hQ, st⟩ := hr T hT X
  obtain ⟨hv, hH1, hz, hk⟩ := hQ
  have hv2 : v = r.map (zv g) := by injection hv
  subst hv2
  rw [h0] at hz hk
  obtain ⟨t2, a1, b1⟩ := kk T'.heap (locs ++ L) (by rw [e1]; exact hH1)
    ⟨Nat.le_trans hS.1 (by rw [e1]; exact hz), fun q h1 h2 => by rw [e1, hk q (Nat.lt_of_lt_of_le h1 hS.1) h2]; exact hS.2.1 q h1 h2, fun q hq => by
      rcases List.mem_append.mp hq with h | h
      · exact hS.2.2 q h
      · exact hL q h⟩ T' rfl X'
  exact ⟨t2, st t2 a1, b1⟩
theorem zI_c2 {a : Int} (h : 0 ≤ a ∧ a < 65536) : (zI a).toUInt32.toUInt16.toUInt32.toInt32 = zI a := by
  have h1 := zI_c h
  obtain ⟨k, rfl⟩ : ∃ k : Nat, a = k := ⟨a.toNat, by omega⟩
  apply Int32.toBitVec_inj.mp
  apply BitVec.eq_of_toNat_eq
  have e := congrArg (fun z : Int32 => z.toBitVec.toNat) h1
  try dsimp only at e
  rw [← e]
  simp
theorem zq_eq {g : zG} {n : Nat} {σ : zS} {q : Nat} {x : va_E} {H1 : Heap} (hD : va_D (zF g) (zW g n σ ++ [(q, x)])) (hP : va_P g.2.1 vwCl (zW g n σ ++ [(q, x)]) H1) (hz : H1.size ≤ g.1.2 + 1 + (n + 1)) : q = g.1.2 + (n + 1) := by
  have hq : (zW g n σ ++ [(q, x)])[n]? = some (q, x) := by
    rw [List.getElem?_append_right (by rw [zW_len]; omega), zW_len, Nat.sub_self]
    rfl
  have h1 := (hP n _ hq).lt
  have h2 : g.1.2 < q := hD.2 n _ hq
  dsimp only at h1 h2
  rcases Nat.lt_or_ge q (g.1.2 + (n + 1)) with h3 | h3
  · have h4 : (zW g n σ ++ [(q, x)])[q - (g.1.2 + 1)]? = some (q, zc g (σ (((q - (g.1.2 + 1) : Nat) : Int) + 1))) := by
      rw [List.getElem?_append_left (by rw [zW_len]; omega), zW_get, if_pos (by omega)]
      congr 2
      omega
    have h5 := hD.1 _ _ _ _ hq h4 rfl
    omega
  · omega
