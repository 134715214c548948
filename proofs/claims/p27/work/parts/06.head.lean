/-! THE LAYER: integers instead of machine numbers, one world of numbered cells, one row an instruction -/
abbrev zV : Type := Int ⊕ (Int ⊕ (Option Int ⊕ (UInt64 ⊕ UInt32)))
abbrev zi (x : Int) : zV := Sum.inl x
abbrev zl (x : Int) : zV := Sum.inr (Sum.inl x)
abbrev zr (k : Int) : zV := Sum.inr (Sum.inr (Sum.inl (some k)))
abbrev zn : zV := Sum.inr (Sum.inr (Sum.inl none))
abbrev zd (u : UInt64) : zV := Sum.inr (Sum.inr (Sum.inr (Sum.inl u)))
abbrev zf (u : UInt32) : zV := Sum.inr (Sum.inr (Sum.inr (Sum.inr u)))
def zI (x : Int) : Int32 := Int32.ofInt x
def zJ (x : Int) : Int64 := Int64.ofInt x
abbrev zG : Type := (Nat × Nat) × (va_G × (Nat → ClassId))
def zad (g : zG) (k : Int) : Nat := if k = 0 then g.1.1 else g.1.2 + k.toNat
def zv (g : zG) : zV → Value
  | Sum.inl x => .int (zI x)
  | Sum.inr (Sum.inl x) => .long (zJ x)
  | Sum.inr (Sum.inr (Sum.inl o)) => va_rf (o.map (zad g))
  | Sum.inr (Sum.inr (Sum.inr (Sum.inl u))) => .double u
  | Sum.inr (Sum.inr (Sum.inr (Sum.inr u))) => .float u
abbrev zC : Type := (Nat × (Nat × (Int → Int))) ⊕ ((Nat × (Nat × (Int → Option Int))) ⊕ (Nat × List zV))
abbrev zP (t L : Nat) (f : Int → Int) : zC := Sum.inl (t, (L, f))
abbrev zA (L : Nat) (f : Int → Int) : zC := zP 0 L f
abbrev zQ (t L : Nat) (f : Int → Option Int) : zC := Sum.inr (Sum.inl (t, (L, f)))
abbrev zO (c : Nat) (vs : List zV) : zC := Sum.inr (Sum.inr (c, vs))
def zc (g : zG) : zC → va_E
  | Sum.inl a => .inl (g.2.2 a.1, (a.2.1, .inl (fun j => zI (a.2.2 (j : Int)))))
  | Sum.inr (Sum.inl a) => .inl (g.2.2 a.1, (a.2.1, .inr (.inr (.inr (.inr (fun j => (a.2.2 (j : Int)).map (zad g)))))))
  | Sum.inr (Sum.inr o) => .inr (o.1, o.2.map (zv g))
abbrev zS : Type := Int → zC
def zsu (σ : zS) (k : Int) (c : zC) : zS := fun j => if j = k then c else σ j
def zu (f : Int → Int) (k x : Int) : Int → Int := fun j => if j = k then x else f j
def zuq (f : Int → Option Int) (k : Int) (x : Option Int) : Int → Option Int := fun j => if j = k then x else f j
theorem zsu_s (σ : zS) (k : Int) (c : zC) : zsu σ k c k = c := if_pos rfl
theorem zsu_n (σ : zS) {k j : Int} (c : zC) (h : j ≠ k) : zsu σ k c j = σ j := if_neg h
theorem zsu_u (σ : zS) (k : Int) (c d : zC) : zsu (zsu σ k c) k d = zsu σ k d := by
  funext j; unfold zsu; by_cases h : j = k <;> simp [h]
theorem zsu_self {σ : zS} {k : Int} {c : zC} (h : σ k = c) : zsu σ k c = σ := by
  funext j; unfold zsu; by_cases e : j = k
  · subst e; rw [if_pos rfl, h]
  · rw [if_neg e]
theorem zsu_comm (σ : zS) {k j : Int} (c d : zC) (h : k ≠ j) : zsu (zsu σ k c) j d = zsu (zsu σ j d) k c := by
  funext i; unfold zsu; by_cases e : i = j
  · subst e; rw [if_pos rfl, if_neg (fun q => h q.symm), if_pos rfl]
  · rw [if_neg e]; by_cases e2 : i = k
    · rw [if_pos e2, if_pos e2]
    · rw [if_neg e2, if_neg e2, if_neg e]
theorem zu_s (f : Int → Int) (k x : Int) : zu f k x k = x := if_pos rfl
theorem zu_n (f : Int → Int) {k j : Int} (x : Int) (h : j ≠ k) : zu f k x j = f j := if_neg h
def zW (g : zG) (n : Nat) (σ : zS) : va_W := (List.range n).map fun p => (g.1.2 + (p + 1), zc g (σ ((p : Int) + 1)))
theorem zad_pos (g : zG) {k : Int} (h : 0 < k) : zad g k = g.1.2 + k.toNat := if_neg (by omega)
theorem zW_len (g : zG) (n : Nat) (σ : zS) : (zW g n σ).length = n := by simp [zW]
theorem zW_get (g : zG) (n : Nat) (σ : zS) (p : Nat) : (zW g n σ)[p]? = if p < n then some (g.1.2 + (p + 1), zc g (σ ((p : Int) + 1))) else none := by
  by_cases h : p < n
  · simp [zW, h]
  · simp [zW, h]
theorem zW_at (g : zG) {n : Nat} (σ : zS) {k : Int} (h : 0 < k ∧ k ≤ n) : (zW g n σ)[(k - 1).toNat]? = some (zad g k, zc g (σ k)) := by
  rw [zW_get, if_pos (by omega), zad_pos g h.1]
  have e1 : (((k - 1).toNat : Nat) : Int) + 1 = k := by omega
  have e2 : (k - 1).toNat + 1 = k.toNat := by omega
  rw [e1, e2]
theorem zW_set (g : zG) {n : Nat} (σ : zS) {k : Int} (c : zC) (h : 0 < k ∧ k ≤ n) : (zW g n σ).set (k - 1).toNat (zad g k, zc g c) = zW g n (zsu σ k c) := by
  apply List.ext_getElem?
  intro p
  rw [List.getElem?_set, zW_get, zW_get, zW_len]
  by_cases e : (k - 1).toNat = p
  · subst e
    rw [if_pos rfl, if_pos (by omega), if_pos (by omega), zad_pos g h.1]
    have e1 : (((k - 1).toNat : Nat) : Int) + 1 = k := by omega
    have e2 : (k - 1).toNat + 1 = k.toNat := by omega
    rw [e1, e2, zsu_s]
  · rw [if_neg e]
    by_cases hp : p < n
    · rw [if_pos hp, if_pos hp, zsu_n]
      omega
    · rw [if_neg hp, if_neg hp]
theorem zW_push (g : zG) (n : Nat) (σ : zS) (c : zC) : zW g n σ ++ [(g.1.2 + (n + 1), zc g c)] = zW g (n + 1) (zsu σ ((n : Int) + 1) c) := by
  apply List.ext_getElem?
  intro p
  rw [zW_get]
  by_cases hp : p < n
  · rw [List.getElem?_append_left (by rw [zW_len]; exact hp), zW_get, if_pos hp, if_pos (by omega), zsu_n]
    omega
  · rw [List.getElem?_append_right (by rw [zW_len]; omega), zW_len]
    by_cases e : p = n
    · subst e
      rw [if_pos (by omega), zsu_s]
      simp
    · rw [if_neg (by omega)]
      have : p - n = (p - n - 1) + 1 := by omega
      rw [this]
      rfl
def zty (g : zG) : List (ClassId × FieldType) := [(g.2.2 0, .int), (g.2.2 1, .int), (g.2.2 2, .char), (g.2.2 3, .object "BlockTrees$Matrix"), (g.2.2 4, .object "BlockTrees$State"), (g.2.2 5, .object "BlockTrees$Slot")]
def zisN : Cond → Bool
  | .fieldLinkNest .. => true
  | .methodLinkNest .. => true
  | _ => false
def zNW : List Cond := lw_tbl.filter zisN
def zGW : List Cond := lw_tbl.filter goodWord
theorem zGW_in {w : Cond} (i : Nat) (h : lw_tbl[i]? = some w) (hg : goodWord w = true) : w ∈ zGW := List.mem_filter.mpr ⟨List.mem_of_getElem? h, hg⟩
theorem zNW_in {w : Cond} (i : Nat) (h : lw_tbl[i]? = some w) (hg : zisN w = true) : w ∈ zNW := List.mem_filter.mpr ⟨List.mem_of_getElem? h, hg⟩
theorem zGW_good : ∀ w ∈ zGW, goodWord w = true := fun _ h => (List.mem_filter.mp h).2
theorem zGoodIn {y : MethodName} {cc : ByteArray} {ml : Nat} {ret : Option FieldType} (h : Cond.code y cc ml ret ∈ zGW) : GoodIn zGW (Cond.code y cc ml ret :: zGW) := by
  intro w hw
  rcases List.mem_cons.mp hw with rfl | hw
  · exact ⟨h, good_of_word (zGW_good _ h)⟩
  · exact ⟨hw, good_of_word (zGW_good _ hw)⟩
def zK (g : zG) (U : State) : Prop := va_K g.2.1 vwCl (zty g) U ∧ (∀ w ∈ zNW, va_Nw w U) ∧ va_AO "BlockTrees$Matrix" U ∧ va_AO "BlockTrees$State" U ∧ va_AO "BlockTrees$Slot" U
theorem zNw_warm {w : Cond} (hw : zisN w = true) {s U : State} (hW : s.WarmedH U.vm) (h : va_Nw w s) : va_Nw w U := by
  cases w with
  | fieldLinkNest a i b n d hh => exact va_Nw.warmF hW h
  | methodLinkNest a i x hh => exact va_Nw.warmM hW h
  | _ => exact absurd hw (by simp [zisN])
theorem zK.warm {g : zG} {s U : State} (hW : s.WarmedH U.vm) (h : zK g s) : zK g U :=
  ⟨va_K.moved hW.alike h.1, fun w hw => zNw_warm (List.mem_filter.mp hw).2 hW (h.2.1 w hw), va_AO.moved hW.alike h.2.2.1, va_AO.moved hW.alike h.2.2.2.1, va_AO.moved hW.alike h.2.2.2.2⟩
theorem zNw_same {w : Cond} (hw : zisN w = true) {u U : State} (e : u.vm = U.vm) (h : va_Nw w u) : va_Nw w U := by
  cases w with
  | fieldLinkNest a i b n d hh => exact va_Nw.same rfl e h
  | methodLinkNest a i x hh => exact va_Nw.same rfl e h
  | _ => exact absurd hw (by simp [zisN])
theorem zK.calling {g : zG} {U : State} (fr : JFrame) (mk : MethodId) (a : Array Value) (h : zK g U) : zK g (U.calling fr mk a) :=
  ⟨va_K.moved (u := U) (U := U.calling fr mk a) (Vm.Alike.refl U.vm) h.1, fun w hw => zNw_same (u := U) (U := U.calling fr mk a) (List.mem_filter.mp hw).2 rfl (h.2.1 w hw), va_AO.moved (u := U) (U := U.calling fr mk a) (Vm.Alike.refl U.vm) h.2.2.1, va_AO.moved (u := U) (U := U.calling fr mk a) (Vm.Alike.refl U.vm) h.2.2.2.1, va_AO.moved (u := U) (U := U.calling fr mk a) (Vm.Alike.refl U.vm) h.2.2.2.2⟩
def zH (g : zG) (n : Nat) (σ : zS) (H : Heap) : Prop := g.1.2 + 1 + n ≤ H.size ∧ g.1.1 ≤ g.1.2 ∧ va_P g.2.1 vwCl (zW g n σ) H
theorem zH.set {g : zG} {n : Nat} {σ : zS} {H H1 : Heap} {o : Int} {c : zC} (h : zH g n σ H) (hk : 0 < o ∧ o ≤ n) (hP : va_P g.2.1 vwCl ((zW g n σ).set (o - 1).toNat (zad g o, zc g c)) H1) : zH g n (zsu σ o c) H1 := by
  rw [zW_set g σ c hk] at hP
  refine ⟨?_, h.2.1, hP⟩
  have hn : 0 < n := by omega
  have h1 := (hP (n - 1) _ (by rw [zW_get, if_pos (by omega)])).lt
  dsimp only at h1
  omega
def zF (g : zG) : Nat → Prop := fun q => g.1.2 < q
theorem zD (g : zG) (n : Nat) (σ : zS) : va_D (zF g) (zW g n σ) := by
  refine ⟨fun i j p q hi hj e => ?_, fun k q hk => ?_⟩
  · rw [zW_get] at hi hj
    by_cases h1 : i < n
    · by_cases h2 : j < n
      · rw [if_pos h1] at hi
        rw [if_pos h2] at hj
        cases hi
        cases hj
        dsimp only at e
        omega
      · rw [if_neg h2] at hj
        cases hj
    · rw [if_neg h1] at hi
      cases hi
  · rw [zW_get] at hk
    by_cases h1 : k < n
    · rw [if_pos h1] at hk
      cases hk
      show g.1.2 < _
      omega
    · rw [if_neg h1] at hk
      cases hk
/-- the locals, by their places -/
def zg : List (Option zV) → Nat → Option zV
  | [], _ => none
  | o :: _, 0 => o
  | _ :: t, i + 1 => zg t i
def zkill : Option zV → Option zV
  | some (Sum.inr (Sum.inl _)) => none
  | some (Sum.inr (Sum.inr (Sum.inr (Sum.inl _)))) => none
  | o => o
def zs1 : List (Option zV) → Nat → zV → List (Option zV)
  | [], _, _ => []
  | _ :: t, 0, v => some v :: t
  | o :: t, 1, v => zkill o :: zs1 t 0 v
  | o :: t, i + 2, v => o :: zs1 t (i + 1) v
def zhid : List (Option zV) → List (Option zV)
  | [] => []
  | _ :: t => none :: t
def zs2 : List (Option zV) → Nat → zV → List (Option zV)
  | [], _, _ => []
  | _ :: t, 0, v => some v :: zhid t
  | o :: t, 1, v => zkill o :: zs2 t 0 v
  | o :: t, i + 2, v => o :: zs2 t (i + 1) v
def zwide : zV → Bool
  | Sum.inr (Sum.inl _) => true
  | Sum.inr (Sum.inr (Sum.inr (Sum.inl _))) => true
  | _ => false
theorem zcat_wide (g : zG) (v : zV) : (zv g v).category = 2 ↔ zwide v = true := by
  rcases v with x | x | x | x | x
  · simp [zv, zwide, Value.category]
  · simp [zv, zwide, Value.category]
  · cases x <;> simp [zv, zwide, Value.category, va_rf]
  · simp [zv, zwide, Value.category]
  · simp [zv, zwide, Value.category]
theorem zkill_some {o : Option zV} {u : zV} (h : zkill o = some u) : o = some u ∧ zwide u = false := by
  rcases o with _ | (x | x | x | x | x)
  · cases h
  · cases h; exact ⟨rfl, rfl⟩
  · cases h
  · cases h; exact ⟨rfl, rfl⟩
  · cases h
  · cases h; exact ⟨rfl, rfl⟩
theorem zs1_get : ∀ (L : List (Option zV)) (i : Nat) (v : zV) (j : Nat) (u : zV), zg (zs1 L i v) j = some u → (j = i ∧ u = v) ∨ (j ≠ i ∧ zg L j = some u ∧ ¬ (j + 1 = i ∧ zwide u = true))
  | [], i, v, j, u, h => by cases h
  | o :: t, 0, v, 0, u, h => by cases h; exact Or.inl ⟨rfl, rfl⟩
  | o :: t, 0, v, j + 1, u, h => Or.inr ⟨by omega, h, by omega⟩
  | o :: t, 1, v, 0, u, h => by
    have := zkill_some (o := o) (u := u) h
    exact Or.inr ⟨by omega, this.1, fun q => by rw [this.2] at q; exact absurd q.2 (by decide)⟩
  | o :: t, 1, v, j + 1, u, h => by
    rcases zs1_get t 0 v j u h with ⟨a, b⟩ | ⟨a, b, c⟩
    · exact Or.inl ⟨by omega, b⟩
    · exact Or.inr ⟨by omega, b, by omega⟩
  | o :: t, i + 2, v, 0, u, h => Or.inr ⟨by omega, h, by omega⟩
  | o :: t, i + 2, v, j + 1, u, h => by
    rcases zs1_get t (i + 1) v j u h with ⟨a, b⟩ | ⟨a, b, c⟩
    · exact Or.inl ⟨by omega, b⟩
    · exact Or.inr ⟨by omega, b, fun q => c ⟨by omega, q.2⟩⟩
theorem zhid_get (L : List (Option zV)) (j : Nat) (u : zV) (h : zg (zhid L) j = some u) : j ≠ 0 ∧ zg L j = some u := by
  cases L with
  | nil => cases h
  | cons o t =>
    cases j with
    | zero => cases h
    | succ j => exact ⟨by omega, h⟩
theorem zs2_get : ∀ (L : List (Option zV)) (i : Nat) (v : zV) (j : Nat) (u : zV), zg (zs2 L i v) j = some u → (j = i ∧ u = v) ∨ (j ≠ i ∧ j ≠ i + 1 ∧ zg L j = some u ∧ ¬ (j + 1 = i ∧ zwide u = true))
  | [], i, v, j, u, h => by cases h
  | o :: t, 0, v, 0, u, h => by cases h; exact Or.inl ⟨rfl, rfl⟩
  | o :: t, 0, v, j + 1, u, h => by
    have := zhid_get t j u h
    exact Or.inr ⟨by omega, by omega, this.2, by omega⟩
  | o :: t, 1, v, 0, u, h => by
    have := zkill_some (o := o) (u := u) h
    exact Or.inr ⟨by omega, by omega, this.1, fun q => by rw [this.2] at q; exact absurd q.2 (by decide)⟩
  | o :: t, 1, v, j + 1, u, h => by
    rcases zs2_get t 0 v j u h with ⟨a, b⟩ | ⟨a, a2, b, c⟩
    · exact Or.inl ⟨by omega, b⟩
    · exact Or.inr ⟨by omega, by omega, b, by omega⟩
  | o :: t, i + 2, v, 0, u, h => Or.inr ⟨by omega, by omega, h, by omega⟩
  | o :: t, i + 2, v, j + 1, u, h => by
    rcases zs2_get t (i + 1) v j u h with ⟨a, b⟩ | ⟨a, a2, b, c⟩
    · exact Or.inl ⟨by omega, b⟩
    · exact Or.inr ⟨by omega, by omega, b, fun q => c ⟨by omega, q.2⟩⟩
def zlst (g : zG) : Nat → List (Option zV) → List (Nat × Value)
  | _, [] => []
  | i, none :: t => zlst g (i + 1) t
  | i, some v :: t => (i, zv g v) :: zlst g (i + 1) t
theorem zlst_in (g : zG) : ∀ (L : List (Option zV)) (i j : Nat) (u : zV), zg L j = some u → (i + j, zv g u) ∈ zlst g i L
  | [], i, j, u, h => by cases h
  | none :: t, i, 0, u, h => by cases h
  | some v :: t, i, 0, u, h => by cases h; exact List.mem_cons_self
  | none :: t, i, j + 1, u, h => by
    have := zlst_in g t (i + 1) j u h
    rw [show i + (j + 1) = i + 1 + j by omega]
    exact this
  | some v :: t, i, j + 1, u, h => by
    have := zlst_in g t (i + 1) j u h
    rw [show i + (j + 1) = i + 1 + j by omega]
    exact List.mem_cons_of_mem _ this
theorem zlst_of (g : zG) : ∀ (L : List (Option zV)) (i : Nat) (q : Nat × Value), q ∈ zlst g i L → ∃ (j : Nat) (u : zV), q = (i + j, zv g u) ∧ zg L j = some u
  | [], i, q, h => by cases h
  | none :: t, i, q, h => by
    obtain ⟨j, u, e, hu⟩ := zlst_of g t (i + 1) q h
    exact ⟨j + 1, u, by rw [e, show i + (j + 1) = i + 1 + j by omega], hu⟩
  | some v :: t, i, q, h => by
    rcases List.mem_cons.mp h with rfl | h
    · exact ⟨0, v, rfl, rfl⟩
    · obtain ⟨j, u, e, hu⟩ := zlst_of g t (i + 1) q h
      exact ⟨j + 1, u, by rw [e, show i + (j + 1) = i + 1 + j by omega], hu⟩
def zL (g : zG) (ls : Array Slot) (ml : Nat) (L : List (Option zV)) : Prop := lv_has ls ml (zlst g 0 L)
theorem zL.at {g : zG} {ls : Array Slot} {ml : Nat} {L : List (Option zV)} (h : zL g ls ml L) {i : Nat} {v : zV} (hv : zg L i = some v) : ls[i]? = some (.val (zv g v)) := by
  have := h.2.2 _ (zlst_in g L 0 i v hv)
  rwa [Nat.zero_add] at this
theorem zL.of {g : zG} {ls : Array Slot} {ml : Nat} {L : List (Option zV)} {l : List (Nat × Value)} (h : lv_has ls ml l) (hs : ∀ (j : Nat) (u : zV), zg L j = some u → (j, zv g u) ∈ l) : zL g ls ml L := by
  refine ⟨h.1, h.2.1, fun q hq => ?_⟩
  obtain ⟨j, u, e, hu⟩ := zlst_of g L 0 q hq
  rw [Nat.zero_add] at e
  subst e
  exact h.2.2 _ (hs j u hu)
theorem zL.weak {g : zG} {ls : Array Slot} {ml : Nat} {L L' : List (Option zV)} (h : zL g ls ml L) (hs : ∀ (j : Nat) (u : zV), zg L' j = some u → zg L j = some u) : zL g ls ml L' :=
  zL.of h fun j u hu => by
    have := zlst_in g L 0 j u (hs j u hu)
    rwa [Nat.zero_add] at this
theorem zL.st1 {g : zG} {ls : Array Slot} {ml : Nat} {L : List (Option zV)} {i : Nat} {v : zV} (h : lv_has ls ml ((i, zv g v) :: (zlst g 0 L).filter (fun q => !(q.1 == i) && !(q.1 + 1 == i && q.2.category == 2)))) : zL g ls ml (zs1 L i v) := by
  refine zL.of h fun j u hu => ?_
  rcases zs1_get L i v j u hu with ⟨a, b⟩ | ⟨a, b, c⟩
  · subst a; subst b; exact List.mem_cons_self
  · refine List.mem_cons_of_mem _ (List.mem_filter.mpr ⟨?_, ?_⟩)
    · have := zlst_in g L 0 j u b
      rwa [Nat.zero_add] at this
    · simp only [Bool.and_eq_true, Bool.not_eq_true', beq_eq_false_iff_ne, ne_eq, Bool.and_eq_false_iff]
      refine ⟨a, ?_⟩
      by_cases e : j + 1 = i
      · exact Or.inr (fun q => c ⟨e, (zcat_wide g u).mp q⟩)
      · exact Or.inl e
theorem zL.st2 {g : zG} {ls : Array Slot} {ml : Nat} {L : List (Option zV)} {i : Nat} {v : zV} (h : lv_has ls ml ((i, zv g v) :: (zlst g 0 L).filter (fun q => !(q.1 == i) && (!(q.1 == i + 1) && !(q.1 + 1 == i && q.2.category == 2))))) : zL g ls ml (zs2 L i v) := by
  refine zL.of h fun j u hu => ?_
  rcases zs2_get L i v j u hu with ⟨a, b⟩ | ⟨a, a2, b, c⟩
  · subst a; subst b; exact List.mem_cons_self
  · refine List.mem_cons_of_mem _ (List.mem_filter.mpr ⟨?_, ?_⟩)
    · have := zlst_in g L 0 j u b
      rwa [Nat.zero_add] at this
    · simp only [Bool.and_eq_true, Bool.not_eq_true', beq_eq_false_iff_ne, ne_eq, Bool.and_eq_false_iff]
      refine ⟨a, a2, ?_⟩
      by_cases e : j + 1 = i
      · exact Or.inr (fun q => c ⟨e, (zcat_wide g u).mp q⟩)
      · exact Or.inl e
/-! numbers -/
theorem zI_add (a b : Int) : zI (a + b) = zI a + zI b := Int32.ofInt_add a b
theorem zI_sub (a b : Int) : zI (a - b) = zI a - zI b := Int32.ofInt_sub a b
theorem zI_mul (a b : Int) : zI (a * b) = zI a * zI b := Int32.ofInt_mul a b
theorem zI_neg (a : Int) : zI (-a) = -zI a := Int32.ofInt_neg a
theorem zJ_add (a b : Int) : zJ (a + b) = zJ a + zJ b := Int64.ofInt_add a b
theorem zJ_sub (a b : Int) : zJ (a - b) = zJ a - zJ b := Int64.ofInt_sub a b
theorem zJ_mul (a b : Int) : zJ (a * b) = zJ a * zJ b := Int64.ofInt_mul a b
theorem zJ_neg (a : Int) : zJ (-a) = -zJ a := Int64.ofInt_neg a
theorem zI_t {a : Int} (h : -2147483648 ≤ a ∧ a < 2147483648) : (zI a).toInt = a := Int32.toInt_ofInt_of_le h.1 h.2
theorem zJ_t {a : Int} (h : -9223372036854775808 ≤ a ∧ a < 9223372036854775808) : (zJ a).toInt = a := Int64.toInt_ofInt_of_le h.1 h.2
theorem zI_to (x : Int32) : zI x.toInt = x := Int32.ofInt_toInt x
theorem zJ_to (x : Int64) : zJ x.toInt = x := Int64.ofInt_toInt x
theorem zI_lt {a b : Int} (h : (-2147483648 ≤ a ∧ a < 2147483648) ∧ (-2147483648 ≤ b ∧ b < 2147483648)) : zI a < zI b ↔ a < b := by
  rw [Int32.lt_iff_toInt_lt, zI_t h.1, zI_t h.2]
theorem zI_le {a b : Int} (h : (-2147483648 ≤ a ∧ a < 2147483648) ∧ (-2147483648 ≤ b ∧ b < 2147483648)) : zI a ≤ zI b ↔ a ≤ b := by
  rw [Int32.le_iff_toInt_le, zI_t h.1, zI_t h.2]
theorem zI_eq {a b : Int} (h : (-2147483648 ≤ a ∧ a < 2147483648) ∧ (-2147483648 ≤ b ∧ b < 2147483648)) : zI a = zI b ↔ a = b := by
  refine ⟨fun e => ?_, fun e => by rw [e]⟩
  have := congrArg Int32.toInt e
  rwa [zI_t h.1, zI_t h.2] at this
theorem zJ_lt {a b : Int} (h : (-9223372036854775808 ≤ a ∧ a < 9223372036854775808) ∧ (-9223372036854775808 ≤ b ∧ b < 9223372036854775808)) : zJ a < zJ b ↔ a < b := by
  rw [Int64.lt_iff_toInt_lt, zJ_t h.1, zJ_t h.2]
theorem zJ_eq {a b : Int} (h : (-9223372036854775808 ≤ a ∧ a < 9223372036854775808) ∧ (-9223372036854775808 ≤ b ∧ b < 9223372036854775808)) : zJ a = zJ b ↔ a = b := by
  refine ⟨fun e => ?_, fun e => by rw [e]⟩
  have := congrArg Int64.toInt e
  rwa [zJ_t h.1, zJ_t h.2] at this
theorem zI_0 : zI 0 = 0 := rfl
theorem zI_in {i : Int} {L : Nat} (h : 0 ≤ i ∧ i < L) (hL : L < 2147483648) : vp_in (zI i) L := by
  rw [vp_in_iff, zI_t (by omega)]
  exact h
theorem zI_cl {i : Int} (h : 0 ≤ i ∧ i < 2147483648) : (zI i).toNatClampNeg = i.toNat := by
  show (zI i).toInt.toNat = _
  rw [zI_t (by omega)]
theorem zI_upd (f : Int → Int) {i : Int} (x : Int) (h : 0 ≤ i) : upd (fun j : Nat => zI (f (j : Int))) i.toNat (zI x) = fun j : Nat => zI (zu f i x (j : Int)) := by
  funext j
  unfold upd zu
  by_cases e : j = i.toNat
  · rw [if_pos e, if_pos (by omega)]
  · rw [if_neg e, if_neg (by omega)]
theorem zI_upq (g : zG) (f : Int → Option Int) {i : Int} (x : Int) (h : 0 ≤ i) : va_up (fun j : Nat => (f (j : Int)).map (zad g)) i.toNat (some (zad g x)) = fun j : Nat => (zuq f i (some x) (j : Int)).map (zad g) := by
  funext j
  unfold va_up zuq
  by_cases e : j = i.toNat
  · rw [if_pos e, if_pos (by omega)]; rfl
  · rw [if_neg e, if_neg (by omega)]

theorem zI_ne0 {b : Int} (h : -2147483648 ≤ b ∧ b < 2147483648) (h0 : b ≠ 0) : ¬ zI b = 0 := by
  intro e
  have := (zI_eq (a := b) (b := 0) ⟨h, by omega⟩).mp e
  exact h0 this
theorem zI_divs {a b : Int} (ha : -2147483648 < a ∧ a < 2147483648) (hb : -2147483648 ≤ b ∧ b < 2147483648) : zI a / zI b = zI (a.tdiv b) := by
  apply Int32.toInt_inj.mp
  rw [Int32.toInt_div_of_ne_left, zI_t (by omega), zI_t hb]
  · by_cases h0 : b = 0
    · subst h0
      rw [Int.tdiv_zero]
      rfl
    · have h1 := Int.natAbs_tdiv_le_natAbs a b
      rw [zI_t (by omega)]
  · intro e
    have := congrArg Int32.toInt e
    rw [zI_t (by omega)] at this
    have h2 : Int32.minValue.toInt = -2147483648 := by decide
    omega
theorem zI_div {a b : Int} (ha : 0 ≤ a ∧ a < 2147483648) (hb : 0 < b ∧ b < 2147483648) : zI a / zI b = zI (a / b) := by
  rw [zI_divs (by omega) (by omega), Int.tdiv_eq_ediv_of_nonneg ha.1]
theorem zI_rems {a b : Int} (ha : -2147483648 < a ∧ a < 2147483648) (hb : -2147483648 ≤ b ∧ b < 2147483648) : zI a - zI a / zI b * zI b = zI (a.tmod b) := by
  rw [zI_divs ha hb, ← zI_mul, ← zI_sub]
  congr 1
  have := Int.mul_tdiv_add_tmod a b
  rw [Int.mul_comm] at this
  omega
theorem zI_rem {a b : Int} (ha : 0 ≤ a ∧ a < 2147483648) (hb : 0 < b ∧ b < 2147483648) : zI a - zI a / zI b * zI b = zI (a % b) := by
  rw [zI_rems (by omega) (by omega), Int.tmod_eq_emod_of_nonneg ha.1]
theorem zI_mod {a b : Int} (h : a % 4294967296 = b % 4294967296) : zI a = zI b := by
  apply Int32.toInt_inj.mp
  show (Int32.ofInt a).toInt = (Int32.ofInt b).toInt
  rw [Int32.toInt_ofInt, Int32.toInt_ofInt]
  have e : Int32.size = 4294967296 := rfl
  rw [e]
  unfold Int.bmod
  rw [show ((4294967296 : Nat) : Int) = 4294967296 from rfl, h]
theorem zJ_mod {a b : Int} (h : a % 18446744073709551616 = b % 18446744073709551616) : zJ a = zJ b := by
  apply Int64.toInt_inj.mp
  show (Int64.ofInt a).toInt = (Int64.ofInt b).toInt
  rw [Int64.toInt_ofInt, Int64.toInt_ofInt]
  have e : Int64.size = 18446744073709551616 := rfl
  rw [e]
  unfold Int.bmod
  rw [show ((18446744073709551616 : Nat) : Int) = 18446744073709551616 from rfl, h]
theorem zI_bv (a : Int) : (zI a).toBitVec = BitVec.ofInt 32 a := rfl
theorem zJ_bv (a : Int) : (zJ a).toBitVec = BitVec.ofInt 64 a := rfl
def zand (a b : Int) : Int := (zI a &&& zI b).toInt
def zor (a b : Int) : Int := (zI a ||| zI b).toInt
def zandl (a b : Int) : Int := (zJ a &&& zJ b).toInt
def zorl (a b : Int) : Int := (zJ a ||| zJ b).toInt
theorem zI_and (a b : Int) : zI (zand a b) = zI a &&& zI b := zI_to _
theorem zI_or (a b : Int) : zI (zor a b) = zI a ||| zI b := zI_to _
theorem zJ_and (a b : Int) : zJ (zandl a b) = zJ a &&& zJ b := zJ_to _
theorem zJ_or (a b : Int) : zJ (zorl a b) = zJ a ||| zJ b := zJ_to _
theorem zI_l {a : Int} (h : -2147483648 ≤ a ∧ a < 2147483648) : (zI a).toInt64 = zJ a := by
  apply Int64.toInt_inj.mp
  rw [Int32.toInt_toInt64, zI_t h, zJ_t (by omega)]
theorem zJ_cmp {a b : Int} (h : (-9223372036854775808 ≤ a ∧ a < 9223372036854775808) ∧ (-9223372036854775808 ≤ b ∧ b < 9223372036854775808)) : ∃ r : Int, lg_cmp (zJ a) (zJ b) = zI r ∧ ((a < b ∧ r = -1) ∨ (a = b ∧ r = 0) ∨ (b < a ∧ r = 1)) := by
  have h2 := And.intro h.2 h.1
  rcases Int.lt_trichotomy a b with q | q | q
  · refine ⟨-1, ?_, Or.inl ⟨q, rfl⟩⟩
    have h1 : ¬ zJ b < zJ a := fun z => by have := (zJ_lt h2).mp z; omega
    have h3 : ¬ zJ a = zJ b := fun z => by have := (zJ_eq h).mp z; omega
    simp [lg_cmp, h1, h3]
    rfl
  · subst q
    refine ⟨0, ?_, Or.inr (Or.inl ⟨rfl, rfl⟩)⟩
    simp [lg_cmp]
    rfl
  · refine ⟨1, ?_, Or.inr (Or.inr ⟨q, rfl⟩)⟩
    have h1 : zJ b < zJ a := (zJ_lt h2).mpr q
    simp [lg_cmp, h1]
    rfl
def zb (b : Bool) : Int := if b then 1 else 0
theorem zb_01 (b : Bool) : zb b = 0 ∨ zb b = 1 := by cases b <;> simp [zb]
theorem zI_c {a : Int} (h : 0 ≤ a ∧ a < 65536) : ((zI a).toUInt32 % 65536).toInt32 = zI a := by
  obtain ⟨k, rfl⟩ : ∃ k : Nat, a = k := ⟨a.toNat, by omega⟩
  have e : zI (k : Int) = nI k := Int32.ofInt_eq_ofNat
  rw [e, pk_char, pk_tn (by omega), Nat.mod_eq_of_lt (by omega)]
