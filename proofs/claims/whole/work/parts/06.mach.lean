/-! THE LAYER: integers instead of machine numbers, one world of numbered cells, one row an instruction -/
abbrev zV : Type := Int ⊕ (Int ⊕ (Option Int ⊕ (UInt64 ⊕ UInt32)))
abbrev zi (x : Int) : zV := Sum.inl x
abbrev zl (x : Int) : zV := Sum.inr (Sum.inl x)
abbrev zr (k : Int) : zV := Sum.inr (Sum.inr (Sum.inl (some k)))
abbrev zn : zV := Sum.inr (Sum.inr (Sum.inl none))
abbrev zd (u : UInt64) : zV := Sum.inr (Sum.inr (Sum.inr (Sum.inl u)))
abbrev zf (u : UInt32) : zV := Sum.inr (Sum.inr (Sum.inr (Sum.inr u)))
def zI (x : Int) : Int32 := Int32.ofInt x
def zJ (x : Int) : Int64 := Int64.ofInt x
abbrev zG : Type := (Nat × Nat) × (va_G × (Nat → ClassId))
def zad (g : zG) (k : Int) : Nat := if k = 0 then g.1.1 else g.1.2 + k.toNat
def zv (g : zG) : zV → Value
  | Sum.inl x => .int (zI x)
  | Sum.inr (Sum.inl x) => .long (zJ x)
  | Sum.inr (Sum.inr (Sum.inl o)) => va_rf (o.map (zad g))
  | Sum.inr (Sum.inr (Sum.inr (Sum.inl u))) => .double u
  | Sum.inr (Sum.inr (Sum.inr (Sum.inr u))) => .float u
abbrev zC : Type := (Nat × (Nat × (Int → Int))) ⊕ ((Nat × (Nat × (Int → Option Int))) ⊕ (Nat × List zV))
abbrev zP (t L : Nat) (f : Int → Int) : zC := Sum.inl (t, (L, f))
abbrev zA (L : Nat) (f : Int → Int) : zC := zP 0 L f
abbrev zQ (t L : Nat) (f : Int → Option Int) : zC := Sum.inr (Sum.inl (t, (L, f)))
abbrev zO (c : Nat) (vs : List zV) : zC := Sum.inr (Sum.inr (c, vs))
def zc (g : zG) : zC → va_E
  | Sum.inl a => .inl (g.2.2 a.1, (a.2.1, .inl (fun j => zI (a.2.2 (j : Int)))))
  | Sum.inr (Sum.inl a) => .inl (g.2.2 a.1, (a.2.1, .inr (.inr (.inr (.inr (fun j => (a.2.2 (j : Int)).map (zad g)))))))
  | Sum.inr (Sum.inr o) => .inr (o.1, o.2.map (zv g))
abbrev zS : Type := Int → zC
def zsu (σ : zS) (k : Int) (c : zC) : zS := fun j => if j = k then c else σ j
def zu (f : Int → Int) (k x : Int) : Int → Int := fun j => if j = k then x else f j
def zuq (f : Int → Option Int) (k : Int) (x : Option Int) : Int → Option Int := fun j => if j = k then x else f j
theorem zsu_s (σ : zS) (k : Int) (c : zC) : zsu σ k c k = c := if_pos rfl
theorem zsu_n (σ : zS) {k j : Int} (c : zC) (h : j ≠ k) : zsu σ k c j = σ j := if_neg h
theorem zsu_u (σ : zS) (k : Int) (c d : zC) : zsu (zsu σ k c) k d = zsu σ k d := by
  funext j; unfold zsu; by_cases h : j = k <;> simp [h]
theorem zsu_self {σ : zS} {k : Int} {c : zC} (h : σ k = c) : zsu σ k c = σ := by
  funext j; unfold zsu; by_cases e : j = k
  · subst e; rw [if_pos rfl, h]
  · rw [if_neg e]
theorem zsu_comm (σ : zS) {k j : Int} (c d : zC) (h : k ≠ j) : zsu (zsu σ k c) j d = zsu (zsu σ j d) k c := by
  funext i; unfold zsu; by_cases e : i = j
  · subst e; rw [if_pos rfl, if_neg (fun q => h q.symm), if_pos rfl]
  · rw [if_neg e]; by_cases e2 : i = k
    · rw [if_pos e2, if_pos e2]
    · rw [if_neg e2, if_neg e2, if_neg e]
theorem zu_s (f : Int → Int) (k x : Int) : zu f k x k = x := if_pos rfl
theorem zu_n (f : Int → Int) {k j : Int} (x : Int) (h : j ≠ k) : zu f k x j = f j := if_neg h
def zW (g : zG) (n : Nat) (σ : zS) : va_W := (List.range n).map fun p => (g.1.2 + (p + 1), zc g (σ ((p : Int) + 1)))
theorem zad_pos (g : zG) {k : Int} (h : 0 < k) : zad g k = g.1.2 + k.toNat := if_neg (by omega)
theorem zW_len (g : zG) (n : Nat) (σ : zS) : (zW g n σ).length = n := by simp [zW]
theorem zW_get (g : zG) (n : Nat) (σ : zS) (p : Nat) : (zW g n σ)[p]? = if p < n then some (g.1.2 + (p + 1), zc g (σ ((p : Int) + 1))) else none := by
  by_cases h : p < n
  · simp [zW, h]
  · simp [zW, h]
theorem zW_at (g : zG) {n : Nat} (σ : zS) {k : Int} (h : 0 < k ∧ k ≤ n) : (zW g n σ)[(k - 1).toNat]? = some (zad g k, zc g (σ k)) := by
  rw [zW_get, if_pos (by omega), zad_pos g h.1]
  have e1 : (((k - 1).toNat : Nat) : Int) + 1 = k := by omega
  have e2 : (k - 1).toNat + 1 = k.toNat := by omega
  rw [e1, e2]
theorem zW_set (g : zG) {n : Nat} (σ : zS) {k : Int} (c : zC) (h : 0 < k ∧ k ≤ n) : (zW g n σ).set (k - 1).toNat (zad g k, zc g c) = zW g n (zsu σ k c) := by
  apply List.ext_getElem?
  intro p
  rw [List.getElem?_set, zW_get, zW_get, zW_len]
  by_cases e : (k - 1).toNat = p
  · subst e
    rw [if_pos rfl, if_pos (by omega), if_pos (by omega), zad_pos g h.1]
    have e1 : (((k - 1).toNat : Nat) : Int) + 1 = k := by omega
    have e2 : (k - 1).toNat + 1 = k.toNat := by omega
    rw [e1, e2, zsu_s]
  · rw [if_neg e]
    by_cases hp : p < n
    · rw [if_pos hp, if_pos hp, zsu_n]
      omega
    · rw [if_neg hp, if_neg hp]
theorem zW_push (g : zG) (n : Nat) (σ : zS) (c : zC) : zW g n σ ++ [(g.1.2 + (n + 1), zc g c)] = zW g (n + 1) (zsu σ ((n : Int) + 1) c) := by
  apply List.ext_getElem?
  intro p
  rw [zW_get]
  by_cases hp : p < n
  · rw [List.getElem?_append_left (by rw [zW_len]; exact hp), zW_get, if_pos hp, if_pos (by omega), zsu_n]
    omega
  · rw [List.getElem?_append_right (by rw [zW_len]; omega), zW_len]
    by_cases e : p = n
    · subst e
      rw [if_pos (by omega), zsu_s]
      simp
    · rw [if_neg (by omega)]
      have : p - n = (p - n - 1) + 1 := by omega
      rw [this]
      rfl
def zty (g : zG) : List (ClassId × FieldType) := [(g.2.2 0, .int), (g.2.2 1, .boolean), (g.2.2 2, .char), (g.2.2 3, .object "BlockTrees$Matrix"), (g.2.2 4, .object "BlockTrees$State"), (g.2.2 5, .object "BlockTrees$Slot")]
def zisN : Cond → Bool
  | .fieldLinkNest .. => true
  | .methodLinkNest .. => true
  | _ => false
def zNW : List Cond := lw_tbl.filter zisN
def zGW : List Cond := lw_tbl.filter goodWord
theorem zGW_in {w : Cond} (i : Nat) (h : lw_tbl[i]? = some w) (hg : goodWord w = true) : w ∈ zGW := List.mem_filter.mpr ⟨List.mem_of_getElem? h, hg⟩
theorem zNW_in {w : Cond} (i : Nat) (h : lw_tbl[i]? = some w) (hg : zisN w = true) : w ∈ zNW := List.mem_filter.mpr ⟨List.mem_of_getElem? h, hg⟩
theorem zGW_good : ∀ w ∈ zGW, goodWord w = true := fun _ h => (List.mem_filter.mp h).2
theorem zGoodIn {y : MethodName} {cc : ByteArray} {ml : Nat} {ret : Option FieldType} (h : Cond.code y cc ml ret ∈ zGW) : GoodIn zGW (Cond.code y cc ml ret :: zGW) := by
  intro w hw
  rcases List.mem_cons.mp hw with rfl | hw
  · exact ⟨h, good_of_word (zGW_good _ h)⟩
  · exact ⟨hw, good_of_word (zGW_good _ hw)⟩
def zK (g : zG) (U : State) : Prop := va_K g.2.1 vwCl (zty g) U ∧ (∀ w ∈ zNW, va_Nw w U) ∧ va_AO "BlockTrees$Matrix" U ∧ va_AO "BlockTrees$State" U ∧ va_AO "BlockTrees$Slot" U
theorem zNw_warm {w : Cond} (hw : zisN w = true) {s U : State} (hW : s.WarmedH U.vm) (h : va_Nw w s) : va_Nw w U := by
  cases w with
  | fieldLinkNest a i b n d hh => exact va_Nw.warmF hW h
  | methodLinkNest a i x hh => exact va_Nw.warmM hW h
  | _ => exact absurd hw (by simp [zisN])
theorem zK.warm {g : zG} {s U : State} (hW : s.WarmedH U.vm) (h : zK g s) : zK g U :=
  ⟨va_K.moved hW.alike h.1, fun w hw => zNw_warm (List.mem_filter.mp hw).2 hW (h.2.1 w hw), va_AO.moved hW.alike h.2.2.1, va_AO.moved hW.alike h.2.2.2.1, va_AO.moved hW.alike h.2.2.2.2⟩
theorem zNw_same {w : Cond} (hw : zisN w = true) {u U : State} (e : u.vm = U.vm) (h : va_Nw w u) : va_Nw w U := by
  cases w with
  | fieldLinkNest a i b n d hh => exact va_Nw.same rfl e h
  | methodLinkNest a i x hh => exact va_Nw.same rfl e h
  | _ => exact absurd hw (by simp [zisN])
theorem zK.calling {g : zG} {U : State} (fr : JFrame) (mk : MethodId) (a : Array Value) (h : zK g U) : zK g (U.calling fr mk a) :=
  ⟨va_K.moved (u := U) (U := U.calling fr mk a) (Vm.Alike.refl U.vm) h.1, fun w hw => zNw_same (u := U) (U := U.calling fr mk a) (List.mem_filter.mp hw).2 rfl (h.2.1 w hw), va_AO.moved (u := U) (U := U.calling fr mk a) (Vm.Alike.refl U.vm) h.2.2.1, va_AO.moved (u := U) (U := U.calling fr mk a) (Vm.Alike.refl U.vm) h.2.2.2.1, va_AO.moved (u := U) (U := U.calling fr mk a) (Vm.Alike.refl U.vm) h.2.2.2.2⟩
def zH (g : zG) (n : Nat) (σ : zS) (H : Heap) : Prop := g.1.2 + 1 + n ≤ H.size ∧ g.1.1 ≤ g.1.2 ∧ va_P g.2.1 vwCl (zW g n σ) H
theorem zH.set {g : zG} {n : Nat} {σ : zS} {H H1 : Heap} {o : Int} {c : zC} (h : zH g n σ H) (hk : 0 < o ∧ o ≤ n) (hP : va_P g.2.1 vwCl ((zW g n σ).set (o - 1).toNat (zad g o, zc g c)) H1) : zH g n (zsu σ o c) H1 := by
  rw [zW_set g σ c hk] at hP
  refine ⟨?_, h.2.1, hP⟩
  have hn : 0 < n := by omega
  have h1 := (hP (n - 1) _ (by rw [zW_get, if_pos (by omega)])).lt
  dsimp only at h1
  omega
def zF (g : zG) : Nat → Prop := fun q => g.1.2 < q
theorem zD (g : zG) (n : Nat) (σ : zS) : va_D (zF g) (zW g n σ) := by
  refine ⟨fun i j p q hi hj e => ?_, fun k q hk => ?_⟩
  · rw [zW_get] at hi hj
    by_cases h1 : i < n
    · by_cases h2 : j < n
      · rw [if_pos h1] at hi
        rw [if_pos h2] at hj
        cases hi
        cases hj
        dsimp only at e
        omega
      · rw [if_neg h2] at hj
        cases hj
    · rw [if_neg h1] at hi
      cases hi
  · rw [zW_get] at hk
    by_cases h1 : k < n
    · rw [if_pos h1] at hk
      cases hk
      show g.1.2 < _
      omega
    · rw [if_neg h1] at hk
      cases hk
/-- the locals, by their places -/
def zg : List (Option zV) → Nat → Option zV
  | [], _ => none
  | o :: _, 0 => o
  | _ :: t, i + 1 => zg t i
def zkill : Option zV → Option zV
  | some (Sum.inr (Sum.inl _)) => none
  | some (Sum.inr (Sum.inr (Sum.inr (Sum.inl _)))) => none
  | o => o
def zs1 : List (Option zV) → Nat → zV → List (Option zV)
  | [], _, _ => []
  | _ :: t, 0, v => some v :: t
  | o :: t, 1, v => zkill o :: zs1 t 0 v
  | o :: t, i + 2, v => o :: zs1 t (i + 1) v
def zhid : List (Option zV) → List (Option zV)
  | [] => []
  | _ :: t => none :: t
def zs2 : List (Option zV) → Nat → zV → List (Option zV)
  | [], _, _ => []
  | _ :: t, 0, v => some v :: zhid t
  | o :: t, 1, v => zkill o :: zs2 t 0 v
  | o :: t, i + 2, v => o :: zs2 t (i + 1) v
def zwide : zV → Bool
  | Sum.inr (Sum.inl _) => true
  | Sum.inr (Sum.inr (Sum.inr (Sum.inl _))) => true
  | _ => false
theorem zcat_wide (g : zG) (v : zV) : (zv g v).category = 2 ↔ zwide v = true := by
  rcases v with x | x | x | x | x
  · simp [zv, zwide, Value.category]
  · simp [zv, zwide, Value.category]
  · cases x <;> simp [zv, zwide, Value.category, va_rf]
  · simp [zv, zwide, Value.category]
  · simp [zv, zwide, Value.category]
theorem zkill_some {o : Option zV} {u : zV} (h : zkill o = some u) : o = some u ∧ zwide u = false := by
  rcases o with _ | (x | x | x | x | x)
  · cases h
  · cases h; exact ⟨rfl, rfl⟩
  · cases h
  · cases h; exact ⟨rfl, rfl⟩
  · cases h
  · cases h; exact ⟨rfl, rfl⟩
theorem zs1_get : ∀ (L : List (Option zV)) (i : Nat) (v : zV) (j : Nat) (u : zV), zg (zs1 L i v) j = some u → (j = i ∧ u = v) ∨ (j ≠ i ∧ zg L j = some u ∧ ¬ (j + 1 = i ∧ zwide u = true))
  | [], i, v, j, u, h => by cases h
  | o :: t, 0, v, 0, u, h => by cases h; exact Or.inl ⟨rfl, rfl⟩
  | o :: t, 0, v, j + 1, u, h => Or.inr ⟨by omega, h, by omega⟩
  | o :: t, 1, v, 0, u, h => by
    have := zkill_some (o := o) (u := u) h
    exact Or.inr ⟨by omega, this.1, fun q => by rw [this.2] at q; exact absurd q.2 (by decide)⟩
  | o :: t, 1, v, j + 1, u, h => by
    rcases zs1_get t 0 v j u h with ⟨a, b⟩ | ⟨a, b, c⟩
    · exact Or.inl ⟨by omega, b⟩
    · exact Or.inr ⟨by omega, b, by omega⟩
  | o :: t, i + 2, v, 0, u, h => Or.inr ⟨by omega, h, by omega⟩
  | o :: t, i + 2, v, j + 1, u, h => by
    rcases zs1_get t (i + 1) v j u h with ⟨a, b⟩ | ⟨a, b, c⟩
    · exact Or.inl ⟨by omega, b⟩
    · exact Or.inr ⟨by omega, b, fun q => c ⟨by omega, q.2⟩⟩
theorem zhid_get (L : List (Option zV)) (j : Nat) (u : zV) (h : zg (zhid L) j = some u) : j ≠ 0 ∧ zg L j = some u := by
  cases L with
  | nil => cases h
  | cons o t =>
    cases j with
    | zero => cases h
    | succ j => exact ⟨by omega, h⟩
theorem zs2_get : ∀ (L : List (Option zV)) (i : Nat) (v : zV) (j : Nat) (u : zV), zg (zs2 L i v) j = some u → (j = i ∧ u = v) ∨ (j ≠ i ∧ j ≠ i + 1 ∧ zg L j = some u ∧ ¬ (j + 1 = i ∧ zwide u = true))
  | [], i, v, j, u, h => by cases h
  | o :: t, 0, v, 0, u, h => by cases h; exact Or.inl ⟨rfl, rfl⟩
  | o :: t, 0, v, j + 1, u, h => by
    have := zhid_get t j u h
    exact Or.inr ⟨by omega, by omega, this.2, by omega⟩
  | o :: t, 1, v, 0, u, h => by
    have := zkill_some (o := o) (u := u) h
    exact Or.inr ⟨by omega, by omega, this.1, fun q => by rw [this.2] at q; exact absurd q.2 (by decide)⟩
  | o :: t, 1, v, j + 1, u, h => by
    rcases zs2_get t 0 v j u h with ⟨a, b⟩ | ⟨a, a2, b, c⟩
    · exact Or.inl ⟨by omega, b⟩
    · exact Or.inr ⟨by omega, by omega, b, by omega⟩
  | o :: t, i + 2, v, 0, u, h => Or.inr ⟨by omega, by omega, h, by omega⟩
  | o :: t, i + 2, v, j + 1, u, h => by
    rcases zs2_get t (i + 1) v j u h with ⟨a, b⟩ | ⟨a, a2, b, c⟩
    · exact Or.inl ⟨by omega, b⟩
    · exact Or.inr ⟨by omega, by omega, b, fun q => c ⟨by omega, q.2⟩⟩
def zlst (g : zG) : Nat → List (Option zV) → List (Nat × Value)
  | _, [] => []
  | i, none :: t => zlst g (i + 1) t
  | i, some v :: t => (i, zv g v) :: zlst g (i + 1) t
theorem zlst_in (g : zG) : ∀ (L : List (Option zV)) (i j : Nat) (u : zV), zg L j = some u → (i + j, zv g u) ∈ zlst g i L
  | [], i, j, u, h => by cases h
  | none :: t, i, 0, u, h => by cases h
  | some v :: t, i, 0, u, h => by cases h; exact List.mem_cons_self
  | none :: t, i, j + 1, u, h => by
    have := zlst_in g t (i + 1) j u h
    rw [show i + (j + 1) = i + 1 + j by omega]
    exact this
  | some v :: t, i, j + 1, u, h => by
    have := zlst_in g t (i + 1) j u h
    rw [show i + (j + 1) = i + 1 + j by omega]
    exact List.mem_cons_of_mem _ this
theorem zlst_of (g : zG) : ∀ (L : List (Option zV)) (i : Nat) (q : Nat × Value), q ∈ zlst g i L → ∃ (j : Nat) (u : zV), q = (i + j, zv g u) ∧ zg L j = some u
  | [], i, q, h => by cases h
  | none :: t, i, q, h => by
    obtain ⟨j, u, e, hu⟩ := zlst_of g t (i + 1) q h
    exact ⟨j + 1, u, by rw [e, show i + (j + 1) = i + 1 + j by omega], hu⟩
  | some v :: t, i, q, h => by
    rcases List.mem_cons.mp h with rfl | h
    · exact ⟨0, v, rfl, rfl⟩
    · obtain ⟨j, u, e, hu⟩ := zlst_of g t (i + 1) q h
      exact ⟨j + 1, u, by rw [e, show i + (j + 1) = i + 1 + j by omega], hu⟩
def zL (g : zG) (ls : Array Slot) (ml : Nat) (L : List (Option zV)) : Prop := lv_has ls ml (zlst g 0 L)
theorem zL.at {g : zG} {ls : Array Slot} {ml : Nat} {L : List (Option zV)} (h : zL g ls ml L) {i : Nat} {v : zV} (hv : zg L i = some v) : ls[i]? = some (.val (zv g v)) := by
  have := h.2.2 _ (zlst_in g L 0 i v hv)
  rwa [Nat.zero_add] at this
theorem zL.of {g : zG} {ls : Array Slot} {ml : Nat} {L : List (Option zV)} {l : List (Nat × Value)} (h : lv_has ls ml l) (hs : ∀ (j : Nat) (u : zV), zg L j = some u → (j, zv g u) ∈ l) : zL g ls ml L := by
  refine ⟨h.1, h.2.1, fun q hq => ?_⟩
  obtain ⟨j, u, e, hu⟩ := zlst_of g L 0 q hq
  rw [Nat.zero_add] at e
  subst e
  exact h.2.2 _ (hs j u hu)
theorem zL.weak {g : zG} {ls : Array Slot} {ml : Nat} {L L' : List (Option zV)} (h : zL g ls ml L) (hs : ∀ (j : Nat) (u : zV), zg L' j = some u → zg L j = some u) : zL g ls ml L' :=
  zL.of h fun j u hu => by
    have := zlst_in g L 0 j u (hs j u hu)
    rwa [Nat.zero_add] at this
theorem zL.st1 {g : zG} {ls : Array Slot} {ml : Nat} {L : List (Option zV)} {i : Nat} {v : zV} (h : lv_has ls ml ((i, zv g v) :: (zlst g 0 L).filter (fun q => !(q.1 == i) && !(q.1 + 1 == i && q.2.category == 2)))) : zL g ls ml (zs1 L i v) := by
  refine zL.of h fun j u hu => ?_
  rcases zs1_get L i v j u hu with ⟨a, b⟩ | ⟨a, b, c⟩
  · subst a; subst b; exact List.mem_cons_self
  · refine List.mem_cons_of_mem _ (List.mem_filter.mpr ⟨?_, ?_⟩)
    · have := zlst_in g L 0 j u b
      rwa [Nat.zero_add] at this
    · simp only [Bool.and_eq_true, Bool.not_eq_true', beq_eq_false_iff_ne, ne_eq, Bool.and_eq_false_iff]
      refine ⟨a, ?_⟩
      by_cases e : j + 1 = i
      · exact Or.inr (fun q => c ⟨e, (zcat_wide g u).mp q⟩)
      · exact Or.inl e
theorem zL.st2 {g : zG} {ls : Array Slot} {ml : Nat} {L : List (Option zV)} {i : Nat} {v : zV} (h : lv_has ls ml ((i, zv g v) :: (zlst g 0 L).filter (fun q => !(q.1 == i) && (!(q.1 == i + 1) && !(q.1 + 1 == i && q.2.category == 2))))) : zL g ls ml (zs2 L i v) := by
  refine zL.of h fun j u hu => ?_
  rcases zs2_get L i v j u hu with ⟨a, b⟩ | ⟨a, a2, b, c⟩
  · subst a; subst b; exact List.mem_cons_self
  · refine List.mem_cons_of_mem _ (List.mem_filter.mpr ⟨?_, ?_⟩)
    · have := zlst_in g L 0 j u b
      rwa [Nat.zero_add] at this
    · simp only [Bool.and_eq_true, Bool.not_eq_true', beq_eq_false_iff_ne, ne_eq, Bool.and_eq_false_iff]
      refine ⟨a, a2, ?_⟩
      by_cases e : j + 1 = i
      · exact Or.inr (fun q => c ⟨e, (zcat_wide g u).mp q⟩)
      · exact Or.inl e
/-! numbers -/
theorem zI_add (a b : Int) : zI (a + b) = zI a + zI b := Int32.ofInt_add
theorem zI_sub (a b : Int) : zI (a - b) = zI a - zI b := Int32.ofInt_sub
theorem zI_mul (a b : Int) : zI (a * b) = zI a * zI b := Int32.ofInt_mul
theorem zI_neg (a : Int) : zI (-a) = -zI a := Int32.ofInt_neg
theorem zJ_add (a b : Int) : zJ (a + b) = zJ a + zJ b := Int64.ofInt_add
theorem zJ_sub (a b : Int) : zJ (a - b) = zJ a - zJ b := Int64.ofInt_sub
theorem zJ_mul (a b : Int) : zJ (a * b) = zJ a * zJ b := Int64.ofInt_mul
theorem zJ_neg (a : Int) : zJ (-a) = -zJ a := Int64.ofInt_neg
theorem zI_t {a : Int} (h : -2147483648 ≤ a ∧ a < 2147483648) : (zI a).toInt = a := Int32.toInt_ofInt_of_le h.1 h.2
theorem zJ_t {a : Int} (h : -9223372036854775808 ≤ a ∧ a < 9223372036854775808) : (zJ a).toInt = a := Int64.toInt_ofInt_of_le h.1 h.2
theorem zI_to (x : Int32) : zI x.toInt = x := Int32.ofInt_toInt x
theorem zJ_to (x : Int64) : zJ x.toInt = x := Int64.ofInt_toInt x
theorem zI_lt {a b : Int} (h : (-2147483648 ≤ a ∧ a < 2147483648) ∧ (-2147483648 ≤ b ∧ b < 2147483648)) : zI a < zI b ↔ a < b := by
  rw [Int32.lt_iff_toInt_lt, zI_t h.1, zI_t h.2]
theorem zI_le {a b : Int} (h : (-2147483648 ≤ a ∧ a < 2147483648) ∧ (-2147483648 ≤ b ∧ b < 2147483648)) : zI a ≤ zI b ↔ a ≤ b := by
  rw [Int32.le_iff_toInt_le, zI_t h.1, zI_t h.2]
theorem zI_eq {a b : Int} (h : (-2147483648 ≤ a ∧ a < 2147483648) ∧ (-2147483648 ≤ b ∧ b < 2147483648)) : zI a = zI b ↔ a = b := by
  refine ⟨fun e => ?_, fun e => by rw [e]⟩
  have := congrArg Int32.toInt e
  rwa [zI_t h.1, zI_t h.2] at this
theorem zJ_lt {a b : Int} (h : (-9223372036854775808 ≤ a ∧ a < 9223372036854775808) ∧ (-9223372036854775808 ≤ b ∧ b < 9223372036854775808)) : zJ a < zJ b ↔ a < b := by
  rw [Int64.lt_iff_toInt_lt, zJ_t h.1, zJ_t h.2]
theorem zJ_eq {a b : Int} (h : (-9223372036854775808 ≤ a ∧ a < 9223372036854775808) ∧ (-9223372036854775808 ≤ b ∧ b < 9223372036854775808)) : zJ a = zJ b ↔ a = b := by
  refine ⟨fun e => ?_, fun e => by rw [e]⟩
  have := congrArg Int64.toInt e
  rwa [zJ_t h.1, zJ_t h.2] at this
theorem zI_0 : zI 0 = 0 := rfl
theorem zI_in {i : Int} {L : Nat} (h : 0 ≤ i ∧ i < L) (hL : L < 2147483648) : vp_in (zI i) L := by
  rw [vp_in_iff, zI_t (by omega)]
  exact h
theorem zI_cl {i : Int} (h : 0 ≤ i ∧ i < 2147483648) : (zI i).toNatClampNeg = i.toNat := by
  show (zI i).toInt.toNat = _
  rw [zI_t (by omega)]
theorem zI_upd (f : Int → Int) {i : Int} (x : Int) (h : 0 ≤ i) : upd (fun j : Nat => zI (f (j : Int))) i.toNat (zI x) = fun j : Nat => zI (zu f i x (j : Int)) := by
  funext j
  unfold upd zu
  by_cases e : j = i.toNat
  · rw [if_pos e, if_pos (by omega)]
  · rw [if_neg e, if_neg (by omega)]
theorem zI_upq (g : zG) (f : Int → Option Int) {i : Int} (x : Int) (h : 0 ≤ i) : va_up (fun j : Nat => (f (j : Int)).map (zad g)) i.toNat (some (zad g x)) = fun j : Nat => (zuq f i (some x) (j : Int)).map (zad g) := by
  funext j
  unfold va_up zuq
  by_cases e : j = i.toNat
  · rw [if_pos e, if_pos (by omega)]; rfl
  · rw [if_neg e, if_neg (by omega)]

theorem zI_ne0 {b : Int} (h : -2147483648 ≤ b ∧ b < 2147483648) (h0 : b ≠ 0) : ¬ zI b = 0 := by
  intro e
  have := (zI_eq (a := b) (b := 0) ⟨h, by omega⟩).mp e
  exact h0 this
theorem zI_divs {a b : Int} (ha : -2147483648 < a ∧ a < 2147483648) (hb : -2147483648 ≤ b ∧ b < 2147483648) : zI a / zI b = zI (a.tdiv b) := by
  apply Int32.toInt_inj.mp
  rw [Int32.toInt_div_of_ne_left, zI_t (by omega), zI_t hb]
  · by_cases h0 : b = 0
    · subst h0
      rw [Int.tdiv_zero]
      rfl
    · have h1 := Int.natAbs_tdiv_le_natAbs a b
      rw [zI_t (by omega)]
  · intro e
    have := congrArg Int32.toInt e
    rw [zI_t (by omega)] at this
    have h2 : Int32.minValue.toInt = -2147483648 := by decide
    omega
theorem zI_div {a b : Int} (ha : 0 ≤ a ∧ a < 2147483648) (hb : 0 < b ∧ b < 2147483648) : zI a / zI b = zI (a / b) := by
  rw [zI_divs (by omega) (by omega), Int.tdiv_eq_ediv_of_nonneg ha.1]
theorem zI_rems {a b : Int} (ha : -2147483648 < a ∧ a < 2147483648) (hb : -2147483648 ≤ b ∧ b < 2147483648) : zI a - zI a / zI b * zI b = zI (a.tmod b) := by
  rw [zI_divs ha hb, ← zI_mul, ← zI_sub]
  congr 1
  have := Int.mul_tdiv_add_tmod a b
  rw [Int.mul_comm] at this
  omega
theorem zI_rem {a b : Int} (ha : 0 ≤ a ∧ a < 2147483648) (hb : 0 < b ∧ b < 2147483648) : zI a - zI a / zI b * zI b = zI (a % b) := by
  rw [zI_rems (by omega) (by omega), Int.tmod_eq_emod_of_nonneg ha.1]
theorem zI_mod {a b : Int} (h : a % 4294967296 = b % 4294967296) : zI a = zI b := by
  apply Int32.toInt_inj.mp
  show (Int32.ofInt a).toInt = (Int32.ofInt b).toInt
  rw [Int32.toInt_ofInt, Int32.toInt_ofInt]
  have e : Int32.size = 4294967296 := rfl
  rw [e]
  unfold Int.bmod
  rw [show ((4294967296 : Nat) : Int) = 4294967296 from rfl, h]
theorem zJ_mod {a b : Int} (h : a % 18446744073709551616 = b % 18446744073709551616) : zJ a = zJ b := by
  apply Int64.toInt_inj.mp
  show (Int64.ofInt a).toInt = (Int64.ofInt b).toInt
  rw [Int64.toInt_ofInt, Int64.toInt_ofInt]
  have e : Int64.size = 18446744073709551616 := rfl
  rw [e]
  unfold Int.bmod
  rw [show ((18446744073709551616 : Nat) : Int) = 18446744073709551616 from rfl, h]
theorem zI_bv (a : Int) : (zI a).toBitVec = BitVec.ofInt 32 a := rfl
theorem zJ_bv (a : Int) : (zJ a).toBitVec = BitVec.ofInt 64 a := rfl
def zand (a b : Int) : Int := (zI a &&& zI b).toInt
def zor (a b : Int) : Int := (zI a ||| zI b).toInt
def zandl (a b : Int) : Int := (zJ a &&& zJ b).toInt
def zorl (a b : Int) : Int := (zJ a ||| zJ b).toInt
theorem zI_and (a b : Int) : zI (zand a b) = zI a &&& zI b := zI_to _
theorem zI_or (a b : Int) : zI (zor a b) = zI a ||| zI b := zI_to _
theorem zJ_and (a b : Int) : zJ (zandl a b) = zJ a &&& zJ b := zJ_to _
theorem zJ_or (a b : Int) : zJ (zorl a b) = zJ a ||| zJ b := zJ_to _
theorem zI_l {a : Int} (h : -2147483648 ≤ a ∧ a < 2147483648) : (zI a).toInt64 = zJ a := by
  apply Int64.toInt_inj.mp
  rw [Int32.toInt_toInt64, zI_t h, zJ_t (by omega)]
theorem zJ_cmp {a b : Int} (h : (-9223372036854775808 ≤ a ∧ a < 9223372036854775808) ∧ (-9223372036854775808 ≤ b ∧ b < 9223372036854775808)) : ∃ r : Int, lg_cmp (zJ a) (zJ b) = zI r ∧ ((a < b ∧ r = -1) ∨ (a = b ∧ r = 0) ∨ (b < a ∧ r = 1)) := by
  have h2 := And.intro h.2 h.1
  rcases Int.lt_trichotomy a b with q | q | q
  · refine ⟨-1, ?_, Or.inl ⟨q, rfl⟩⟩
    have h1 : ¬ zJ b < zJ a := fun z => by have := (zJ_lt h2).mp z; omega
    have h3 : ¬ zJ a = zJ b := fun z => by have := (zJ_eq h).mp z; omega
    simp [lg_cmp, h1, h3]
    rfl
  · subst q
    refine ⟨0, ?_, Or.inr (Or.inl ⟨rfl, rfl⟩)⟩
    simp [lg_cmp]
    rfl
  · refine ⟨1, ?_, Or.inr (Or.inr ⟨q, rfl⟩)⟩
    have h1 : zJ b < zJ a := (zJ_lt h2).mpr q
    simp [lg_cmp, h1]
    rfl
def zb (b : Bool) : Int := if b then 1 else 0
theorem zb_01 (b : Bool) : zb b = 0 ∨ zb b = 1 := by cases b <;> simp [zb]
theorem zI_c {a : Int} (h : 0 ≤ a ∧ a < 65536) : ((zI a).toUInt32 % 65536).toInt32 = zI a := by
  obtain ⟨k, rfl⟩ : ∃ k : Nat, a = k := ⟨a.toNat, by omega⟩
  have e : zI (k : Int) = nI k := Int32.ofInt_eq_ofNat
  rw [e, pk_char, pk_tn (by omega), Nat.mod_eq_of_lt (by omega)]
/-! shifts -/
theorem zmm (a : Int) (M p : Nat) : ((a % (M : Int)).toNat * p) % M = ((a * (p : Int)) % (M : Int)).toNat := by
  by_cases h0 : M = 0
  · subst h0
    simp
    rcases Int.lt_or_le a 0 with h | h
    · rw [show a.toNat = 0 by omega]
      have : a * (p : Int) ≤ 0 := Int.mul_nonpos_of_nonpos_of_nonneg (by omega) (by omega)
      omega
    · obtain ⟨k, rfl⟩ : ∃ k : Nat, a = k := ⟨a.toNat, by omega⟩
      rw [← Int.natCast_mul]
      simp
  · have h1 : (0 : Int) ≤ a % (M : Int) := Int.emod_nonneg _ (by omega)
    obtain ⟨r, hr⟩ : ∃ r : Nat, a % (M : Int) = r := ⟨(a % (M : Int)).toNat, by omega⟩
    have e : (a * (p : Int)) % (M : Int) = ((r * p % M : Nat) : Int) := by
      rw [Int.mul_emod, hr, Int.natCast_emod, Int.natCast_mul, Int.mul_emod (r : Int)]
      congr 2
      rw [← hr, Int.emod_emod_of_dvd _ (Int.dvd_refl _)]
    rw [e, hr, Int.toNat_natCast, Int.toNat_natCast]
theorem zsh32 : ∀ k : Nat, k < 32 → ((zI (k : Int)) &&& 31).toBitVec.smod 32 = BitVec.ofNat 32 k := by decide +kernel
theorem zsh64 : ∀ k : Nat, k < 64 → ((zI (k : Int)).toInt64 &&& 63).toBitVec.smod 64 = BitVec.ofNat 64 k := by decide +kernel
theorem zsu64 : ∀ k : Nat, k < 64 → ((zI (k : Int)).toInt64.toUInt64 &&& Int64.toUInt64 63).toNat % 64 = k := by decide +kernel
theorem zI_shl (a : Int) {b : Int} (h : 0 ≤ b ∧ b < 32) : zI a <<< (zI b &&& 31) = zI (a * 2 ^ b.toNat) := by
  obtain ⟨k, rfl⟩ : ∃ k : Nat, b = k := ⟨b.toNat, by omega⟩
  have hk : k < 32 := by omega
  rw [Int.toNat_natCast]
  apply Int32.toBitVec_inj.mp
  apply BitVec.eq_of_toNat_eq
  rw [pk_shl _ _ k (by rw [zsh32 k hk, BitVec.toNat_ofNat, Nat.mod_eq_of_lt (by omega)]), zI_bv, zI_bv, BitVec.toNat_ofInt, BitVec.toNat_ofInt, zmm, Int.natCast_pow]
  rfl
theorem zI_shr {a b : Int} (ha : -2147483648 ≤ a ∧ a < 2147483648) (h : 0 ≤ b ∧ b < 32) : zI a >>> (zI b &&& 31) = zI (a / 2 ^ b.toNat) := by
  obtain ⟨k, rfl⟩ : ∃ k : Nat, b = k := ⟨b.toNat, by omega⟩
  have hk : k < 32 := by omega
  rw [Int.toNat_natCast]
  have hp : (0 : Int) < 2 ^ k := Int.pow_pos (by decide)
  have hb : -2147483648 ≤ a / 2 ^ k ∧ a / 2 ^ k < 2147483648 := by
    rcases Int.lt_or_le a 0 with h0 | h0
    · have h1 : a ≤ a / 2 ^ k := by
        apply Int.le_ediv_of_mul_le hp
        have : a * 2 ^ k ≤ a * 1 := Int.mul_le_mul_of_nonpos_left (by omega) (by omega)
        omega
      have h2 : a / 2 ^ k < 0 := Int.ediv_neg_of_neg_of_pos h0 hp
      omega
    · have h1 : a / 2 ^ k ≤ a := Int.ediv_le_self _ h0
      have h2 : 0 ≤ a / 2 ^ k := Int.ediv_nonneg h0 (by omega)
      omega
  apply Int32.toInt_inj.mp
  rw [pk_shr _ _ k (by rw [zsh32 k hk, BitVec.toNat_ofNat, Nat.mod_eq_of_lt (by omega)]), zI_t ha, zI_t hb, Int.shiftRight_eq_div_pow, Int.natCast_pow]
  rfl
theorem zJ_shl (a : Int) {b : Int} (h : 0 ≤ b ∧ b < 64) : zJ a <<< ((zI b).toInt64 &&& 63) = zJ (a * 2 ^ b.toNat) := by
  obtain ⟨k, rfl⟩ : ∃ k : Nat, b = k := ⟨b.toNat, by omega⟩
  have hk : k < 64 := by omega
  rw [Int.toNat_natCast]
  apply Int64.toBitVec_inj.mp
  apply BitVec.eq_of_toNat_eq
  rw [Int64.toBitVec_shiftLeft, zsh64 k hk, BitVec.shiftLeft_eq', BitVec.toNat_shiftLeft, Nat.shiftLeft_eq, BitVec.toNat_ofNat, Nat.mod_eq_of_lt (show k < 2 ^ 64 by omega), zJ_bv, zJ_bv, BitVec.toNat_ofInt, BitVec.toNat_ofInt, zmm, Int.natCast_pow]
  rfl
theorem zJ_shr {a b : Int} (ha : -9223372036854775808 ≤ a ∧ a < 9223372036854775808) (h : 0 ≤ b ∧ b < 64) : zJ a >>> ((zI b).toInt64 &&& 63) = zJ (a / 2 ^ b.toNat) := by
  obtain ⟨k, rfl⟩ : ∃ k : Nat, b = k := ⟨b.toNat, by omega⟩
  have hk : k < 64 := by omega
  rw [Int.toNat_natCast]
  have hp : (0 : Int) < 2 ^ k := Int.pow_pos (by decide)
  have hb : -9223372036854775808 ≤ a / 2 ^ k ∧ a / 2 ^ k < 9223372036854775808 := by
    rcases Int.lt_or_le a 0 with h0 | h0
    · have h1 : a ≤ a / 2 ^ k := by
        apply Int.le_ediv_of_mul_le hp
        have : a * 2 ^ k ≤ a * 1 := Int.mul_le_mul_of_nonpos_left (by omega) (by omega)
        omega
      have h2 : a / 2 ^ k < 0 := Int.ediv_neg_of_neg_of_pos h0 hp
      omega
    · have h1 : a / 2 ^ k ≤ a := Int.ediv_le_self _ h0
      have h2 : 0 ≤ a / 2 ^ k := Int.ediv_nonneg h0 (by omega)
      omega
  apply Int64.toInt_inj.mp
  show ((zJ a).toBitVec.sshiftRight (((zI (k : Int)).toInt64 &&& 63).toBitVec.smod 64).toNat).toInt = _
  rw [zsh64 k hk, BitVec.toNat_ofNat, Nat.mod_eq_of_lt (show k < 2 ^ 64 by omega), BitVec.toInt_sshiftRight, Int.shiftRight_eq_div_pow]
  show (zJ a).toInt / _ = _
  rw [zJ_t ha, zJ_t hb, Int.natCast_pow]
  rfl
theorem zJ_ushr (a : Int) {b : Int} (h : 0 ≤ b ∧ b < 64) : ((zJ a).toUInt64 >>> ((zI b).toInt64.toUInt64 &&& Int64.toUInt64 63)).toInt64 = zJ ((a % 18446744073709551616) / 2 ^ b.toNat) := by
  obtain ⟨k, rfl⟩ : ∃ k : Nat, b = k := ⟨b.toNat, by omega⟩
  have hk : k < 64 := by omega
  rw [Int.toNat_natCast]
  apply Int64.toBitVec_inj.mp
  apply BitVec.eq_of_toNat_eq
  show ((zJ a).toUInt64 >>> ((zI (k : Int)).toInt64.toUInt64 &&& Int64.toUInt64 63)).toNat = _
  rw [UInt64.toNat_shiftRight, zsu64 k hk, Nat.shiftRight_eq_div_pow, zJ_bv, BitVec.toNat_ofInt]
  show (zJ a).toBitVec.toNat / _ = _
  rw [zJ_bv, BitVec.toNat_ofInt]
  obtain ⟨r, hr⟩ : ∃ r : Nat, a % 18446744073709551616 = r := ⟨(a % 18446744073709551616).toNat, by omega⟩
  have hrl : r < 18446744073709551616 := by omega
  have e1 : a % ((2 ^ 64 : Nat) : Int) = (r : Int) := hr
  have e2 : (r : Int) / 2 ^ k = ((r / 2 ^ k : Nat) : Int) := by rw [Int.natCast_ediv, Int.natCast_pow]; rfl
  rw [e1, hr, e2, Int.toNat_natCast]
  have h3 : r / 2 ^ k ≤ r := Nat.div_le_self _ _
  rw [Int.emod_eq_of_lt (by omega) (by show ((r / 2 ^ k : Nat) : Int) < 18446744073709551616; omega), Int.toNat_natCast]
/-! contracts, and the judgement of a method's body -/
abbrev zRT : Type := Option zV → Nat → zS → Nat → Prop
abbrev zKT : Type := Nat → List (Option zV) → List zV → Nat → zS → Nat → Prop
def zPre (g : zG) (n : Nat) (σ : zS) (as : List zV) : Array Value → State → Prop := va_Pc (as.map (zv g)) (fun U => U.heap.size = g.1.2 + 1 + n ∧ zH g n σ U.heap ∧ zK g U)
def zPost (g : zG) (r : Option zV) (n : Nat) (σ : zS) : Array Value → State → Outcome → State → Prop := fun _ s o t => o = .returned (r.map (zv g)) ∧ zH g n σ t.heap ∧ va_F (zF g) s t
def zRm (h mc ms : Nat) : Room := { frames := h, cells := mc, slots := ms, locals := 64 * h }
def zCt (h mc ms : Nat) (y : MethodName) (cc : ByteArray) (ml : Nat) (ret : Option FieldType) (as : List zV) (n : Nat) (σ : zS) (r : Option zV) (n' : Nat) (σ' : zS) : Prop :=
  ∀ (l : Launch) (g : zG), Met l y (Cond.code y cc ml ret :: zGW) (zRm h mc ms) (zPre g n σ as) (zPost g r n' σ') mc ms (zF g)
def zRt (cc : ByteArray) (ret : Option FieldType) (v : Option zV) (pc : Nat) (st : List zV) : Prop :=
  (decode cc pc = .ok (.return_, 1) ∧ ret = none ∧ v = none ∧ st = []) ∨ (decode cc pc = .ok (.ireturn, 1) ∧ ret = some .int ∧ ∃ x : Int, v = some (zi x) ∧ st = [zi x]) ∨
  (decode cc pc = .ok (.ireturn, 1) ∧ ret = some .boolean ∧ ∃ x : Int, (x = 0 ∨ x = 1) ∧ v = some (zi x) ∧ st = [zi x]) ∨ (decode cc pc = .ok (.lreturn, 1) ∧ ret = some .long ∧ ∃ x : Int, v = some (zl x) ∧ st = [zl x])
def zX (y : MethodName) (cc : ByteArray) (ml : Nat) (ret : Option FieldType) (h mc ms n0 : Nat) (Ret : zRT) (K : zKT) : Prop :=
  ∃ (p : Program) (l : Launch) (e : Env) (R : Room) (s : State) (m : MethodId) (args : Array Value) (below : List Frame) (meth : Method) (c : Code) (Q : State → Prop) (g : zG),
    (p.tables.exec = Jvm.exec ∧ c.code = cc ∧ c.maxLocals = ml ∧ s.vm.findClass y.cls = some m.cls ∧ (∀ w ∈ zGW, w.before args s = true) ∧ zK g s ∧ meth.name = y.name) ∧
    (h ≤ R.frames ∧ 64 * h ≤ R.locals ∧ mc ≤ R.cells ∧ ms ≤ R.slots) ∧ s.heap.size = g.1.2 + 1 + n0 ∧
    K = (fun pc Lo st n σ w => ∀ (ls : Array Slot) (H : Heap) (locs : List Loc), (n0 ≤ n ∧ n - n0 ≤ mc ∧ w ≤ ms) → zL g ls ml Lo → zH g n σ H → va_S (zF g) s.heap H locs → W p l e R s m args below meth c H locs (n - n0) w Q (F0 m pc ls (st.map (zv g)))) ∧
    (∀ v pc Lo st n σ w, zRt cc ret v pc st → Ret v n σ w → K pc Lo st n σ w)
/-- a value's slots -/
def zsl : List zV → List (Option zV)
  | [] => []
  | v :: t => if zwide v then some v :: none :: zsl t else some v :: zsl t
def zen (ml : Nat) (as : List zV) : List (Option zV) := zsl as ++ List.replicate (ml - (zsl as).length) none
theorem zsl_len (g : zG) : ∀ as : List zV, (lg_sl (as.map (zv g))).length = (zsl as).length
  | [] => rfl
  | v :: t => by
    have ih := zsl_len g t
    by_cases h : zwide v = true
    · have hc := (zcat_wide g v).mpr h
      simp [lg_sl, zsl, h, hc] at ih ⊢
      omega
    · have hc : ¬ (zv g v).category = 2 := fun q => h ((zcat_wide g v).mp q)
      simp [lg_sl, zsl, h, hc] at ih ⊢
      omega
theorem zsl_args (g : zG) : ∀ (as : List zV) (i j : Nat) (u : zV), zg (zsl as) j = some u → (i + j, zv g u) ∈ lv_args i (as.map (zv g))
  | [], i, j, u, h => by cases h
  | v :: t, i, j, u, h => by
    by_cases hw : zwide v = true
    · have hc := (zcat_wide g v).mpr hw
      have e : zsl (v :: t) = some v :: none :: zsl t := by simp [zsl, hw]
      rw [e] at h
      match j, h with
      | 0, h => cases h; simp [lv_args]
      | 1, h => cases h
      | j + 2, h =>
        have := zsl_args g t (i + 2) j u h
        simp only [List.map_cons, lv_args, hc]
        rw [show i + (j + 2) = i + 2 + j by omega]
        exact List.mem_cons_of_mem _ this
    · have hc : (zv g v).category = 1 := (lv_cat _).resolve_right (fun q => hw ((zcat_wide g v).mp q))
      have e : zsl (v :: t) = some v :: zsl t := by simp [zsl, hw]
      rw [e] at h
      match j, h with
      | 0, h => cases h; simp [lv_args]
      | j + 1, h =>
        have := zsl_args g t (i + 1) j u h
        simp only [List.map_cons, lv_args, hc]
        rw [show i + (j + 1) = i + 1 + j by omega]
        exact List.mem_cons_of_mem _ this
theorem zg_app : ∀ (a b : List (Option zV)) (j : Nat) (u : zV), (∀ o ∈ b, o = none) → zg (a ++ b) j = some u → zg a j = some u
  | [], b, j, u, hb, h => by
    exfalso
    have : ∀ (b : List (Option zV)) (j : Nat), (∀ o ∈ b, o = none) → zg b j = some u → False := by
      intro b
      induction b with
      | nil => intro j _ h; cases h
      | cons o t ih =>
        intro j hb h
        cases j with
        | zero =>
          have e : o = none := hb o List.mem_cons_self
          subst e
          cases h
        | succ j => exact ih j (fun o ho => hb o (List.mem_cons_of_mem _ ho)) h
    exact this b j hb h
  | o :: t, b, 0, u, hb, h => h
  | o :: t, b, j + 1, u, hb, h => zg_app t b j u hb h
theorem zen_L (g : zG) {ml : Nat} {as : List zV} (h : (zsl as).length ≤ ml) : zL g ((lg_sl (as.map (zv g)) ++ List.replicate (ml - (lg_sl (as.map (zv g))).length) Slot.unset).toArray) ml (zen ml as) := by
  refine zL.of (lv_entry (as.map (zv g)) (by rw [zsl_len]; exact h)) fun j u hu => ?_
  have h1 : zg (zsl as) j = some u := zg_app _ _ _ _ (fun o ho => (List.mem_replicate.mp ho).2) hu
  have h2 := zsl_args g as 0 j u h1
  rwa [Nat.zero_add] at h2
theorem zCt.of {h mc ms : Nat} {y : MethodName} {cc : ByteArray} {ml : Nat} {ret : Option FieldType} {as : List zV} {n : Nat} {σ : zS} {r : Option zV} {n' : Nat} {σ' : zS} (hy : plainName y.cls = true) (hn : n' = n + mc) (ha : (zsl as).length ≤ ml)
    (body : ∀ K : zKT, zX y cc ml ret h mc ms n (fun v n1 σ1 w => v = r ∧ n1 = n' ∧ σ1 = σ' ∧ w = ms) K → K 0 (zen ml as) [] n σ 0) : zCt h mc ms y cc ml ret as n σ r n' σ' := by
  intro l g
  refine Met.ofW (cc := cc) (maxL := ml) (ret := ret) hy rfl ?_
  intro p e s m args below meth c s₁ B hml hv
  obtain ⟨rfl, hz, hH, hK⟩ := hv
  have hx := B.exec
  have hb := B.bytes
  have hr := B.returns
  have hts := atoms_spec (ws := Cond.code y cc ml ret :: zGW) B.pre
  have hown : s.vm.findClass y.cls = some m.cls := findClass_of_methodNamed B.named
  have hlocks := B.notSynchronized
  have hin : meth.name = y.name := (name_of_methodNamed B.named B.method).1
  have key := body _ ⟨p, l, e, (headSpec (Cond.code y cc ml ret :: zGW) (zRm h mc ms)).room, s, m, (as.map (zv g)).toArray, below, meth, c, MQ below (zPost g r n' σ') (as.map (zv g)).toArray s mc ms (zF g), g,
    ⟨hx, hb, hml, hown, fun w hw => hts w (List.mem_cons_of_mem _ hw), hK, hin⟩, ⟨Nat.le_refl _, Nat.le_refl _, Nat.le_refl _, Nat.le_refl _⟩, hz, rfl, ?_⟩
  · have k := key _ s.heap [] ⟨Nat.le_refl _, by omega, Nat.zero_le _⟩ (zen_L g ha) hH va_S.rf
    rw [Nat.sub_self] at k
    rw [lg_entry_eq]
    exact k
  · intro v pc Lo st n1 σ1 w hrt hR ls H locs hn1 hl hP hS
    obtain ⟨rfl, rfl, rfl, rfl⟩ := hR
    have e : n1 - n = mc := by omega
    rw [e]
    rcases hrt with ⟨d, rfl, rfl, rfl⟩ | ⟨d, rfl, x, rfl, rfl⟩ | ⟨d, rfl, x, hx01, rfl, rfl⟩ | ⟨d, rfl, x, rfl, rfl⟩
    · exact W.vret hx hb hr (fun t ht _ => ⟨rfl, by rw [ht]; exact hP, hS.F ht⟩) hS.2.2 d
    · exact W.iret hx hb hr (fun t ht _ => ⟨rfl, by rw [ht]; exact hP, hS.F ht⟩) hS.2.2 d
    · refine W.zret hx hb hr ?_ (fun t ht _ => ⟨rfl, by rw [ht]; exact hP, hS.F ht⟩) hS.2.2 d
      rcases hx01 with rfl | rfl <;> rfl
    · exact W.lret hx hb hr (fun t ht _ => ⟨rfl, by rw [ht]; exact hP, hS.F ht⟩) hS.2.2 d
/-- words of a method that is called -/
def zOk (y : MethodName) (cc : ByteArray) (ml : Nat) (ret : Option FieldType) (na : Nat) : Prop :=
  (y.cls ≠ "java/lang/invoke/MethodHandle" ∧ y.cls ≠ "java/lang/invoke/VarHandle") ∧ (parseMethodDescriptor y.desc).map (fun d => d.parameters.length) = some na ∧ ml ≤ 40 ∧ Cond.code y cc ml ret ∈ zGW ∧ Cond.initialized y.cls ∈ zGW
def zLs (own : String) (idx : Nat) (y : MethodName) : Prop := Cond.methodLink own idx y ∈ zGW ∧ Cond.static y ∈ zGW
def zLv (own : String) (idx : Nat) (y : MethodName) : Prop := Cond.methodLink own idx y ∈ zGW ∧ Cond.instanceMethod y ∈ zGW ∧ Cond.selects y.cls y y ∈ zGW
def zLi (own : String) (idx : Nat) (y : MethodName) : Prop := Cond.methodLink own idx y ∈ zGW ∧ Cond.instanceMethod y ∈ zGW ∧ y.name = "<init>"
def zNs (own : String) (idx : Nat) (y : MethodName) : Prop := Cond.methodLinkNest own idx y "BlockTrees" ∈ zNW ∧ Cond.static y ∈ zGW
def zNv (own : String) (idx : Nat) (y : MethodName) : Prop := Cond.methodLinkNest own idx y "BlockTrees" ∈ zNW ∧ Cond.instanceMethod y ∈ zGW ∧ Cond.selects y.cls y y ∈ zGW
def zNi (own : String) (idx : Nat) (y : MethodName) : Prop := Cond.methodLinkNest own idx y "BlockTrees" ∈ zNW ∧ Cond.instanceMethod y ∈ zGW ∧ y.name = "<init>"
def zFl (own : String) (idx ci j : Nat) : Prop := ∃ (C : String) (T : u_T) (N : Nat), vwCl[ci]? = some (C, T, N) ∧ j < N ∧ Cond.fieldLink own idx (T j).1 (T j).2.1 (T j).2.2.1 ∈ zGW ∧ ∀ w ∈ u_ws C T N, w ∈ zGW
def zFn (own : String) (idx ci j : Nat) : Prop := ∃ (C : String) (T : u_T) (N : Nat), vwCl[ci]? = some (C, T, N) ∧ j < N ∧ Cond.fieldLinkNest own idx (T j).1 (T j).2.1 (T j).2.2.1 "BlockTrees" ∈ zNW ∧ ∀ w ∈ u_ws C T N, w ∈ zGW
/-- what putfield asks besides -/
def zFy (ci j : Nat) (fin : Bool) (ty : FieldType) : Prop := ∀ (C : String) (T : u_T) (N : Nat), vwCl[ci]? = some (C, T, N) → (∃ ty0 : Nat → FieldType, ∀ k, k < N → parseFieldDescriptor (T k).2.2.1 = some (ty0 k)) ∧ (∀ a, a < N → ∀ b, b < N → a ≠ b → (T a).2.1 ≠ (T b).2.1) ∧ (T j).2.2.2 = fin ∧ (T j).1 = C ∧ parseFieldDescriptor (T j).2.2.1 = some ty
def zcat (st : List zV) : Nat := (st.map fun v => if zwide v then 2 else 1).sum
theorem zcat_eq (g : zG) : ∀ st : List zV, ((st.map (zv g)).map fun v => v.category).sum = zcat st
  | [] => rfl
  | v :: t => by
    have ih := zcat_eq g t
    by_cases h : zwide v = true
    · have hc := (zcat_wide g v).mpr h
      simp [zcat, h, hc] at ih ⊢
      exact ih
    · have hc : (zv g v).category = 1 := (lv_cat _).resolve_right (fun q => h ((zcat_wide g v).mp q))
      simp [zcat, h, hc] at ih ⊢
      exact ih
theorem zI_c2 {a : Int} (h : 0 ≤ a ∧ a < 65536) : (zI a).toUInt32.toUInt16.toUInt32.toInt32 = zI a := by
  have h1 := zI_c h
  obtain ⟨k, rfl⟩ : ∃ k : Nat, a = k := ⟨a.toNat, by omega⟩
  apply Int32.toBitVec_inj.mp
  apply BitVec.eq_of_toNat_eq
  have e := congrArg (fun z : Int32 => z.toBitVec.toNat) h1
  dsimp only at e
  rw [← e]
  simp
theorem zq_eq {g : zG} {n : Nat} {σ : zS} {q : Nat} {x : va_E} {H1 : Heap} (hD : va_D (zF g) (zW g n σ ++ [(q, x)])) (hP : va_P g.2.1 vwCl (zW g n σ ++ [(q, x)]) H1) (hz : H1.size ≤ g.1.2 + 1 + (n + 1)) : q = g.1.2 + (n + 1) := by
  have hq : (zW g n σ ++ [(q, x)])[n]? = some (q, x) := by
    rw [List.getElem?_append_right (by rw [zW_len]; omega), zW_len, Nat.sub_self]
    rfl
  have h1 := (hP n _ hq).lt
  have h2 : g.1.2 < q := hD.2 n _ hq
  dsimp only at h1 h2
  rcases Nat.lt_or_ge q (g.1.2 + (n + 1)) with h3 | h3
  · have h4 : (zW g n σ ++ [(q, x)])[q - (g.1.2 + 1)]? = some (q, zc g (σ (((q - (g.1.2 + 1) : Nat) : Int) + 1))) := by
      rw [List.getElem?_append_left (by rw [zW_len]; omega), zW_get, if_pos (by omega)]
      congr 2
      omega
    have h5 := hD.1 _ _ _ _ hq h4 rfl
    omega
  · omega
set_option maxHeartbeats 2000000 in
theorem x_iconst {y : MethodName} {cc : ByteArray} {ml : Nat} {ret : Option FieldType} {h mc ms n0 : Nat} {Ret : zRT} {K : zKT} (C : zX y cc ml ret h mc ms n0 Ret K) {pc : Nat} {Lo : List (Option zV)} {st : List zV} {n : Nat} {σ : zS} {w : Nat} {v : Int} (d : decode cc pc = .ok (.iconst v, 1)) (k : K (pc + 1) Lo (zi v :: st) n σ w) : K pc Lo st n σ w := by
  obtain ⟨p, l, e, R, s, m, args, below, meth, c, Q, g, ⟨hx, hb, hml, hown, hts, hK, hin⟩, hR, hsz, rfl, hrt⟩ := C
  intro ls H locs hn hl hP hS
  exact lv_iconst hx hb d rfl (k ls H locs hn hl hP hS)
set_option maxHeartbeats 2000000 in
theorem x_bipush {y : MethodName} {cc : ByteArray} {ml : Nat} {ret : Option FieldType} {h mc ms n0 : Nat} {Ret : zRT} {K : zKT} (C : zX y cc ml ret h mc ms n0 Ret K) {pc : Nat} {Lo : List (Option zV)} {st : List zV} {n : Nat} {σ : zS} {w : Nat} {v : Int} (d : decode cc pc = .ok (.bipush v, 2)) (hv : (Int8.ofInt v).toInt32 = zI v) (k : K (pc + 2) Lo (zi v :: st) n σ w) : K pc Lo st n σ w := by
  obtain ⟨p, l, e, R, s, m, args, below, meth, c, Q, g, ⟨hx, hb, hml, hown, hts, hK, hin⟩, hR, hsz, rfl, hrt⟩ := C
  intro ls H locs hn hl hP hS
  exact lv_bipush hx hb d hv (k ls H locs hn hl hP hS)
set_option maxHeartbeats 2000000 in
theorem x_sipush {y : MethodName} {cc : ByteArray} {ml : Nat} {ret : Option FieldType} {h mc ms n0 : Nat} {Ret : zRT} {K : zKT} (C : zX y cc ml ret h mc ms n0 Ret K) {pc : Nat} {Lo : List (Option zV)} {st : List zV} {n : Nat} {σ : zS} {w : Nat} {v : Int} (d : decode cc pc = .ok (.sipush v, 3)) (hv : (Int16.ofInt v).toInt32 = zI v) (k : K (pc + 3) Lo (zi v :: st) n σ w) : K pc Lo st n σ w := by
  obtain ⟨p, l, e, R, s, m, args, below, meth, c, Q, g, ⟨hx, hb, hml, hown, hts, hK, hin⟩, hR, hsz, rfl, hrt⟩ := C
  intro ls H locs hn hl hP hS
  exact lv_sipush hx hb d hv (k ls H locs hn hl hP hS)
set_option maxHeartbeats 2000000 in
theorem x_ldc {y : MethodName} {cc : ByteArray} {ml : Nat} {ret : Option FieldType} {h mc ms n0 : Nat} {Ret : zRT} {K : zKT} (C : zX y cc ml ret h mc ms n0 Ret K) {pc : Nat} {Lo : List (Option zV)} {st : List zV} {n : Nat} {σ : zS} {w : Nat} {idx : Nat} {v : Int} {x : Int32} (d : decode cc pc = .ok (.ldc idx, 2)) (hw : Cond.constant y.cls idx x ∈ zGW) (hv : x = zI v) (k : K (pc + 2) Lo (zi v :: st) n σ w) : K pc Lo st n σ w := by
  obtain ⟨p, l, e, R, s, m, args, below, meth, c, Q, g, ⟨hx, hb, hml, hown, hts, hK, hin⟩, hR, hsz, rfl, hrt⟩ := C
  intro ls H locs hn hl hP hS
  subst hv
  exact lv_ldc hx hb hown (hts _ hw) d (k ls H locs hn hl hP hS)
set_option maxHeartbeats 2000000 in
theorem x_ldcf {y : MethodName} {cc : ByteArray} {ml : Nat} {ret : Option FieldType} {h mc ms n0 : Nat} {Ret : zRT} {K : zKT} (C : zX y cc ml ret h mc ms n0 Ret K) {pc : Nat} {Lo : List (Option zV)} {st : List zV} {n : Nat} {σ : zS} {w : Nat} {idx : Nat} {x : UInt32} (d : decode cc pc = .ok (.ldc idx, 2)) (hw : Cond.constantFloat y.cls idx x ∈ zGW) (k : K (pc + 2) Lo (zf x :: st) n σ w) : K pc Lo st n σ w := by
  obtain ⟨p, l, e, R, s, m, args, below, meth, c, Q, g, ⟨hx, hb, hml, hown, hts, hK, hin⟩, hR, hsz, rfl, hrt⟩ := C
  intro ls H locs hn hl hP hS
  exact lv_ldcf hx hb hown (hts _ hw) d (k ls H locs hn hl hP hS)
set_option maxHeartbeats 2000000 in
theorem x_ldc2 {y : MethodName} {cc : ByteArray} {ml : Nat} {ret : Option FieldType} {h mc ms n0 : Nat} {Ret : zRT} {K : zKT} (C : zX y cc ml ret h mc ms n0 Ret K) {pc : Nat} {Lo : List (Option zV)} {st : List zV} {n : Nat} {σ : zS} {w : Nat} {idx : Nat} {v : Int} {x : Int64} (d : decode cc pc = .ok (.ldc2_w idx, 3)) (hw : Cond.constantLong y.cls idx x ∈ zGW) (hv : x = zJ v) (k : K (pc + 3) Lo (zl v :: st) n σ w) : K pc Lo st n σ w := by
  obtain ⟨p, l, e, R, s, m, args, below, meth, c, Q, g, ⟨hx, hb, hml, hown, hts, hK, hin⟩, hR, hsz, rfl, hrt⟩ := C
  intro ls H locs hn hl hP hS
  subst hv
  exact lv_ldc2 hx hb hown (hts _ hw) d (k ls H locs hn hl hP hS)
set_option maxHeartbeats 2000000 in
theorem x_ldc2d {y : MethodName} {cc : ByteArray} {ml : Nat} {ret : Option FieldType} {h mc ms n0 : Nat} {Ret : zRT} {K : zKT} (C : zX y cc ml ret h mc ms n0 Ret K) {pc : Nat} {Lo : List (Option zV)} {st : List zV} {n : Nat} {σ : zS} {w : Nat} {idx : Nat} {x : UInt64} (d : decode cc pc = .ok (.ldc2_w idx, 3)) (hw : Cond.constantDouble y.cls idx x ∈ zGW) (k : K (pc + 3) Lo (zd x :: st) n σ w) : K pc Lo st n σ w := by
  obtain ⟨p, l, e, R, s, m, args, below, meth, c, Q, g, ⟨hx, hb, hml, hown, hts, hK, hin⟩, hR, hsz, rfl, hrt⟩ := C
  intro ls H locs hn hl hP hS
  exact lv_ldc2d hx hb hown (hts _ hw) d (k ls H locs hn hl hP hS)
set_option maxHeartbeats 2000000 in
theorem x_lconst {y : MethodName} {cc : ByteArray} {ml : Nat} {ret : Option FieldType} {h mc ms n0 : Nat} {Ret : zRT} {K : zKT} (C : zX y cc ml ret h mc ms n0 Ret K) {pc : Nat} {Lo : List (Option zV)} {st : List zV} {n : Nat} {σ : zS} {w : Nat} {v : Fin 2} (d : decode cc pc = .ok (.lconst v, 1)) (k : K (pc + 1) Lo (zl (v.val : Int) :: st) n σ w) : K pc Lo st n σ w := by
  obtain ⟨p, l, e, R, s, m, args, below, meth, c, Q, g, ⟨hx, hb, hml, hown, hts, hK, hin⟩, hR, hsz, rfl, hrt⟩ := C
  intro ls H locs hn hl hP hS
  exact lv_lconst hx hb d (by rw [← Int64.ofInt_eq_ofNat]; rfl) (k ls H locs hn hl hP hS)
set_option maxHeartbeats 2000000 in
theorem x_iload {y : MethodName} {cc : ByteArray} {ml : Nat} {ret : Option FieldType} {h mc ms n0 : Nat} {Ret : zRT} {K : zKT} (C : zX y cc ml ret h mc ms n0 Ret K) {pc : Nat} {Lo : List (Option zV)} {st : List zV} {n : Nat} {σ : zS} {w : Nat} {i : Nat} {x : Int} (d : decode cc pc = .ok (.iload i, 2)) (hl0 : zg Lo i = some (zi x)) (k : K (pc + 2) Lo (zi x :: st) n σ w) : K pc Lo st n σ w := by
  obtain ⟨p, l, e, R, s, m, args, below, meth, c, Q, g, ⟨hx, hb, hml, hown, hts, hK, hin⟩, hR, hsz, rfl, hrt⟩ := C
  intro ls H locs hn hl hP hS
  exact lv_iload hx hb d (hl.at hl0) (k ls H locs hn hl hP hS)
set_option maxHeartbeats 2000000 in
theorem x_iload_n {y : MethodName} {cc : ByteArray} {ml : Nat} {ret : Option FieldType} {h mc ms n0 : Nat} {Ret : zRT} {K : zKT} (C : zX y cc ml ret h mc ms n0 Ret K) {pc : Nat} {Lo : List (Option zV)} {st : List zV} {n : Nat} {σ : zS} {w : Nat} {q : Fin 4} {x : Int} (d : decode cc pc = .ok (.iload_n q, 1)) (hl0 : zg Lo q.val = some (zi x)) (k : K (pc + 1) Lo (zi x :: st) n σ w) : K pc Lo st n σ w := by
  obtain ⟨p, l, e, R, s, m, args, below, meth, c, Q, g, ⟨hx, hb, hml, hown, hts, hK, hin⟩, hR, hsz, rfl, hrt⟩ := C
  intro ls H locs hn hl hP hS
  exact lv_iload_n hx hb d rfl (hl.at hl0) (k ls H locs hn hl hP hS)
set_option maxHeartbeats 2000000 in
theorem x_lload {y : MethodName} {cc : ByteArray} {ml : Nat} {ret : Option FieldType} {h mc ms n0 : Nat} {Ret : zRT} {K : zKT} (C : zX y cc ml ret h mc ms n0 Ret K) {pc : Nat} {Lo : List (Option zV)} {st : List zV} {n : Nat} {σ : zS} {w : Nat} {i : Nat} {x : Int} (d : decode cc pc = .ok (.lload i, 2)) (hl0 : zg Lo i = some (zl x)) (k : K (pc + 2) Lo (zl x :: st) n σ w) : K pc Lo st n σ w := by
  obtain ⟨p, l, e, R, s, m, args, below, meth, c, Q, g, ⟨hx, hb, hml, hown, hts, hK, hin⟩, hR, hsz, rfl, hrt⟩ := C
  intro ls H locs hn hl hP hS
  exact lv_lload hx hb d (hl.at hl0) (k ls H locs hn hl hP hS)
set_option maxHeartbeats 2000000 in
theorem x_lload_n {y : MethodName} {cc : ByteArray} {ml : Nat} {ret : Option FieldType} {h mc ms n0 : Nat} {Ret : zRT} {K : zKT} (C : zX y cc ml ret h mc ms n0 Ret K) {pc : Nat} {Lo : List (Option zV)} {st : List zV} {n : Nat} {σ : zS} {w : Nat} {q : Fin 4} {x : Int} (d : decode cc pc = .ok (.lload_n q, 1)) (hl0 : zg Lo q.val = some (zl x)) (k : K (pc + 1) Lo (zl x :: st) n σ w) : K pc Lo st n σ w := by
  obtain ⟨p, l, e, R, s, m, args, below, meth, c, Q, g, ⟨hx, hb, hml, hown, hts, hK, hin⟩, hR, hsz, rfl, hrt⟩ := C
  intro ls H locs hn hl hP hS
  exact lv_lload_n hx hb d rfl (hl.at hl0) (k ls H locs hn hl hP hS)
set_option maxHeartbeats 2000000 in
theorem x_aload {y : MethodName} {cc : ByteArray} {ml : Nat} {ret : Option FieldType} {h mc ms n0 : Nat} {Ret : zRT} {K : zKT} (C : zX y cc ml ret h mc ms n0 Ret K) {pc : Nat} {Lo : List (Option zV)} {st : List zV} {n : Nat} {σ : zS} {w : Nat} {i : Nat} {x : Int} (d : decode cc pc = .ok (.aload i, 2)) (hl0 : zg Lo i = some (zr x)) (k : K (pc + 2) Lo (zr x :: st) n σ w) : K pc Lo st n σ w := by
  obtain ⟨p, l, e, R, s, m, args, below, meth, c, Q, g, ⟨hx, hb, hml, hown, hts, hK, hin⟩, hR, hsz, rfl, hrt⟩ := C
  intro ls H locs hn hl hP hS
  exact lv_aload hx hb d (hl.at hl0) (k ls H locs hn hl hP hS)
set_option maxHeartbeats 2000000 in
theorem x_aload_n {y : MethodName} {cc : ByteArray} {ml : Nat} {ret : Option FieldType} {h mc ms n0 : Nat} {Ret : zRT} {K : zKT} (C : zX y cc ml ret h mc ms n0 Ret K) {pc : Nat} {Lo : List (Option zV)} {st : List zV} {n : Nat} {σ : zS} {w : Nat} {q : Fin 4} {x : Int} (d : decode cc pc = .ok (.aload_n q, 1)) (hl0 : zg Lo q.val = some (zr x)) (k : K (pc + 1) Lo (zr x :: st) n σ w) : K pc Lo st n σ w := by
  obtain ⟨p, l, e, R, s, m, args, below, meth, c, Q, g, ⟨hx, hb, hml, hown, hts, hK, hin⟩, hR, hsz, rfl, hrt⟩ := C
  intro ls H locs hn hl hP hS
  exact lv_aload_n hx hb d rfl (hl.at hl0) (k ls H locs hn hl hP hS)
set_option maxHeartbeats 2000000 in
theorem x_dload_n {y : MethodName} {cc : ByteArray} {ml : Nat} {ret : Option FieldType} {h mc ms n0 : Nat} {Ret : zRT} {K : zKT} (C : zX y cc ml ret h mc ms n0 Ret K) {pc : Nat} {Lo : List (Option zV)} {st : List zV} {n : Nat} {σ : zS} {w : Nat} {q : Fin 4} {x : UInt64} (d : decode cc pc = .ok (.dload_n q, 1)) (hl0 : zg Lo q.val = some (zd x)) (k : K (pc + 1) Lo (zd x :: st) n σ w) : K pc Lo st n σ w := by
  obtain ⟨p, l, e, R, s, m, args, below, meth, c, Q, g, ⟨hx, hb, hml, hown, hts, hK, hin⟩, hR, hsz, rfl, hrt⟩ := C
  intro ls H locs hn hl hP hS
  exact lv_dload_n hx hb d rfl (hl.at hl0) (k ls H locs hn hl hP hS)
set_option maxHeartbeats 2000000 in
theorem x_fload_n {y : MethodName} {cc : ByteArray} {ml : Nat} {ret : Option FieldType} {h mc ms n0 : Nat} {Ret : zRT} {K : zKT} (C : zX y cc ml ret h mc ms n0 Ret K) {pc : Nat} {Lo : List (Option zV)} {st : List zV} {n : Nat} {σ : zS} {w : Nat} {q : Fin 4} {x : UInt32} (d : decode cc pc = .ok (.fload_n q, 1)) (hl0 : zg Lo q.val = some (zf x)) (k : K (pc + 1) Lo (zf x :: st) n σ w) : K pc Lo st n σ w := by
  obtain ⟨p, l, e, R, s, m, args, below, meth, c, Q, g, ⟨hx, hb, hml, hown, hts, hK, hin⟩, hR, hsz, rfl, hrt⟩ := C
  intro ls H locs hn hl hP hS
  exact lv_fload_n hx hb d rfl (hl.at hl0) (k ls H locs hn hl hP hS)
set_option maxHeartbeats 2000000 in
theorem x_istore {y : MethodName} {cc : ByteArray} {ml : Nat} {ret : Option FieldType} {h mc ms n0 : Nat} {Ret : zRT} {K : zKT} (C : zX y cc ml ret h mc ms n0 Ret K) {pc : Nat} {Lo : List (Option zV)} {st : List zV} {n : Nat} {σ : zS} {w : Nat} {i : Nat} {x : Int} (d : decode cc pc = .ok (.istore i, 2)) (hi : i < ml) (k : K (pc + 2) (zs1 Lo i (zi x)) st n σ w) : K pc Lo (zi x :: st) n σ w := by
  obtain ⟨p, l, e, R, s, m, args, below, meth, c, Q, g, ⟨hx, hb, hml, hown, hts, hK, hin⟩, hR, hsz, rfl, hrt⟩ := C
  intro ls H locs hn hl hP hS
  exact lv_istore hx hb d hl hi rfl (fun ls' hl' => k ls' H locs hn (zL.st1 hl') hP hS)
set_option maxHeartbeats 2000000 in
theorem x_istore_n {y : MethodName} {cc : ByteArray} {ml : Nat} {ret : Option FieldType} {h mc ms n0 : Nat} {Ret : zRT} {K : zKT} (C : zX y cc ml ret h mc ms n0 Ret K) {pc : Nat} {Lo : List (Option zV)} {st : List zV} {n : Nat} {σ : zS} {w : Nat} {q : Fin 4} {x : Int} (d : decode cc pc = .ok (.istore_n q, 1)) (hi : q.val < ml) (k : K (pc + 1) (zs1 Lo q.val (zi x)) st n σ w) : K pc Lo (zi x :: st) n σ w := by
  obtain ⟨p, l, e, R, s, m, args, below, meth, c, Q, g, ⟨hx, hb, hml, hown, hts, hK, hin⟩, hR, hsz, rfl, hrt⟩ := C
  intro ls H locs hn hl hP hS
  exact lv_istore_n hx hb d rfl hl hi rfl (fun ls' hl' => k ls' H locs hn (zL.st1 hl') hP hS)
set_option maxHeartbeats 2000000 in
theorem x_astore {y : MethodName} {cc : ByteArray} {ml : Nat} {ret : Option FieldType} {h mc ms n0 : Nat} {Ret : zRT} {K : zKT} (C : zX y cc ml ret h mc ms n0 Ret K) {pc : Nat} {Lo : List (Option zV)} {st : List zV} {n : Nat} {σ : zS} {w : Nat} {i : Nat} {x : Int} (d : decode cc pc = .ok (.astore i, 2)) (hi : i < ml) (k : K (pc + 2) (zs1 Lo i (zr x)) st n σ w) : K pc Lo (zr x :: st) n σ w := by
  obtain ⟨p, l, e, R, s, m, args, below, meth, c, Q, g, ⟨hx, hb, hml, hown, hts, hK, hin⟩, hR, hsz, rfl, hrt⟩ := C
  intro ls H locs hn hl hP hS
  exact lv_astore hx hb d hl hi rfl (fun ls' hl' => k ls' H locs hn (zL.st1 hl') hP hS)
set_option maxHeartbeats 2000000 in
theorem x_astore_n {y : MethodName} {cc : ByteArray} {ml : Nat} {ret : Option FieldType} {h mc ms n0 : Nat} {Ret : zRT} {K : zKT} (C : zX y cc ml ret h mc ms n0 Ret K) {pc : Nat} {Lo : List (Option zV)} {st : List zV} {n : Nat} {σ : zS} {w : Nat} {q : Fin 4} {x : Int} (d : decode cc pc = .ok (.astore_n q, 1)) (hi : q.val < ml) (k : K (pc + 1) (zs1 Lo q.val (zr x)) st n σ w) : K pc Lo (zr x :: st) n σ w := by
  obtain ⟨p, l, e, R, s, m, args, below, meth, c, Q, g, ⟨hx, hb, hml, hown, hts, hK, hin⟩, hR, hsz, rfl, hrt⟩ := C
  intro ls H locs hn hl hP hS
  exact lv_astore_n hx hb d rfl hl hi rfl (fun ls' hl' => k ls' H locs hn (zL.st1 hl') hP hS)
set_option maxHeartbeats 2000000 in
theorem x_lstore {y : MethodName} {cc : ByteArray} {ml : Nat} {ret : Option FieldType} {h mc ms n0 : Nat} {Ret : zRT} {K : zKT} (C : zX y cc ml ret h mc ms n0 Ret K) {pc : Nat} {Lo : List (Option zV)} {st : List zV} {n : Nat} {σ : zS} {w : Nat} {i : Nat} {x : Int} (d : decode cc pc = .ok (.lstore i, 2)) (hi : i + 1 < ml) (k : K (pc + 2) (zs2 Lo i (zl x)) st n σ w) : K pc Lo (zl x :: st) n σ w := by
  obtain ⟨p, l, e, R, s, m, args, below, meth, c, Q, g, ⟨hx, hb, hml, hown, hts, hK, hin⟩, hR, hsz, rfl, hrt⟩ := C
  intro ls H locs hn hl hP hS
  exact lv_lstore hx hb d hl hi rfl (fun ls' hl' => k ls' H locs hn (zL.st2 hl') hP hS)
set_option maxHeartbeats 2000000 in
theorem x_lstore_n {y : MethodName} {cc : ByteArray} {ml : Nat} {ret : Option FieldType} {h mc ms n0 : Nat} {Ret : zRT} {K : zKT} (C : zX y cc ml ret h mc ms n0 Ret K) {pc : Nat} {Lo : List (Option zV)} {st : List zV} {n : Nat} {σ : zS} {w : Nat} {q : Fin 4} {x : Int} (d : decode cc pc = .ok (.lstore_n q, 1)) (hi : q.val + 1 < ml) (k : K (pc + 1) (zs2 Lo q.val (zl x)) st n σ w) : K pc Lo (zl x :: st) n σ w := by
  obtain ⟨p, l, e, R, s, m, args, below, meth, c, Q, g, ⟨hx, hb, hml, hown, hts, hK, hin⟩, hR, hsz, rfl, hrt⟩ := C
  intro ls H locs hn hl hP hS
  exact lv_lstore_n hx hb d rfl hl hi rfl (fun ls' hl' => k ls' H locs hn (zL.st2 hl') hP hS)
set_option maxHeartbeats 2000000 in
theorem x_iinc {y : MethodName} {cc : ByteArray} {ml : Nat} {ret : Option FieldType} {h mc ms n0 : Nat} {Ret : zRT} {K : zKT} (C : zX y cc ml ret h mc ms n0 Ret K) {pc : Nat} {Lo : List (Option zV)} {st : List zV} {n : Nat} {σ : zS} {w : Nat} {i : Nat} {v x : Int} (d : decode cc pc = .ok (.iinc i v, 3)) (hl0 : zg Lo i = some (zi x)) (hi : i < ml) (k : K (pc + 3) (zs1 Lo i (zi (x + v))) st n σ w) : K pc Lo st n σ w := by
  obtain ⟨p, l, e, R, s, m, args, below, meth, c, Q, g, ⟨hx, hb, hml, hown, hts, hK, hin⟩, hR, hsz, rfl, hrt⟩ := C
  intro ls H locs hn hl hP hS
  have hm := zlst_in g Lo 0 i _ hl0
  rw [Nat.zero_add] at hm
  obtain ⟨q, hq⟩ := List.getElem?_of_mem hm
  exact lv_iinc (v := zI (x + v)) hx hb d hl hq (zI_add x v).symm hi rfl (fun ls' hl' => k ls' H locs hn (zL.st1 hl') hP hS)
set_option maxHeartbeats 2000000 in
theorem x_iadd {y : MethodName} {cc : ByteArray} {ml : Nat} {ret : Option FieldType} {h mc ms n0 : Nat} {Ret : zRT} {K : zKT} (C : zX y cc ml ret h mc ms n0 Ret K) {pc : Nat} {Lo : List (Option zV)} {st : List zV} {n : Nat} {σ : zS} {w : Nat} {a b : Int} (d : decode cc pc = .ok (.iadd, 1)) (k : K (pc + 1) Lo (zi (a + b) :: st) n σ w) : K pc Lo (zi b :: zi a :: st) n σ w := by
  obtain ⟨p, l, e, R, s, m, args, below, meth, c, Q, g, ⟨hx, hb, hml, hown, hts, hK, hin⟩, hR, hsz, rfl, hrt⟩ := C
  intro ls H locs hn hl hP hS
  refine lv_iadd hx hb d ?_
  rw [← zI_add]
  exact k ls H locs hn hl hP hS
set_option maxHeartbeats 2000000 in
theorem x_isub {y : MethodName} {cc : ByteArray} {ml : Nat} {ret : Option FieldType} {h mc ms n0 : Nat} {Ret : zRT} {K : zKT} (C : zX y cc ml ret h mc ms n0 Ret K) {pc : Nat} {Lo : List (Option zV)} {st : List zV} {n : Nat} {σ : zS} {w : Nat} {a b : Int} (d : decode cc pc = .ok (.isub, 1)) (k : K (pc + 1) Lo (zi (a - b) :: st) n σ w) : K pc Lo (zi b :: zi a :: st) n σ w := by
  obtain ⟨p, l, e, R, s, m, args, below, meth, c, Q, g, ⟨hx, hb, hml, hown, hts, hK, hin⟩, hR, hsz, rfl, hrt⟩ := C
  intro ls H locs hn hl hP hS
  refine lv_isub hx hb d ?_
  rw [← zI_sub]
  exact k ls H locs hn hl hP hS
set_option maxHeartbeats 2000000 in
theorem x_imul {y : MethodName} {cc : ByteArray} {ml : Nat} {ret : Option FieldType} {h mc ms n0 : Nat} {Ret : zRT} {K : zKT} (C : zX y cc ml ret h mc ms n0 Ret K) {pc : Nat} {Lo : List (Option zV)} {st : List zV} {n : Nat} {σ : zS} {w : Nat} {a b : Int} (d : decode cc pc = .ok (.imul, 1)) (k : K (pc + 1) Lo (zi (a * b) :: st) n σ w) : K pc Lo (zi b :: zi a :: st) n σ w := by
  obtain ⟨p, l, e, R, s, m, args, below, meth, c, Q, g, ⟨hx, hb, hml, hown, hts, hK, hin⟩, hR, hsz, rfl, hrt⟩ := C
  intro ls H locs hn hl hP hS
  refine lv_imul hx hb d ?_
  rw [← zI_mul]
  exact k ls H locs hn hl hP hS
set_option maxHeartbeats 2000000 in
theorem x_ladd {y : MethodName} {cc : ByteArray} {ml : Nat} {ret : Option FieldType} {h mc ms n0 : Nat} {Ret : zRT} {K : zKT} (C : zX y cc ml ret h mc ms n0 Ret K) {pc : Nat} {Lo : List (Option zV)} {st : List zV} {n : Nat} {σ : zS} {w : Nat} {a b : Int} (d : decode cc pc = .ok (.ladd, 1)) (k : K (pc + 1) Lo (zl (a + b) :: st) n σ w) : K pc Lo (zl b :: zl a :: st) n σ w := by
  obtain ⟨p, l, e, R, s, m, args, below, meth, c, Q, g, ⟨hx, hb, hml, hown, hts, hK, hin⟩, hR, hsz, rfl, hrt⟩ := C
  intro ls H locs hn hl hP hS
  refine lv_ladd hx hb d ?_
  rw [← zJ_add]
  exact k ls H locs hn hl hP hS
set_option maxHeartbeats 2000000 in
theorem x_lsub {y : MethodName} {cc : ByteArray} {ml : Nat} {ret : Option FieldType} {h mc ms n0 : Nat} {Ret : zRT} {K : zKT} (C : zX y cc ml ret h mc ms n0 Ret K) {pc : Nat} {Lo : List (Option zV)} {st : List zV} {n : Nat} {σ : zS} {w : Nat} {a b : Int} (d : decode cc pc = .ok (.lsub, 1)) (k : K (pc + 1) Lo (zl (a - b) :: st) n σ w) : K pc Lo (zl b :: zl a :: st) n σ w := by
  obtain ⟨p, l, e, R, s, m, args, below, meth, c, Q, g, ⟨hx, hb, hml, hown, hts, hK, hin⟩, hR, hsz, rfl, hrt⟩ := C
  intro ls H locs hn hl hP hS
  refine lv_lsub hx hb d ?_
  rw [← zJ_sub]
  exact k ls H locs hn hl hP hS
set_option maxHeartbeats 2000000 in
theorem x_lmul {y : MethodName} {cc : ByteArray} {ml : Nat} {ret : Option FieldType} {h mc ms n0 : Nat} {Ret : zRT} {K : zKT} (C : zX y cc ml ret h mc ms n0 Ret K) {pc : Nat} {Lo : List (Option zV)} {st : List zV} {n : Nat} {σ : zS} {w : Nat} {a b : Int} (d : decode cc pc = .ok (.lmul, 1)) (k : K (pc + 1) Lo (zl (a * b) :: st) n σ w) : K pc Lo (zl b :: zl a :: st) n σ w := by
  obtain ⟨p, l, e, R, s, m, args, below, meth, c, Q, g, ⟨hx, hb, hml, hown, hts, hK, hin⟩, hR, hsz, rfl, hrt⟩ := C
  intro ls H locs hn hl hP hS
  refine lv_lmul hx hb d ?_
  rw [← zJ_mul]
  exact k ls H locs hn hl hP hS
set_option maxHeartbeats 2000000 in
theorem x_ineg {y : MethodName} {cc : ByteArray} {ml : Nat} {ret : Option FieldType} {h mc ms n0 : Nat} {Ret : zRT} {K : zKT} (C : zX y cc ml ret h mc ms n0 Ret K) {pc : Nat} {Lo : List (Option zV)} {st : List zV} {n : Nat} {σ : zS} {w : Nat} {a : Int} (d : decode cc pc = .ok (.ineg, 1)) (k : K (pc + 1) Lo (zi (-a) :: st) n σ w) : K pc Lo (zi a :: st) n σ w := by
  obtain ⟨p, l, e, R, s, m, args, below, meth, c, Q, g, ⟨hx, hb, hml, hown, hts, hK, hin⟩, hR, hsz, rfl, hrt⟩ := C
  intro ls H locs hn hl hP hS
  refine lv_ineg hx hb d ?_
  rw [← zI_neg]
  exact k ls H locs hn hl hP hS
set_option maxHeartbeats 2000000 in
theorem x_lneg {y : MethodName} {cc : ByteArray} {ml : Nat} {ret : Option FieldType} {h mc ms n0 : Nat} {Ret : zRT} {K : zKT} (C : zX y cc ml ret h mc ms n0 Ret K) {pc : Nat} {Lo : List (Option zV)} {st : List zV} {n : Nat} {σ : zS} {w : Nat} {a : Int} (d : decode cc pc = .ok (.lneg, 1)) (k : K (pc + 1) Lo (zl (-a) :: st) n σ w) : K pc Lo (zl a :: st) n σ w := by
  obtain ⟨p, l, e, R, s, m, args, below, meth, c, Q, g, ⟨hx, hb, hml, hown, hts, hK, hin⟩, hR, hsz, rfl, hrt⟩ := C
  intro ls H locs hn hl hP hS
  refine lv_lneg hx hb d ?_
  rw [← zJ_neg]
  exact k ls H locs hn hl hP hS
set_option maxHeartbeats 2000000 in
theorem x_idiv {y : MethodName} {cc : ByteArray} {ml : Nat} {ret : Option FieldType} {h mc ms n0 : Nat} {Ret : zRT} {K : zKT} (C : zX y cc ml ret h mc ms n0 Ret K) {pc : Nat} {Lo : List (Option zV)} {st : List zV} {n : Nat} {σ : zS} {w : Nat} {a b : Int} (d : decode cc pc = .ok (.idiv, 1)) (hr : (0 ≤ a ∧ a < 2147483648) ∧ 0 < b ∧ b < 2147483648) (k : K (pc + 1) Lo (zi (a / b) :: st) n σ w) : K pc Lo (zi b :: zi a :: st) n σ w := by
  obtain ⟨p, l, e, R, s, m, args, below, meth, c, Q, g, ⟨hx, hb, hml, hown, hts, hK, hin⟩, hR, hsz, rfl, hrt⟩ := C
  intro ls H locs hn hl hP hS
  refine lv_idiv hx hb d (zI_ne0 (by omega) (by omega)) ?_
  rw [zI_div hr.1 hr.2]
  exact k ls H locs hn hl hP hS
set_option maxHeartbeats 2000000 in
theorem x_irem {y : MethodName} {cc : ByteArray} {ml : Nat} {ret : Option FieldType} {h mc ms n0 : Nat} {Ret : zRT} {K : zKT} (C : zX y cc ml ret h mc ms n0 Ret K) {pc : Nat} {Lo : List (Option zV)} {st : List zV} {n : Nat} {σ : zS} {w : Nat} {a b : Int} (d : decode cc pc = .ok (.irem, 1)) (hr : (0 ≤ a ∧ a < 2147483648) ∧ 0 < b ∧ b < 2147483648) (k : K (pc + 1) Lo (zi (a % b) :: st) n σ w) : K pc Lo (zi b :: zi a :: st) n σ w := by
  obtain ⟨p, l, e, R, s, m, args, below, meth, c, Q, g, ⟨hx, hb, hml, hown, hts, hK, hin⟩, hR, hsz, rfl, hrt⟩ := C
  intro ls H locs hn hl hP hS
  refine lv_irem hx hb d (zI_ne0 (by omega) (by omega)) ?_
  rw [zI_rem hr.1 hr.2]
  exact k ls H locs hn hl hP hS
set_option maxHeartbeats 2000000 in
theorem x_idivs {y : MethodName} {cc : ByteArray} {ml : Nat} {ret : Option FieldType} {h mc ms n0 : Nat} {Ret : zRT} {K : zKT} (C : zX y cc ml ret h mc ms n0 Ret K) {pc : Nat} {Lo : List (Option zV)} {st : List zV} {n : Nat} {σ : zS} {w : Nat} {a b : Int} (d : decode cc pc = .ok (.idiv, 1)) (hr : (-2147483648 < a ∧ a < 2147483648) ∧ b ≠ 0 ∧ -2147483648 ≤ b ∧ b < 2147483648) (k : K (pc + 1) Lo (zi (a.tdiv b) :: st) n σ w) : K pc Lo (zi b :: zi a :: st) n σ w := by
  obtain ⟨p, l, e, R, s, m, args, below, meth, c, Q, g, ⟨hx, hb, hml, hown, hts, hK, hin⟩, hR, hsz, rfl, hrt⟩ := C
  intro ls H locs hn hl hP hS
  refine lv_idiv hx hb d (zI_ne0 (by omega) hr.2.1) ?_
  rw [zI_divs hr.1 hr.2.2]
  exact k ls H locs hn hl hP hS
set_option maxHeartbeats 2000000 in
theorem x_irems {y : MethodName} {cc : ByteArray} {ml : Nat} {ret : Option FieldType} {h mc ms n0 : Nat} {Ret : zRT} {K : zKT} (C : zX y cc ml ret h mc ms n0 Ret K) {pc : Nat} {Lo : List (Option zV)} {st : List zV} {n : Nat} {σ : zS} {w : Nat} {a b : Int} (d : decode cc pc = .ok (.irem, 1)) (hr : (-2147483648 < a ∧ a < 2147483648) ∧ b ≠ 0 ∧ -2147483648 ≤ b ∧ b < 2147483648) (k : K (pc + 1) Lo (zi (a.tmod b) :: st) n σ w) : K pc Lo (zi b :: zi a :: st) n σ w := by
  obtain ⟨p, l, e, R, s, m, args, below, meth, c, Q, g, ⟨hx, hb, hml, hown, hts, hK, hin⟩, hR, hsz, rfl, hrt⟩ := C
  intro ls H locs hn hl hP hS
  refine lv_irem hx hb d (zI_ne0 (by omega) hr.2.1) ?_
  rw [zI_rems hr.1 hr.2.2]
  exact k ls H locs hn hl hP hS
set_option maxHeartbeats 2000000 in
theorem x_ishl {y : MethodName} {cc : ByteArray} {ml : Nat} {ret : Option FieldType} {h mc ms n0 : Nat} {Ret : zRT} {K : zKT} (C : zX y cc ml ret h mc ms n0 Ret K) {pc : Nat} {Lo : List (Option zV)} {st : List zV} {n : Nat} {σ : zS} {w : Nat} {a b : Int} (d : decode cc pc = .ok (.ishl, 1)) (hr : 0 ≤ b ∧ b < 32) (k : K (pc + 1) Lo (zi (a * 2 ^ b.toNat) :: st) n σ w) : K pc Lo (zi b :: zi a :: st) n σ w := by
  obtain ⟨p, l, e, R, s, m, args, below, meth, c, Q, g, ⟨hx, hb, hml, hown, hts, hK, hin⟩, hR, hsz, rfl, hrt⟩ := C
  intro ls H locs hn hl hP hS
  refine lv_ishl hx hb d ?_
  rw [zI_shl a hr]
  exact k ls H locs hn hl hP hS
set_option maxHeartbeats 2000000 in
theorem x_ishr {y : MethodName} {cc : ByteArray} {ml : Nat} {ret : Option FieldType} {h mc ms n0 : Nat} {Ret : zRT} {K : zKT} (C : zX y cc ml ret h mc ms n0 Ret K) {pc : Nat} {Lo : List (Option zV)} {st : List zV} {n : Nat} {σ : zS} {w : Nat} {a b : Int} (d : decode cc pc = .ok (.ishr, 1)) (hr : (-2147483648 ≤ a ∧ a < 2147483648) ∧ 0 ≤ b ∧ b < 32) (k : K (pc + 1) Lo (zi (a / 2 ^ b.toNat) :: st) n σ w) : K pc Lo (zi b :: zi a :: st) n σ w := by
  obtain ⟨p, l, e, R, s, m, args, below, meth, c, Q, g, ⟨hx, hb, hml, hown, hts, hK, hin⟩, hR, hsz, rfl, hrt⟩ := C
  intro ls H locs hn hl hP hS
  refine lv_ishr hx hb d ?_
  rw [zI_shr hr.1 hr.2]
  exact k ls H locs hn hl hP hS
set_option maxHeartbeats 2000000 in
theorem x_iand {y : MethodName} {cc : ByteArray} {ml : Nat} {ret : Option FieldType} {h mc ms n0 : Nat} {Ret : zRT} {K : zKT} (C : zX y cc ml ret h mc ms n0 Ret K) {pc : Nat} {Lo : List (Option zV)} {st : List zV} {n : Nat} {σ : zS} {w : Nat} {a b : Int} (d : decode cc pc = .ok (.iand, 1)) (k : K (pc + 1) Lo (zi (zand a b) :: st) n σ w) : K pc Lo (zi b :: zi a :: st) n σ w := by
  obtain ⟨p, l, e, R, s, m, args, below, meth, c, Q, g, ⟨hx, hb, hml, hown, hts, hK, hin⟩, hR, hsz, rfl, hrt⟩ := C
  intro ls H locs hn hl hP hS
  refine lv_iand hx hb d ?_
  rw [← zI_and]
  exact k ls H locs hn hl hP hS
set_option maxHeartbeats 2000000 in
theorem x_ior {y : MethodName} {cc : ByteArray} {ml : Nat} {ret : Option FieldType} {h mc ms n0 : Nat} {Ret : zRT} {K : zKT} (C : zX y cc ml ret h mc ms n0 Ret K) {pc : Nat} {Lo : List (Option zV)} {st : List zV} {n : Nat} {σ : zS} {w : Nat} {a b : Int} (d : decode cc pc = .ok (.ior, 1)) (k : K (pc + 1) Lo (zi (zor a b) :: st) n σ w) : K pc Lo (zi b :: zi a :: st) n σ w := by
  obtain ⟨p, l, e, R, s, m, args, below, meth, c, Q, g, ⟨hx, hb, hml, hown, hts, hK, hin⟩, hR, hsz, rfl, hrt⟩ := C
  intro ls H locs hn hl hP hS
  refine lv_ior hx hb d ?_
  rw [← zI_or]
  exact k ls H locs hn hl hP hS
set_option maxHeartbeats 2000000 in
theorem x_land {y : MethodName} {cc : ByteArray} {ml : Nat} {ret : Option FieldType} {h mc ms n0 : Nat} {Ret : zRT} {K : zKT} (C : zX y cc ml ret h mc ms n0 Ret K) {pc : Nat} {Lo : List (Option zV)} {st : List zV} {n : Nat} {σ : zS} {w : Nat} {a b : Int} (d : decode cc pc = .ok (.land, 1)) (k : K (pc + 1) Lo (zl (zandl a b) :: st) n σ w) : K pc Lo (zl b :: zl a :: st) n σ w := by
  obtain ⟨p, l, e, R, s, m, args, below, meth, c, Q, g, ⟨hx, hb, hml, hown, hts, hK, hin⟩, hR, hsz, rfl, hrt⟩ := C
  intro ls H locs hn hl hP hS
  refine lv_land hx hb d ?_
  rw [← zJ_and]
  exact k ls H locs hn hl hP hS
set_option maxHeartbeats 2000000 in
theorem x_lor {y : MethodName} {cc : ByteArray} {ml : Nat} {ret : Option FieldType} {h mc ms n0 : Nat} {Ret : zRT} {K : zKT} (C : zX y cc ml ret h mc ms n0 Ret K) {pc : Nat} {Lo : List (Option zV)} {st : List zV} {n : Nat} {σ : zS} {w : Nat} {a b : Int} (d : decode cc pc = .ok (.lor, 1)) (k : K (pc + 1) Lo (zl (zorl a b) :: st) n σ w) : K pc Lo (zl b :: zl a :: st) n σ w := by
  obtain ⟨p, l, e, R, s, m, args, below, meth, c, Q, g, ⟨hx, hb, hml, hown, hts, hK, hin⟩, hR, hsz, rfl, hrt⟩ := C
  intro ls H locs hn hl hP hS
  refine lv_lor hx hb d ?_
  rw [← zJ_or]
  exact k ls H locs hn hl hP hS
set_option maxHeartbeats 2000000 in
theorem x_lshl {y : MethodName} {cc : ByteArray} {ml : Nat} {ret : Option FieldType} {h mc ms n0 : Nat} {Ret : zRT} {K : zKT} (C : zX y cc ml ret h mc ms n0 Ret K) {pc : Nat} {Lo : List (Option zV)} {st : List zV} {n : Nat} {σ : zS} {w : Nat} {a b : Int} (d : decode cc pc = .ok (.lshl, 1)) (hr : 0 ≤ b ∧ b < 64) (k : K (pc + 1) Lo (zl (a * 2 ^ b.toNat) :: st) n σ w) : K pc Lo (zi b :: zl a :: st) n σ w := by
  obtain ⟨p, l, e, R, s, m, args, below, meth, c, Q, g, ⟨hx, hb, hml, hown, hts, hK, hin⟩, hR, hsz, rfl, hrt⟩ := C
  intro ls H locs hn hl hP hS
  exact lv_lshl hx hb d (zJ_shl a hr) (k ls H locs hn hl hP hS)
set_option maxHeartbeats 2000000 in
theorem x_lshr {y : MethodName} {cc : ByteArray} {ml : Nat} {ret : Option FieldType} {h mc ms n0 : Nat} {Ret : zRT} {K : zKT} (C : zX y cc ml ret h mc ms n0 Ret K) {pc : Nat} {Lo : List (Option zV)} {st : List zV} {n : Nat} {σ : zS} {w : Nat} {a b : Int} (d : decode cc pc = .ok (.lshr, 1)) (hr : (-9223372036854775808 ≤ a ∧ a < 9223372036854775808) ∧ 0 ≤ b ∧ b < 64) (k : K (pc + 1) Lo (zl (a / 2 ^ b.toNat) :: st) n σ w) : K pc Lo (zi b :: zl a :: st) n σ w := by
  obtain ⟨p, l, e, R, s, m, args, below, meth, c, Q, g, ⟨hx, hb, hml, hown, hts, hK, hin⟩, hR, hsz, rfl, hrt⟩ := C
  intro ls H locs hn hl hP hS
  exact lv_lshr hx hb d (zJ_shr hr.1 hr.2) (k ls H locs hn hl hP hS)
set_option maxHeartbeats 2000000 in
theorem x_lushr {y : MethodName} {cc : ByteArray} {ml : Nat} {ret : Option FieldType} {h mc ms n0 : Nat} {Ret : zRT} {K : zKT} (C : zX y cc ml ret h mc ms n0 Ret K) {pc : Nat} {Lo : List (Option zV)} {st : List zV} {n : Nat} {σ : zS} {w : Nat} {a b : Int} (d : decode cc pc = .ok (.lushr, 1)) (hr : 0 ≤ b ∧ b < 64) (k : K (pc + 1) Lo (zl ((a % 18446744073709551616) / 2 ^ b.toNat) :: st) n σ w) : K pc Lo (zi b :: zl a :: st) n σ w := by
  obtain ⟨p, l, e, R, s, m, args, below, meth, c, Q, g, ⟨hx, hb, hml, hown, hts, hK, hin⟩, hR, hsz, rfl, hrt⟩ := C
  intro ls H locs hn hl hP hS
  exact lv_lushr hx hb d (zJ_ushr a hr) (k ls H locs hn hl hP hS)
set_option maxHeartbeats 2000000 in
theorem x_i2l {y : MethodName} {cc : ByteArray} {ml : Nat} {ret : Option FieldType} {h mc ms n0 : Nat} {Ret : zRT} {K : zKT} (C : zX y cc ml ret h mc ms n0 Ret K) {pc : Nat} {Lo : List (Option zV)} {st : List zV} {n : Nat} {σ : zS} {w : Nat} {a : Int} (d : decode cc pc = .ok (.i2l, 1)) (hr : -2147483648 ≤ a ∧ a < 2147483648) (k : K (pc + 1) Lo (zl a :: st) n σ w) : K pc Lo (zi a :: st) n σ w := by
  obtain ⟨p, l, e, R, s, m, args, below, meth, c, Q, g, ⟨hx, hb, hml, hown, hts, hK, hin⟩, hR, hsz, rfl, hrt⟩ := C
  intro ls H locs hn hl hP hS
  exact lv_i2l hx hb d (zI_l hr) (k ls H locs hn hl hP hS)
set_option maxHeartbeats 2000000 in
theorem x_l2i {y : MethodName} {cc : ByteArray} {ml : Nat} {ret : Option FieldType} {h mc ms n0 : Nat} {Ret : zRT} {K : zKT} (C : zX y cc ml ret h mc ms n0 Ret K) {pc : Nat} {Lo : List (Option zV)} {st : List zV} {n : Nat} {σ : zS} {w : Nat} {a : Int} (d : decode cc pc = .ok (.l2i, 1)) (k : K (pc + 1) Lo (zi a :: st) n σ w) : K pc Lo (zl a :: st) n σ w := by
  obtain ⟨p, l, e, R, s, m, args, below, meth, c, Q, g, ⟨hx, hb, hml, hown, hts, hK, hin⟩, hR, hsz, rfl, hrt⟩ := C
  intro ls H locs hn hl hP hS
  exact lv_l2i hx hb d Int64.toInt32_ofInt (k ls H locs hn hl hP hS)
set_option maxHeartbeats 2000000 in
theorem x_i2c {y : MethodName} {cc : ByteArray} {ml : Nat} {ret : Option FieldType} {h mc ms n0 : Nat} {Ret : zRT} {K : zKT} (C : zX y cc ml ret h mc ms n0 Ret K) {pc : Nat} {Lo : List (Option zV)} {st : List zV} {n : Nat} {σ : zS} {w : Nat} {a : Int} (d : decode cc pc = .ok (.i2c, 1)) (hr : 0 ≤ a ∧ a < 65536) (k : K (pc + 1) Lo (zi a :: st) n σ w) : K pc Lo (zi a :: st) n σ w := by
  obtain ⟨p, l, e, R, s, m, args, below, meth, c, Q, g, ⟨hx, hb, hml, hown, hts, hK, hin⟩, hR, hsz, rfl, hrt⟩ := C
  intro ls H locs hn hl hP hS
  exact lv_i2c hx hb d (zI_c hr) (k ls H locs hn hl hP hS)
set_option maxHeartbeats 2000000 in
theorem x_i2d {y : MethodName} {cc : ByteArray} {ml : Nat} {ret : Option FieldType} {h mc ms n0 : Nat} {Ret : zRT} {K : zKT} (C : zX y cc ml ret h mc ms n0 Ret K) {pc : Nat} {Lo : List (Option zV)} {st : List zV} {n : Nat} {σ : zS} {w : Nat} {a : Int} (d : decode cc pc = .ok (.i2d, 1)) (k : K (pc + 1) Lo (zd (FP.i2d (zI a)) :: st) n σ w) : K pc Lo (zi a :: st) n σ w := by
  obtain ⟨p, l, e, R, s, m, args, below, meth, c, Q, g, ⟨hx, hb, hml, hown, hts, hK, hin⟩, hR, hsz, rfl, hrt⟩ := C
  intro ls H locs hn hl hP hS
  exact lv_i2d hx hb d (k ls H locs hn hl hP hS)
set_option maxHeartbeats 2000000 in
theorem x_i2f {y : MethodName} {cc : ByteArray} {ml : Nat} {ret : Option FieldType} {h mc ms n0 : Nat} {Ret : zRT} {K : zKT} (C : zX y cc ml ret h mc ms n0 Ret K) {pc : Nat} {Lo : List (Option zV)} {st : List zV} {n : Nat} {σ : zS} {w : Nat} {a : Int} (d : decode cc pc = .ok (.i2f, 1)) (k : K (pc + 1) Lo (zf (FP.i2f (zI a)) :: st) n σ w) : K pc Lo (zi a :: st) n σ w := by
  obtain ⟨p, l, e, R, s, m, args, below, meth, c, Q, g, ⟨hx, hb, hml, hown, hts, hK, hin⟩, hR, hsz, rfl, hrt⟩ := C
  intro ls H locs hn hl hP hS
  exact lv_i2f hx hb d (k ls H locs hn hl hP hS)
set_option maxHeartbeats 2000000 in
theorem x_ddiv {y : MethodName} {cc : ByteArray} {ml : Nat} {ret : Option FieldType} {h mc ms n0 : Nat} {Ret : zRT} {K : zKT} (C : zX y cc ml ret h mc ms n0 Ret K) {pc : Nat} {Lo : List (Option zV)} {st : List zV} {n : Nat} {σ : zS} {w : Nat} {a b : UInt64} (d : decode cc pc = .ok (.ddiv, 1)) (hr : vf_n64 (FP.ddiv a b)) (k : K (pc + 1) Lo (zd (FP.ddiv a b) :: st) n σ w) : K pc Lo (zd b :: zd a :: st) n σ w := by
  obtain ⟨p, l, e, R, s, m, args, below, meth, c, Q, g, ⟨hx, hb, hml, hown, hts, hK, hin⟩, hR, hsz, rfl, hrt⟩ := C
  intro ls H locs hn hl hP hS
  exact lv_ddiv hx hb d hr (k ls H locs hn hl hP hS)
set_option maxHeartbeats 2000000 in
theorem x_fdiv {y : MethodName} {cc : ByteArray} {ml : Nat} {ret : Option FieldType} {h mc ms n0 : Nat} {Ret : zRT} {K : zKT} (C : zX y cc ml ret h mc ms n0 Ret K) {pc : Nat} {Lo : List (Option zV)} {st : List zV} {n : Nat} {σ : zS} {w : Nat} {a b : UInt32} (d : decode cc pc = .ok (.fdiv, 1)) (hr : vf_n32 (FP.fdiv a b)) (k : K (pc + 1) Lo (zf (FP.fdiv a b) :: st) n σ w) : K pc Lo (zf b :: zf a :: st) n σ w := by
  obtain ⟨p, l, e, R, s, m, args, below, meth, c, Q, g, ⟨hx, hb, hml, hown, hts, hK, hin⟩, hR, hsz, rfl, hrt⟩ := C
  intro ls H locs hn hl hP hS
  exact lv_fdiv hx hb d hr (k ls H locs hn hl hP hS)
set_option maxHeartbeats 2000000 in
theorem x_lcmp {y : MethodName} {cc : ByteArray} {ml : Nat} {ret : Option FieldType} {h mc ms n0 : Nat} {Ret : zRT} {K : zKT} (C : zX y cc ml ret h mc ms n0 Ret K) {pc : Nat} {Lo : List (Option zV)} {st : List zV} {n : Nat} {σ : zS} {w : Nat} {a b : Int} (d : decode cc pc = .ok (.lcmp, 1)) (hr : (-9223372036854775808 ≤ a ∧ a < 9223372036854775808) ∧ (-9223372036854775808 ≤ b ∧ b < 9223372036854775808)) (k : ∀ r : Int, ((a < b ∧ r = -1) ∨ (a = b ∧ r = 0) ∨ (b < a ∧ r = 1)) → K (pc + 1) Lo (zi r :: st) n σ w) : K pc Lo (zl b :: zl a :: st) n σ w := by
  obtain ⟨p, l, e, R, s, m, args, below, meth, c, Q, g, ⟨hx, hb, hml, hown, hts, hK, hin⟩, hR, hsz, rfl, hrt⟩ := C
  intro ls H locs hn hl hP hS
  refine W.lcmp hx hb d ?_
  obtain ⟨r, hr1, hr2⟩ := zJ_cmp hr
  rw [hr1]
  exact k r hr2 ls H locs hn hl hP hS
set_option maxHeartbeats 2000000 in
theorem x_dup {y : MethodName} {cc : ByteArray} {ml : Nat} {ret : Option FieldType} {h mc ms n0 : Nat} {Ret : zRT} {K : zKT} (C : zX y cc ml ret h mc ms n0 Ret K) {pc : Nat} {Lo : List (Option zV)} {st : List zV} {n : Nat} {σ : zS} {w : Nat} {v : zV} (d : decode cc pc = .ok (.dup, 1)) (hw : zwide v = false) (k : K (pc + 1) Lo (v :: v :: st) n σ w) : K pc Lo (v :: st) n σ w := by
  obtain ⟨p, l, e, R, s, m, args, below, meth, c, Q, g, ⟨hx, hb, hml, hown, hts, hK, hin⟩, hR, hsz, rfl, hrt⟩ := C
  intro ls H locs hn hl hP hS
  exact lv_dup hx hb d ((lv_cat _).resolve_right (fun q => by rw [(zcat_wide g v).mp q] at hw; cases hw)) (k ls H locs hn hl hP hS)
set_option maxHeartbeats 2000000 in
theorem x_dup2 {y : MethodName} {cc : ByteArray} {ml : Nat} {ret : Option FieldType} {h mc ms n0 : Nat} {Ret : zRT} {K : zKT} (C : zX y cc ml ret h mc ms n0 Ret K) {pc : Nat} {Lo : List (Option zV)} {st : List zV} {n : Nat} {σ : zS} {w : Nat} {v u : zV} (d : decode cc pc = .ok (.dup2, 1)) (hw : zwide v = false ∧ zwide u = false) (k : K (pc + 1) Lo (v :: u :: v :: u :: st) n σ w) : K pc Lo (v :: u :: st) n σ w := by
  obtain ⟨p, l, e, R, s, m, args, below, meth, c, Q, g, ⟨hx, hb, hml, hown, hts, hK, hin⟩, hR, hsz, rfl, hrt⟩ := C
  intro ls H locs hn hl hP hS
  exact lv_dup2_11 hx hb d ((lv_cat _).resolve_right (fun q => by have := (zcat_wide g _).mp q; simp [hw.1, hw.2] at this)) ((lv_cat _).resolve_right (fun q => by have := (zcat_wide g _).mp q; simp [hw.1, hw.2] at this)) (k ls H locs hn hl hP hS)
set_option maxHeartbeats 2000000 in
theorem x_goto {y : MethodName} {cc : ByteArray} {ml : Nat} {ret : Option FieldType} {h mc ms n0 : Nat} {Ret : zRT} {K : zKT} (C : zX y cc ml ret h mc ms n0 Ret K) {pc : Nat} {Lo : List (Option zV)} {st : List zV} {n : Nat} {σ : zS} {w : Nat} {off : Int} {tgt : Nat} (d : decode cc pc = .ok (.goto off, 3)) (ht : (pc : Int) + off = (tgt : Int)) (k : K tgt Lo st n σ w) : K pc Lo st n σ w := by
  obtain ⟨p, l, e, R, s, m, args, below, meth, c, Q, g, ⟨hx, hb, hml, hown, hts, hK, hin⟩, hR, hsz, rfl, hrt⟩ := C
  intro ls H locs hn hl hP hS
  exact lv_goto hx hb d ht (k ls H locs hn hl hP hS)
set_option maxHeartbeats 2000000 in
theorem x_icmp_eq {y : MethodName} {cc : ByteArray} {ml : Nat} {ret : Option FieldType} {h mc ms n0 : Nat} {Ret : zRT} {K : zKT} (C : zX y cc ml ret h mc ms n0 Ret K) {pc : Nat} {Lo : List (Option zV)} {st : List zV} {n : Nat} {σ : zS} {w : Nat} {a b : Int} {off : Int} {tgt : Nat} (d : decode cc pc = .ok (.if_icmp .eq off, 3)) (ht : (pc : Int) + off = (tgt : Int)) (hr : (-2147483648 ≤ a ∧ a < 2147483648) ∧ (-2147483648 ≤ b ∧ b < 2147483648)) (kt : a = b → K tgt Lo st n σ w) (kf : ¬ a = b → K (pc + 3) Lo st n σ w) : K pc Lo (zi b :: zi a :: st) n σ w := by
  obtain ⟨p, l, e, R, s, m, args, below, meth, c, Q, g, ⟨hx, hb, hml, hown, hts, hK, hin⟩, hR, hsz, rfl, hrt⟩ := C
  intro ls H locs hn hl hP hS
  have hr2 := And.intro hr.2 hr.1
  exact lv_icmp_eq hx hb d ht (fun q => kt ((zI_eq hr).mp q) ls H locs hn hl hP hS) (fun q => kf (fun z => q ((zI_eq hr).mpr z)) ls H locs hn hl hP hS)
set_option maxHeartbeats 2000000 in
theorem x_if_eq {y : MethodName} {cc : ByteArray} {ml : Nat} {ret : Option FieldType} {h mc ms n0 : Nat} {Ret : zRT} {K : zKT} (C : zX y cc ml ret h mc ms n0 Ret K) {pc : Nat} {Lo : List (Option zV)} {st : List zV} {n : Nat} {σ : zS} {w : Nat} {a : Int} {off : Int} {tgt : Nat} (d : decode cc pc = .ok (.ifCond .eq off, 3)) (ht : (pc : Int) + off = (tgt : Int)) (hr0 : -2147483648 ≤ a ∧ a < 2147483648) (kt : a = 0 → K tgt Lo st n σ w) (kf : ¬ a = 0 → K (pc + 3) Lo st n σ w) : K pc Lo (zi a :: st) n σ w := by
  obtain ⟨p, l, e, R, s, m, args, below, meth, c, Q, g, ⟨hx, hb, hml, hown, hts, hK, hin⟩, hR, hsz, rfl, hrt⟩ := C
  intro ls H locs hn hl hP hS
  have hr : (-2147483648 ≤ a ∧ a < 2147483648) ∧ (-2147483648 ≤ (0 : Int) ∧ (0 : Int) < 2147483648) := And.intro hr0 (by omega)
  have hr2 := And.intro hr.2 hr.1
  exact lv_if_eq hx hb d ht (fun q => kt ((zI_eq hr).mp q) ls H locs hn hl hP hS) (fun q => kf (fun z => q ((zI_eq hr).mpr z)) ls H locs hn hl hP hS)
set_option maxHeartbeats 2000000 in
theorem x_icmp_ne {y : MethodName} {cc : ByteArray} {ml : Nat} {ret : Option FieldType} {h mc ms n0 : Nat} {Ret : zRT} {K : zKT} (C : zX y cc ml ret h mc ms n0 Ret K) {pc : Nat} {Lo : List (Option zV)} {st : List zV} {n : Nat} {σ : zS} {w : Nat} {a b : Int} {off : Int} {tgt : Nat} (d : decode cc pc = .ok (.if_icmp .ne off, 3)) (ht : (pc : Int) + off = (tgt : Int)) (hr : (-2147483648 ≤ a ∧ a < 2147483648) ∧ (-2147483648 ≤ b ∧ b < 2147483648)) (kt : ¬ a = b → K tgt Lo st n σ w) (kf : a = b → K (pc + 3) Lo st n σ w) : K pc Lo (zi b :: zi a :: st) n σ w := by
  obtain ⟨p, l, e, R, s, m, args, below, meth, c, Q, g, ⟨hx, hb, hml, hown, hts, hK, hin⟩, hR, hsz, rfl, hrt⟩ := C
  intro ls H locs hn hl hP hS
  have hr2 := And.intro hr.2 hr.1
  exact lv_icmp_ne hx hb d ht (fun q => kt (fun z => q ((zI_eq hr).mpr z)) ls H locs hn hl hP hS) (fun q => kf ((zI_eq hr).mp q) ls H locs hn hl hP hS)
set_option maxHeartbeats 2000000 in
theorem x_if_ne {y : MethodName} {cc : ByteArray} {ml : Nat} {ret : Option FieldType} {h mc ms n0 : Nat} {Ret : zRT} {K : zKT} (C : zX y cc ml ret h mc ms n0 Ret K) {pc : Nat} {Lo : List (Option zV)} {st : List zV} {n : Nat} {σ : zS} {w : Nat} {a : Int} {off : Int} {tgt : Nat} (d : decode cc pc = .ok (.ifCond .ne off, 3)) (ht : (pc : Int) + off = (tgt : Int)) (hr0 : -2147483648 ≤ a ∧ a < 2147483648) (kt : ¬ a = 0 → K tgt Lo st n σ w) (kf : a = 0 → K (pc + 3) Lo st n σ w) : K pc Lo (zi a :: st) n σ w := by
  obtain ⟨p, l, e, R, s, m, args, below, meth, c, Q, g, ⟨hx, hb, hml, hown, hts, hK, hin⟩, hR, hsz, rfl, hrt⟩ := C
  intro ls H locs hn hl hP hS
  have hr : (-2147483648 ≤ a ∧ a < 2147483648) ∧ (-2147483648 ≤ (0 : Int) ∧ (0 : Int) < 2147483648) := And.intro hr0 (by omega)
  have hr2 := And.intro hr.2 hr.1
  exact lv_if_ne hx hb d ht (fun q => kt (fun z => q ((zI_eq hr).mpr z)) ls H locs hn hl hP hS) (fun q => kf ((zI_eq hr).mp q) ls H locs hn hl hP hS)
set_option maxHeartbeats 2000000 in
theorem x_icmp_lt {y : MethodName} {cc : ByteArray} {ml : Nat} {ret : Option FieldType} {h mc ms n0 : Nat} {Ret : zRT} {K : zKT} (C : zX y cc ml ret h mc ms n0 Ret K) {pc : Nat} {Lo : List (Option zV)} {st : List zV} {n : Nat} {σ : zS} {w : Nat} {a b : Int} {off : Int} {tgt : Nat} (d : decode cc pc = .ok (.if_icmp .lt off, 3)) (ht : (pc : Int) + off = (tgt : Int)) (hr : (-2147483648 ≤ a ∧ a < 2147483648) ∧ (-2147483648 ≤ b ∧ b < 2147483648)) (kt : a < b → K tgt Lo st n σ w) (kf : b ≤ a → K (pc + 3) Lo st n σ w) : K pc Lo (zi b :: zi a :: st) n σ w := by
  obtain ⟨p, l, e, R, s, m, args, below, meth, c, Q, g, ⟨hx, hb, hml, hown, hts, hK, hin⟩, hR, hsz, rfl, hrt⟩ := C
  intro ls H locs hn hl hP hS
  have hr2 := And.intro hr.2 hr.1
  exact lv_icmp_lt hx hb d ht (fun q => kt ((zI_lt hr).mp q) ls H locs hn hl hP hS) (fun q => kf (Int.not_lt.mp (fun z => q ((zI_lt hr).mpr z))) ls H locs hn hl hP hS)
set_option maxHeartbeats 2000000 in
theorem x_if_lt {y : MethodName} {cc : ByteArray} {ml : Nat} {ret : Option FieldType} {h mc ms n0 : Nat} {Ret : zRT} {K : zKT} (C : zX y cc ml ret h mc ms n0 Ret K) {pc : Nat} {Lo : List (Option zV)} {st : List zV} {n : Nat} {σ : zS} {w : Nat} {a : Int} {off : Int} {tgt : Nat} (d : decode cc pc = .ok (.ifCond .lt off, 3)) (ht : (pc : Int) + off = (tgt : Int)) (hr0 : -2147483648 ≤ a ∧ a < 2147483648) (kt : a < 0 → K tgt Lo st n σ w) (kf : 0 ≤ a → K (pc + 3) Lo st n σ w) : K pc Lo (zi a :: st) n σ w := by
  obtain ⟨p, l, e, R, s, m, args, below, meth, c, Q, g, ⟨hx, hb, hml, hown, hts, hK, hin⟩, hR, hsz, rfl, hrt⟩ := C
  intro ls H locs hn hl hP hS
  have hr : (-2147483648 ≤ a ∧ a < 2147483648) ∧ (-2147483648 ≤ (0 : Int) ∧ (0 : Int) < 2147483648) := And.intro hr0 (by omega)
  have hr2 := And.intro hr.2 hr.1
  exact lv_if_lt hx hb d ht (fun q => kt ((zI_lt hr).mp q) ls H locs hn hl hP hS) (fun q => kf (Int.not_lt.mp (fun z => q ((zI_lt hr).mpr z))) ls H locs hn hl hP hS)
set_option maxHeartbeats 2000000 in
theorem x_icmp_ge {y : MethodName} {cc : ByteArray} {ml : Nat} {ret : Option FieldType} {h mc ms n0 : Nat} {Ret : zRT} {K : zKT} (C : zX y cc ml ret h mc ms n0 Ret K) {pc : Nat} {Lo : List (Option zV)} {st : List zV} {n : Nat} {σ : zS} {w : Nat} {a b : Int} {off : Int} {tgt : Nat} (d : decode cc pc = .ok (.if_icmp .ge off, 3)) (ht : (pc : Int) + off = (tgt : Int)) (hr : (-2147483648 ≤ a ∧ a < 2147483648) ∧ (-2147483648 ≤ b ∧ b < 2147483648)) (kt : b ≤ a → K tgt Lo st n σ w) (kf : a < b → K (pc + 3) Lo st n σ w) : K pc Lo (zi b :: zi a :: st) n σ w := by
  obtain ⟨p, l, e, R, s, m, args, below, meth, c, Q, g, ⟨hx, hb, hml, hown, hts, hK, hin⟩, hR, hsz, rfl, hrt⟩ := C
  intro ls H locs hn hl hP hS
  have hr2 := And.intro hr.2 hr.1
  exact lv_icmp_ge hx hb d ht (fun q => kt ((zI_le hr2).mp q) ls H locs hn hl hP hS) (fun q => kf (Int.not_le.mp (fun z => q ((zI_le hr2).mpr z))) ls H locs hn hl hP hS)
set_option maxHeartbeats 2000000 in
theorem x_if_ge {y : MethodName} {cc : ByteArray} {ml : Nat} {ret : Option FieldType} {h mc ms n0 : Nat} {Ret : zRT} {K : zKT} (C : zX y cc ml ret h mc ms n0 Ret K) {pc : Nat} {Lo : List (Option zV)} {st : List zV} {n : Nat} {σ : zS} {w : Nat} {a : Int} {off : Int} {tgt : Nat} (d : decode cc pc = .ok (.ifCond .ge off, 3)) (ht : (pc : Int) + off = (tgt : Int)) (hr0 : -2147483648 ≤ a ∧ a < 2147483648) (kt : 0 ≤ a → K tgt Lo st n σ w) (kf : a < 0 → K (pc + 3) Lo st n σ w) : K pc Lo (zi a :: st) n σ w := by
  obtain ⟨p, l, e, R, s, m, args, below, meth, c, Q, g, ⟨hx, hb, hml, hown, hts, hK, hin⟩, hR, hsz, rfl, hrt⟩ := C
  intro ls H locs hn hl hP hS
  have hr : (-2147483648 ≤ a ∧ a < 2147483648) ∧ (-2147483648 ≤ (0 : Int) ∧ (0 : Int) < 2147483648) := And.intro hr0 (by omega)
  have hr2 := And.intro hr.2 hr.1
  exact lv_if_ge hx hb d ht (fun q => kt ((zI_le hr2).mp q) ls H locs hn hl hP hS) (fun q => kf (Int.not_le.mp (fun z => q ((zI_le hr2).mpr z))) ls H locs hn hl hP hS)
set_option maxHeartbeats 2000000 in
theorem x_icmp_gt {y : MethodName} {cc : ByteArray} {ml : Nat} {ret : Option FieldType} {h mc ms n0 : Nat} {Ret : zRT} {K : zKT} (C : zX y cc ml ret h mc ms n0 Ret K) {pc : Nat} {Lo : List (Option zV)} {st : List zV} {n : Nat} {σ : zS} {w : Nat} {a b : Int} {off : Int} {tgt : Nat} (d : decode cc pc = .ok (.if_icmp .gt off, 3)) (ht : (pc : Int) + off = (tgt : Int)) (hr : (-2147483648 ≤ a ∧ a < 2147483648) ∧ (-2147483648 ≤ b ∧ b < 2147483648)) (kt : b < a → K tgt Lo st n σ w) (kf : a ≤ b → K (pc + 3) Lo st n σ w) : K pc Lo (zi b :: zi a :: st) n σ w := by
  obtain ⟨p, l, e, R, s, m, args, below, meth, c, Q, g, ⟨hx, hb, hml, hown, hts, hK, hin⟩, hR, hsz, rfl, hrt⟩ := C
  intro ls H locs hn hl hP hS
  have hr2 := And.intro hr.2 hr.1
  exact lv_icmp_gt hx hb d ht (fun q => kt ((zI_lt hr2).mp q) ls H locs hn hl hP hS) (fun q => kf (Int.not_lt.mp (fun z => q ((zI_lt hr2).mpr z))) ls H locs hn hl hP hS)
set_option maxHeartbeats 2000000 in
theorem x_if_gt {y : MethodName} {cc : ByteArray} {ml : Nat} {ret : Option FieldType} {h mc ms n0 : Nat} {Ret : zRT} {K : zKT} (C : zX y cc ml ret h mc ms n0 Ret K) {pc : Nat} {Lo : List (Option zV)} {st : List zV} {n : Nat} {σ : zS} {w : Nat} {a : Int} {off : Int} {tgt : Nat} (d : decode cc pc = .ok (.ifCond .gt off, 3)) (ht : (pc : Int) + off = (tgt : Int)) (hr0 : -2147483648 ≤ a ∧ a < 2147483648) (kt : 0 < a → K tgt Lo st n σ w) (kf : a ≤ 0 → K (pc + 3) Lo st n σ w) : K pc Lo (zi a :: st) n σ w := by
  obtain ⟨p, l, e, R, s, m, args, below, meth, c, Q, g, ⟨hx, hb, hml, hown, hts, hK, hin⟩, hR, hsz, rfl, hrt⟩ := C
  intro ls H locs hn hl hP hS
  have hr : (-2147483648 ≤ a ∧ a < 2147483648) ∧ (-2147483648 ≤ (0 : Int) ∧ (0 : Int) < 2147483648) := And.intro hr0 (by omega)
  have hr2 := And.intro hr.2 hr.1
  exact lv_if_gt hx hb d ht (fun q => kt ((zI_lt hr2).mp q) ls H locs hn hl hP hS) (fun q => kf (Int.not_lt.mp (fun z => q ((zI_lt hr2).mpr z))) ls H locs hn hl hP hS)
set_option maxHeartbeats 2000000 in
theorem x_icmp_le {y : MethodName} {cc : ByteArray} {ml : Nat} {ret : Option FieldType} {h mc ms n0 : Nat} {Ret : zRT} {K : zKT} (C : zX y cc ml ret h mc ms n0 Ret K) {pc : Nat} {Lo : List (Option zV)} {st : List zV} {n : Nat} {σ : zS} {w : Nat} {a b : Int} {off : Int} {tgt : Nat} (d : decode cc pc = .ok (.if_icmp .le off, 3)) (ht : (pc : Int) + off = (tgt : Int)) (hr : (-2147483648 ≤ a ∧ a < 2147483648) ∧ (-2147483648 ≤ b ∧ b < 2147483648)) (kt : a ≤ b → K tgt Lo st n σ w) (kf : b < a → K (pc + 3) Lo st n σ w) : K pc Lo (zi b :: zi a :: st) n σ w := by
  obtain ⟨p, l, e, R, s, m, args, below, meth, c, Q, g, ⟨hx, hb, hml, hown, hts, hK, hin⟩, hR, hsz, rfl, hrt⟩ := C
  intro ls H locs hn hl hP hS
  have hr2 := And.intro hr.2 hr.1
  exact lv_icmp_le hx hb d ht (fun q => kt ((zI_le hr).mp q) ls H locs hn hl hP hS) (fun q => kf (Int.not_le.mp (fun z => q ((zI_le hr).mpr z))) ls H locs hn hl hP hS)
set_option maxHeartbeats 2000000 in
theorem x_if_le {y : MethodName} {cc : ByteArray} {ml : Nat} {ret : Option FieldType} {h mc ms n0 : Nat} {Ret : zRT} {K : zKT} (C : zX y cc ml ret h mc ms n0 Ret K) {pc : Nat} {Lo : List (Option zV)} {st : List zV} {n : Nat} {σ : zS} {w : Nat} {a : Int} {off : Int} {tgt : Nat} (d : decode cc pc = .ok (.ifCond .le off, 3)) (ht : (pc : Int) + off = (tgt : Int)) (hr0 : -2147483648 ≤ a ∧ a < 2147483648) (kt : a ≤ 0 → K tgt Lo st n σ w) (kf : 0 < a → K (pc + 3) Lo st n σ w) : K pc Lo (zi a :: st) n σ w := by
  obtain ⟨p, l, e, R, s, m, args, below, meth, c, Q, g, ⟨hx, hb, hml, hown, hts, hK, hin⟩, hR, hsz, rfl, hrt⟩ := C
  intro ls H locs hn hl hP hS
  have hr : (-2147483648 ≤ a ∧ a < 2147483648) ∧ (-2147483648 ≤ (0 : Int) ∧ (0 : Int) < 2147483648) := And.intro hr0 (by omega)
  have hr2 := And.intro hr.2 hr.1
  exact lv_if_le hx hb d ht (fun q => kt ((zI_le hr).mp q) ls H locs hn hl hP hS) (fun q => kf (Int.not_le.mp (fun z => q ((zI_le hr).mpr z))) ls H locs hn hl hP hS)
set_option maxHeartbeats 2000000 in
theorem x_icmp_eqr {y : MethodName} {cc : ByteArray} {ml : Nat} {ret : Option FieldType} {h mc ms n0 : Nat} {Ret : zRT} {K : zKT} (C : zX y cc ml ret h mc ms n0 Ret K) {pc : Nat} {Lo : List (Option zV)} {st : List zV} {n : Nat} {σ : zS} {w : Nat} {a b : Int} {off : Int} {tgt : Nat} (d : decode cc pc = .ok (.if_icmp .eq off, 3)) (ht : (pc : Int) + off = (tgt : Int)) (hab : a = b) (kt : K tgt Lo st n σ w) : K pc Lo (zi b :: zi a :: st) n σ w := by
  obtain ⟨p, l, e, R, s, m, args, below, meth, c, Q, g, ⟨hx, hb, hml, hown, hts, hK, hin⟩, hR, hsz, rfl, hrt⟩ := C
  intro ls H locs hn hl hP hS
  subst hab
  exact lv_icmp_eq hx hb d ht (fun q => kt ls H locs hn hl hP hS) (fun q => absurd rfl q)
set_option maxHeartbeats 2000000 in
theorem x_ifeq_b {y : MethodName} {cc : ByteArray} {ml : Nat} {ret : Option FieldType} {h mc ms n0 : Nat} {Ret : zRT} {K : zKT} (C : zX y cc ml ret h mc ms n0 Ret K) {pc : Nat} {Lo : List (Option zV)} {st : List zV} {n : Nat} {σ : zS} {w : Nat} {b : Bool} {off : Int} {tgt : Nat} (d : decode cc pc = .ok (.ifCond .eq off, 3)) (ht : (pc : Int) + off = (tgt : Int)) (kt : b = false → K tgt Lo st n σ w) (kf : b = true → K (pc + 3) Lo st n σ w) : K pc Lo (zi (zb b) :: st) n σ w := by
  obtain ⟨p, l, e, R, s, m, args, below, meth, c, Q, g, ⟨hx, hb, hml, hown, hts, hK, hin⟩, hR, hsz, rfl, hrt⟩ := C
  intro ls H locs hn hl hP hS
  cases b with
  | false => exact lv_if_eq hx hb d ht (fun q => kt rfl ls H locs hn hl hP hS) (fun q => absurd rfl q)
  | true => exact lv_if_eq hx hb d ht (fun q => absurd q (by decide)) (fun q => kf rfl ls H locs hn hl hP hS)
set_option maxHeartbeats 2000000 in
theorem x_ifne_b {y : MethodName} {cc : ByteArray} {ml : Nat} {ret : Option FieldType} {h mc ms n0 : Nat} {Ret : zRT} {K : zKT} (C : zX y cc ml ret h mc ms n0 Ret K) {pc : Nat} {Lo : List (Option zV)} {st : List zV} {n : Nat} {σ : zS} {w : Nat} {b : Bool} {off : Int} {tgt : Nat} (d : decode cc pc = .ok (.ifCond .ne off, 3)) (ht : (pc : Int) + off = (tgt : Int)) (kt : b = true → K tgt Lo st n σ w) (kf : b = false → K (pc + 3) Lo st n σ w) : K pc Lo (zi (zb b) :: st) n σ w := by
  obtain ⟨p, l, e, R, s, m, args, below, meth, c, Q, g, ⟨hx, hb, hml, hown, hts, hK, hin⟩, hR, hsz, rfl, hrt⟩ := C
  intro ls H locs hn hl hP hS
  cases b with
  | true => exact lv_if_ne hx hb d ht (fun q => kt rfl ls H locs hn hl hP hS) (fun q => absurd (by decide) q)
  | false => exact lv_if_ne hx hb d ht (fun q => absurd rfl q) (fun q => kf rfl ls H locs hn hl hP hS)
set_option maxHeartbeats 2000000 in
theorem x_tableIn {y : MethodName} {cc : ByteArray} {ml : Nat} {ret : Option FieldType} {h mc ms n0 : Nat} {Ret : zRT} {K : zKT} (C : zX y cc ml ret h mc ms n0 Ret K) {pc : Nat} {Lo : List (Option zV)} {st : List zV} {n : Nat} {σ : zS} {w : Nat} {a : Int} {dflt lo hi : Int} {offs : Array Int} {len : Nat} {off : Int} {tgt : Nat} (d : decode cc pc = .ok (.tableswitch dflt lo hi offs, len)) (hr : (-2147483648 ≤ a ∧ a < 2147483648) ∧ lo ≤ a ∧ a ≤ hi) (ho : offs[(a - lo).toNat]? = some off) (ht : (pc : Int) + off = (tgt : Int)) (k : K tgt Lo st n σ w) : K pc Lo (zi a :: st) n σ w := by
  obtain ⟨p, l, e, R, s, m, args, below, meth, c, Q, g, ⟨hx, hb, hml, hown, hts, hK, hin⟩, hR, hsz, rfl, hrt⟩ := C
  intro ls H locs hn hl hP hS
  refine lv_tableIn hx hb d ?_ ?_ ?_ ht (k ls H locs hn hl hP hS)
  · rw [zI_t hr.1]; omega
  · rw [zI_t hr.1]; omega
  · rw [zI_t hr.1]; exact ho
set_option maxHeartbeats 2000000 in
theorem x_tableOut {y : MethodName} {cc : ByteArray} {ml : Nat} {ret : Option FieldType} {h mc ms n0 : Nat} {Ret : zRT} {K : zKT} (C : zX y cc ml ret h mc ms n0 Ret K) {pc : Nat} {Lo : List (Option zV)} {st : List zV} {n : Nat} {σ : zS} {w : Nat} {a : Int} {dflt lo hi : Int} {offs : Array Int} {len : Nat} {tgt : Nat} (d : decode cc pc = .ok (.tableswitch dflt lo hi offs, len)) (hr : (-2147483648 ≤ a ∧ a < 2147483648) ∧ (a < lo ∨ hi < a)) (ht : (pc : Int) + dflt = (tgt : Int)) (k : K tgt Lo st n σ w) : K pc Lo (zi a :: st) n σ w := by
  obtain ⟨p, l, e, R, s, m, args, below, meth, c, Q, g, ⟨hx, hb, hml, hown, hts, hK, hin⟩, hR, hsz, rfl, hrt⟩ := C
  intro ls H locs hn hl hP hS
  refine lv_tableOut hx hb d ?_ ht (k ls H locs hn hl hP hS)
  rw [zI_t hr.1]; exact hr.2
set_option maxHeartbeats 2000000 in
theorem x_lookup {y : MethodName} {cc : ByteArray} {ml : Nat} {ret : Option FieldType} {h mc ms n0 : Nat} {Ret : zRT} {K : zKT} (C : zX y cc ml ret h mc ms n0 Ret K) {pc : Nat} {Lo : List (Option zV)} {st : List zV} {n : Nat} {σ : zS} {w : Nat} {a : Int} {dflt : Int} {ps : Array (Int × Int)} {len : Nat} {off : Int} {tgt : Nat} (d : decode cc pc = .ok (.lookupswitch dflt ps, len)) (hr : -2147483648 ≤ a ∧ a < 2147483648) (hp : (ps.toList.zip (ps.toList.drop 1)).all (fun (a, next) => a.1 < next.1) = true) (ho : Op.lookupswitch.offset ps.toList dflt a = off) (ht : (pc : Int) + off = (tgt : Int)) (k : K tgt Lo st n σ w) : K pc Lo (zi a :: st) n σ w := by
  obtain ⟨p, l, e, R, s, m, args, below, meth, c, Q, g, ⟨hx, hb, hml, hown, hts, hK, hin⟩, hR, hsz, rfl, hrt⟩ := C
  intro ls H locs hn hl hP hS
  refine lv_lookup hx hb d hp ?_ ht (k ls H locs hn hl hP hS)
  rw [zI_t hr]; exact ho
set_option maxHeartbeats 2000000 in
theorem x_weak {y : MethodName} {cc : ByteArray} {ml : Nat} {ret : Option FieldType} {h mc ms n0 : Nat} {Ret : zRT} {K : zKT} (C : zX y cc ml ret h mc ms n0 Ret K) {pc : Nat} {Lo : List (Option zV)} {st : List zV} {n : Nat} {σ : zS} {w : Nat} {Lo' : List (Option zV)} (hw : ∀ (j : Nat) (u : zV), zg Lo' j = some u → zg Lo j = some u) (k : K pc Lo' st n σ w) : K pc Lo st n σ w := by
  obtain ⟨p, l, e, R, s, m, args, below, meth, c, Q, g, ⟨hx, hb, hml, hown, hts, hK, hin⟩, hR, hsz, rfl, hrt⟩ := C
  intro ls H locs hn hl hP hS
  exact k ls H locs hn (hl.weak hw) hP hS
set_option maxHeartbeats 2000000 in
theorem x_vret {y : MethodName} {cc : ByteArray} {ml : Nat} {ret : Option FieldType} {h mc ms n0 : Nat} {Ret : zRT} {K : zKT} (C : zX y cc ml ret h mc ms n0 Ret K) {pc : Nat} {Lo : List (Option zV)} {st : List zV} {n : Nat} {σ : zS} {w : Nat} (d : decode cc pc = .ok (.return_, 1)) (hy : ret = none) (hR : Ret none n σ w) : K pc Lo [] n σ w := by
  obtain ⟨p, l, e, R, s, m, args, below, meth, c, Q, g, hF, hRm, hsz, hKe, hrt⟩ := C
  exact hrt none pc Lo [] n σ w (Or.inl ⟨d, hy, rfl, rfl⟩) hR
set_option maxHeartbeats 2000000 in
theorem x_iret {y : MethodName} {cc : ByteArray} {ml : Nat} {ret : Option FieldType} {h mc ms n0 : Nat} {Ret : zRT} {K : zKT} (C : zX y cc ml ret h mc ms n0 Ret K) {pc : Nat} {Lo : List (Option zV)} {st : List zV} {n : Nat} {σ : zS} {w : Nat} {x : Int} (d : decode cc pc = .ok (.ireturn, 1)) (hy : ret = some .int) (hR : Ret (some (zi x)) n σ w) : K pc Lo [zi x] n σ w := by
  obtain ⟨p, l, e, R, s, m, args, below, meth, c, Q, g, hF, hRm, hsz, hKe, hrt⟩ := C
  exact hrt _ pc Lo [zi x] n σ w (Or.inr (Or.inl ⟨d, hy, x, rfl, rfl⟩)) hR
set_option maxHeartbeats 2000000 in
theorem x_zret {y : MethodName} {cc : ByteArray} {ml : Nat} {ret : Option FieldType} {h mc ms n0 : Nat} {Ret : zRT} {K : zKT} (C : zX y cc ml ret h mc ms n0 Ret K) {pc : Nat} {Lo : List (Option zV)} {st : List zV} {n : Nat} {σ : zS} {w : Nat} {b : Bool} (d : decode cc pc = .ok (.ireturn, 1)) (hy : ret = some .boolean) (hR : Ret (some (zi (zb b))) n σ w) : K pc Lo [zi (zb b)] n σ w := by
  obtain ⟨p, l, e, R, s, m, args, below, meth, c, Q, g, hF, hRm, hsz, hKe, hrt⟩ := C
  exact hrt _ pc Lo [zi (zb b)] n σ w (Or.inr (Or.inr (Or.inl ⟨d, hy, zb b, zb_01 b, rfl, rfl⟩))) hR
set_option maxHeartbeats 2000000 in
theorem x_lret {y : MethodName} {cc : ByteArray} {ml : Nat} {ret : Option FieldType} {h mc ms n0 : Nat} {Ret : zRT} {K : zKT} (C : zX y cc ml ret h mc ms n0 Ret K) {pc : Nat} {Lo : List (Option zV)} {st : List zV} {n : Nat} {σ : zS} {w : Nat} {x : Int} (d : decode cc pc = .ok (.lreturn, 1)) (hy : ret = some .long) (hR : Ret (some (zl x)) n σ w) : K pc Lo [zl x] n σ w := by
  obtain ⟨p, l, e, R, s, m, args, below, meth, c, Q, g, hF, hRm, hsz, hKe, hrt⟩ := C
  exact hrt _ pc Lo [zl x] n σ w (Or.inr (Or.inr (Or.inr ⟨d, hy, x, rfl, rfl⟩))) hR
set_option maxHeartbeats 2000000 in
theorem x_getfield {y : MethodName} {cc : ByteArray} {ml : Nat} {ret : Option FieldType} {h mc ms n0 : Nat} {Ret : zRT} {K : zKT} (C : zX y cc ml ret h mc ms n0 Ret K) {pc : Nat} {Lo : List (Option zV)} {st : List zV} {n : Nat} {σ : zS} {w : Nat} {idx ci j : Nat} {o : Int} {vs : List zV} {v : zV} (d : decode cc pc = .ok (.getfield idx, 3)) (lf : zFl y.cls idx ci j) (ho : σ o = zO ci vs) (hk : 0 < o ∧ o ≤ n) (hv : vs[j]? = some v) (k : K (pc + 3) Lo (v :: st) n σ w) : K pc Lo (zr o :: st) n σ w := by
  obtain ⟨p, l, e, R, s, m, args, below, meth, c, Q, g, ⟨hx, hb, hml, hown, hts, hK, hin⟩, hR, hsz, rfl, hrt⟩ := C
  intro ls H locs hn hl hP hS
  obtain ⟨CC, T, N, h1, h2, h3, h4⟩ := lf
  have hat := zW_at g σ hk
  rw [ho] at hat
  exact va_get hx hb hts h4 hown hK.1 hP.2.2 (o - 1).toNat hat h1 j h2 (hts _ h3) (fun _ q => q) (v := zv g v) (by rw [List.getElem?_map, hv]; rfl) d (k ls H locs hn hl hP hS)
set_option maxHeartbeats 2000000 in
theorem x_getfieldN {y : MethodName} {cc : ByteArray} {ml : Nat} {ret : Option FieldType} {h mc ms n0 : Nat} {Ret : zRT} {K : zKT} (C : zX y cc ml ret h mc ms n0 Ret K) {pc : Nat} {Lo : List (Option zV)} {st : List zV} {n : Nat} {σ : zS} {w : Nat} {idx ci j : Nat} {o : Int} {vs : List zV} {v : zV} (d : decode cc pc = .ok (.getfield idx, 3)) (lf : zFn y.cls idx ci j) (ho : σ o = zO ci vs) (hk : 0 < o ∧ o ≤ n) (hv : vs[j]? = some v) (k : K (pc + 3) Lo (v :: st) n σ w) : K pc Lo (zr o :: st) n σ w := by
  obtain ⟨p, l, e, R, s, m, args, below, meth, c, Q, g, ⟨hx, hb, hml, hown, hts, hK, hin⟩, hR, hsz, rfl, hrt⟩ := C
  intro ls H locs hn hl hP hS
  obtain ⟨CC, T, N, h1, h2, h3, h4⟩ := lf
  have hat := zW_at g σ hk
  rw [ho] at hat
  exact va_getN hx hb hts h4 hown hK.1 hP.2.2 (o - 1).toNat hat h1 j h2 (va_Nw.use rfl (hK.2.1 _ h3)) (fun _ q => q) (v := zv g v) (by rw [List.getElem?_map, hv]; rfl) d (k ls H locs hn hl hP hS)
set_option maxHeartbeats 2000000 in
theorem x_putI {y : MethodName} {cc : ByteArray} {ml : Nat} {ret : Option FieldType} {h mc ms n0 : Nat} {Ret : zRT} {K : zKT} (C : zX y cc ml ret h mc ms n0 Ret K) {pc : Nat} {Lo : List (Option zV)} {st : List zV} {n : Nat} {σ : zS} {w : Nat} {idx ci j : Nat} {o : Int} {vs : List zV} {x : Int} (d : decode cc pc = .ok (.putfield idx, 3)) (lf : zFl y.cls idx ci j) (ly : zFy ci j false .int)  (ho : σ o = zO ci vs) (hk : 0 < o ∧ o ≤ n) (hj : j < vs.length) (k : K (pc + 3) Lo st n (zsu σ o (zO ci (vs.set j (zi x)))) w) : K pc Lo (zi x :: zr o :: st) n σ w := by
  obtain ⟨p, l, e, R, s, m, args, below, meth, c, Q, g, ⟨hx, hb, hml, hown, hts, hK, hin⟩, hR, hsz, rfl, hrt⟩ := C
  intro ls H locs hn hl hP hS
  obtain ⟨CC, T, N, h1, h2, h3, h4⟩ := lf
  obtain ⟨⟨ty0, f1⟩, f2, f3, f4, f5⟩ := ly CC T N h1
  have hat := zW_at g σ hk
  rw [ho] at hat
  refine va_put hx hb hts h4 ty0 f1 f2 hown hK.1 hP.2.2 (zD g n σ) hS (o - 1).toNat hat h1 j h2 (hts _ h3) (fun _ q => q) f3 f5 (v := zv g (zi x)) rfl rfl (by rw [List.length_map]; exact hj) d (fun H1 locs1 hP1 _ hS1 => ?_)
  refine k ls H1 locs1 hn hl (hP.set hk ?_) hS1
  have e : zc g (zO ci (vs.set j (zi x))) = Sum.inr (ci, (vs.map (zv g)).set j (zv g (zi x))) := by
    rw [← List.map_set]
    rfl
  rw [e]
  exact hP1
set_option maxHeartbeats 2000000 in
theorem x_putIN {y : MethodName} {cc : ByteArray} {ml : Nat} {ret : Option FieldType} {h mc ms n0 : Nat} {Ret : zRT} {K : zKT} (C : zX y cc ml ret h mc ms n0 Ret K) {pc : Nat} {Lo : List (Option zV)} {st : List zV} {n : Nat} {σ : zS} {w : Nat} {idx ci j : Nat} {o : Int} {vs : List zV} {x : Int} (d : decode cc pc = .ok (.putfield idx, 3)) (lf : zFn y.cls idx ci j) (ly : zFy ci j false .int)  (ho : σ o = zO ci vs) (hk : 0 < o ∧ o ≤ n) (hj : j < vs.length) (k : K (pc + 3) Lo st n (zsu σ o (zO ci (vs.set j (zi x)))) w) : K pc Lo (zi x :: zr o :: st) n σ w := by
  obtain ⟨p, l, e, R, s, m, args, below, meth, c, Q, g, ⟨hx, hb, hml, hown, hts, hK, hin⟩, hR, hsz, rfl, hrt⟩ := C
  intro ls H locs hn hl hP hS
  obtain ⟨CC, T, N, h1, h2, h3, h4⟩ := lf
  obtain ⟨⟨ty0, f1⟩, f2, f3, f4, f5⟩ := ly CC T N h1
  have hat := zW_at g σ hk
  rw [ho] at hat
  refine va_putN hx hb hts h4 ty0 f1 f2 hown hK.1 hP.2.2 (zD g n σ) hS (o - 1).toNat hat h1 j h2 (va_Nw.use rfl (hK.2.1 _ h3)) (fun _ q => q) f3 f5 (v := zv g (zi x)) rfl rfl (by rw [List.length_map]; exact hj) d (fun H1 locs1 hP1 _ hS1 => ?_)
  refine k ls H1 locs1 hn hl (hP.set hk ?_) hS1
  have e : zc g (zO ci (vs.set j (zi x))) = Sum.inr (ci, (vs.map (zv g)).set j (zv g (zi x))) := by
    rw [← List.map_set]
    rfl
  rw [e]
  exact hP1
set_option maxHeartbeats 2000000 in
theorem x_putZ {y : MethodName} {cc : ByteArray} {ml : Nat} {ret : Option FieldType} {h mc ms n0 : Nat} {Ret : zRT} {K : zKT} (C : zX y cc ml ret h mc ms n0 Ret K) {pc : Nat} {Lo : List (Option zV)} {st : List zV} {n : Nat} {σ : zS} {w : Nat} {idx ci j : Nat} {o : Int} {vs : List zV} {x : Int} (d : decode cc pc = .ok (.putfield idx, 3)) (lf : zFl y.cls idx ci j) (ly : zFy ci j false .boolean) (hx01 : x = 0 ∨ x = 1) (ho : σ o = zO ci vs) (hk : 0 < o ∧ o ≤ n) (hj : j < vs.length) (k : K (pc + 3) Lo st n (zsu σ o (zO ci (vs.set j (zi x)))) w) : K pc Lo (zi x :: zr o :: st) n σ w := by
  obtain ⟨p, l, e, R, s, m, args, below, meth, c, Q, g, ⟨hx, hb, hml, hown, hts, hK, hin⟩, hR, hsz, rfl, hrt⟩ := C
  intro ls H locs hn hl hP hS
  obtain ⟨CC, T, N, h1, h2, h3, h4⟩ := lf
  obtain ⟨⟨ty0, f1⟩, f2, f3, f4, f5⟩ := ly CC T N h1
  have hat := zW_at g σ hk
  rw [ho] at hat
  refine va_put hx hb hts h4 ty0 f1 f2 hown hK.1 hP.2.2 (zD g n σ) hS (o - 1).toNat hat h1 j h2 (hts _ h3) (fun _ q => q) f3 f5 (v := zv g (zi x)) (by rcases hx01 with rfl | rfl <;> rfl) (by rcases hx01 with rfl | rfl <;> rfl) (by rw [List.length_map]; exact hj) d (fun H1 locs1 hP1 _ hS1 => ?_)
  refine k ls H1 locs1 hn hl (hP.set hk ?_) hS1
  have e : zc g (zO ci (vs.set j (zi x))) = Sum.inr (ci, (vs.map (zv g)).set j (zv g (zi x))) := by
    rw [← List.map_set]
    rfl
  rw [e]
  exact hP1
set_option maxHeartbeats 2000000 in
theorem x_putZN {y : MethodName} {cc : ByteArray} {ml : Nat} {ret : Option FieldType} {h mc ms n0 : Nat} {Ret : zRT} {K : zKT} (C : zX y cc ml ret h mc ms n0 Ret K) {pc : Nat} {Lo : List (Option zV)} {st : List zV} {n : Nat} {σ : zS} {w : Nat} {idx ci j : Nat} {o : Int} {vs : List zV} {x : Int} (d : decode cc pc = .ok (.putfield idx, 3)) (lf : zFn y.cls idx ci j) (ly : zFy ci j false .boolean) (hx01 : x = 0 ∨ x = 1) (ho : σ o = zO ci vs) (hk : 0 < o ∧ o ≤ n) (hj : j < vs.length) (k : K (pc + 3) Lo st n (zsu σ o (zO ci (vs.set j (zi x)))) w) : K pc Lo (zi x :: zr o :: st) n σ w := by
  obtain ⟨p, l, e, R, s, m, args, below, meth, c, Q, g, ⟨hx, hb, hml, hown, hts, hK, hin⟩, hR, hsz, rfl, hrt⟩ := C
  intro ls H locs hn hl hP hS
  obtain ⟨CC, T, N, h1, h2, h3, h4⟩ := lf
  obtain ⟨⟨ty0, f1⟩, f2, f3, f4, f5⟩ := ly CC T N h1
  have hat := zW_at g σ hk
  rw [ho] at hat
  refine va_putN hx hb hts h4 ty0 f1 f2 hown hK.1 hP.2.2 (zD g n σ) hS (o - 1).toNat hat h1 j h2 (va_Nw.use rfl (hK.2.1 _ h3)) (fun _ q => q) f3 f5 (v := zv g (zi x)) (by rcases hx01 with rfl | rfl <;> rfl) (by rcases hx01 with rfl | rfl <;> rfl) (by rw [List.length_map]; exact hj) d (fun H1 locs1 hP1 _ hS1 => ?_)
  refine k ls H1 locs1 hn hl (hP.set hk ?_) hS1
  have e : zc g (zO ci (vs.set j (zi x))) = Sum.inr (ci, (vs.map (zv g)).set j (zv g (zi x))) := by
    rw [← List.map_set]
    rfl
  rw [e]
  exact hP1
set_option maxHeartbeats 2000000 in
theorem x_putFA {y : MethodName} {cc : ByteArray} {ml : Nat} {ret : Option FieldType} {h mc ms n0 : Nat} {Ret : zRT} {K : zKT} (C : zX y cc ml ret h mc ms n0 Ret K) {pc : Nat} {Lo : List (Option zV)} {st : List zV} {n : Nat} {σ : zS} {w : Nat} {idx ci j : Nat} {o : Int} {vs : List zV} {fa : FieldType} {x : Int} (d : decode cc pc = .ok (.putfield idx, 3)) (lf : zFl y.cls idx ci j) (ly : zFy ci j true (.array fa)) (hini : y.name = "<init>") (hdecl : ∀ (C0 : String) (T0 : u_T) (N0 : Nat), vwCl[ci]? = some (C0, T0, N0) → C0 = y.cls) (ho : σ o = zO ci vs) (hk : 0 < o ∧ o ≤ n) (hj : j < vs.length) (k : K (pc + 3) Lo st n (zsu σ o (zO ci (vs.set j (zr x)))) w) : K pc Lo (zr x :: zr o :: st) n σ w := by
  obtain ⟨p, l, e, R, s, m, args, below, meth, c, Q, g, ⟨hx, hb, hml, hown, hts, hK, hin⟩, hR, hsz, rfl, hrt⟩ := C
  intro ls H locs hn hl hP hS
  obtain ⟨CC, T, N, h1, h2, h3, h4⟩ := lf
  obtain ⟨⟨ty0, f1⟩, f2, f3, f4, f5⟩ := ly CC T N h1
  have hat := zW_at g σ hk
  rw [ho] at hat
  refine va_putF hx hb hts h4 ty0 f1 f2 hown hK.1 hP.2.2 (zD g n σ) hS (o - 1).toNat hat h1 j h2 (hts _ h3) (fun _ q => q) f3 (hin.trans hini) (f4.trans (hdecl CC T N h1)) f5 (v := zv g (zr x)) rfl rfl (by rw [List.length_map]; exact hj) d (fun H1 locs1 hP1 _ hS1 => ?_)
  refine k ls H1 locs1 hn hl (hP.set hk ?_) hS1
  have e : zc g (zO ci (vs.set j (zr x))) = Sum.inr (ci, (vs.map (zv g)).set j (zv g (zr x))) := by
    rw [← List.map_set]
    rfl
  rw [e]
  exact hP1
set_option maxHeartbeats 2000000 in
theorem x_putFO {y : MethodName} {cc : ByteArray} {ml : Nat} {ret : Option FieldType} {h mc ms n0 : Nat} {Ret : zRT} {K : zKT} (C : zX y cc ml ret h mc ms n0 Ret K) {pc : Nat} {Lo : List (Option zV)} {st : List zV} {n : Nat} {σ : zS} {w : Nat} {idx ci j : Nat} {o : Int} {vs : List zV} {fa : String} {x : Int} (d : decode cc pc = .ok (.putfield idx, 3)) (lf : zFl y.cls idx ci j) (ly : zFy ci j true (.object fa)) (hini : y.name = "<init>") (hdecl : ∀ (C0 : String) (T0 : u_T) (N0 : Nat), vwCl[ci]? = some (C0, T0, N0) → C0 = y.cls) (ho : σ o = zO ci vs) (hk : 0 < o ∧ o ≤ n) (hj : j < vs.length) (k : K (pc + 3) Lo st n (zsu σ o (zO ci (vs.set j (zr x)))) w) : K pc Lo (zr x :: zr o :: st) n σ w := by
  obtain ⟨p, l, e, R, s, m, args, below, meth, c, Q, g, ⟨hx, hb, hml, hown, hts, hK, hin⟩, hR, hsz, rfl, hrt⟩ := C
  intro ls H locs hn hl hP hS
  obtain ⟨CC, T, N, h1, h2, h3, h4⟩ := lf
  obtain ⟨⟨ty0, f1⟩, f2, f3, f4, f5⟩ := ly CC T N h1
  have hat := zW_at g σ hk
  rw [ho] at hat
  refine va_putF hx hb hts h4 ty0 f1 f2 hown hK.1 hP.2.2 (zD g n σ) hS (o - 1).toNat hat h1 j h2 (hts _ h3) (fun _ q => q) f3 (hin.trans hini) (f4.trans (hdecl CC T N h1)) f5 (v := zv g (zr x)) rfl rfl (by rw [List.length_map]; exact hj) d (fun H1 locs1 hP1 _ hS1 => ?_)
  refine k ls H1 locs1 hn hl (hP.set hk ?_) hS1
  have e : zc g (zO ci (vs.set j (zr x))) = Sum.inr (ci, (vs.map (zv g)).set j (zv g (zr x))) := by
    rw [← List.map_set]
    rfl
  rw [e]
  exact hP1
set_option maxHeartbeats 2000000 in
theorem x_iaload {y : MethodName} {cc : ByteArray} {ml : Nat} {ret : Option FieldType} {h mc ms n0 : Nat} {Ret : zRT} {K : zKT} (C : zX y cc ml ret h mc ms n0 Ret K) {pc : Nat} {Lo : List (Option zV)} {st : List zV} {n : Nat} {σ : zS} {w : Nat} {a : Int} {L : Nat} {f : Int → Int} {i : Int} (d : decode cc pc = .ok (.iaload, 1)) (ho : σ a = zP 0 L f) (hr : (0 < a ∧ a ≤ n) ∧ (0 ≤ i ∧ i < L) ∧ (L : Int) < 2147483648) (k : K (pc + 1) Lo (zi (f i) :: st) n σ w) : K pc Lo (zi i :: zr a :: st) n σ w := by
  obtain ⟨p, l, e, R, s, m, args, below, meth, c, Q, g, ⟨hx, hb, hml, hown, hts, hK, hin⟩, hR, hsz, rfl, hrt⟩ := C
  intro ls H locs hn hl hP hS
  have hat := zW_at g σ hr.1
  rw [ho] at hat
  refine va_iald hx hb hK.1 hP.2.2 (a - 1).toNat 0 hat rfl (zI_in hr.2.1 (by omega)) d ?_
  rw [zI_cl (by omega), Int.toNat_of_nonneg hr.2.1.1]
  exact k ls H locs hn hl hP hS
set_option maxHeartbeats 2000000 in
theorem x_baload {y : MethodName} {cc : ByteArray} {ml : Nat} {ret : Option FieldType} {h mc ms n0 : Nat} {Ret : zRT} {K : zKT} (C : zX y cc ml ret h mc ms n0 Ret K) {pc : Nat} {Lo : List (Option zV)} {st : List zV} {n : Nat} {σ : zS} {w : Nat} {a : Int} {L : Nat} {f : Int → Int} {i : Int} (d : decode cc pc = .ok (.baload, 1)) (ho : σ a = zP 1 L f) (hr : (0 < a ∧ a ≤ n) ∧ (0 ≤ i ∧ i < L) ∧ (L : Int) < 2147483648) (k : K (pc + 1) Lo (zi (f i) :: st) n σ w) : K pc Lo (zi i :: zr a :: st) n σ w := by
  obtain ⟨p, l, e, R, s, m, args, below, meth, c, Q, g, ⟨hx, hb, hml, hown, hts, hK, hin⟩, hR, hsz, rfl, hrt⟩ := C
  intro ls H locs hn hl hP hS
  have hat := zW_at g σ hr.1
  rw [ho] at hat
  refine va_zald hx hb hK.1 hP.2.2 (a - 1).toNat 1 hat rfl (zI_in hr.2.1 (by omega)) d ?_
  rw [zI_cl (by omega), Int.toNat_of_nonneg hr.2.1.1]
  exact k ls H locs hn hl hP hS
set_option maxHeartbeats 2000000 in
theorem x_caload {y : MethodName} {cc : ByteArray} {ml : Nat} {ret : Option FieldType} {h mc ms n0 : Nat} {Ret : zRT} {K : zKT} (C : zX y cc ml ret h mc ms n0 Ret K) {pc : Nat} {Lo : List (Option zV)} {st : List zV} {n : Nat} {σ : zS} {w : Nat} {a : Int} {L : Nat} {f : Int → Int} {i : Int} (d : decode cc pc = .ok (.caload, 1)) (ho : σ a = zP 2 L f) (hr : (0 < a ∧ a ≤ n) ∧ (0 ≤ i ∧ i < L) ∧ (L : Int) < 2147483648) (k : K (pc + 1) Lo (zi (f i) :: st) n σ w) : K pc Lo (zi i :: zr a :: st) n σ w := by
  obtain ⟨p, l, e, R, s, m, args, below, meth, c, Q, g, ⟨hx, hb, hml, hown, hts, hK, hin⟩, hR, hsz, rfl, hrt⟩ := C
  intro ls H locs hn hl hP hS
  have hat := zW_at g σ hr.1
  rw [ho] at hat
  refine va_cald hx hb hK.1 hP.2.2 (a - 1).toNat 2 hat rfl (zI_in hr.2.1 (by omega)) d ?_
  rw [zI_cl (by omega), Int.toNat_of_nonneg hr.2.1.1]
  exact k ls H locs hn hl hP hS
set_option maxHeartbeats 2000000 in
theorem x_iastore {y : MethodName} {cc : ByteArray} {ml : Nat} {ret : Option FieldType} {h mc ms n0 : Nat} {Ret : zRT} {K : zKT} (C : zX y cc ml ret h mc ms n0 Ret K) {pc : Nat} {Lo : List (Option zV)} {st : List zV} {n : Nat} {σ : zS} {w : Nat} {a : Int} {L : Nat} {f : Int → Int} {i x : Int} (d : decode cc pc = .ok (.iastore, 1)) (ho : σ a = zP 0 L f) (hr : (0 < a ∧ a ≤ n) ∧ (0 ≤ i ∧ i < L) ∧ (L : Int) < 2147483648)  (k : K (pc + 1) Lo st n (zsu σ a (zP 0 L (zu f i x))) w) : K pc Lo (zi x :: zi i :: zr a :: st) n σ w := by
  obtain ⟨p, l, e, R, s, m, args, below, meth, c, Q, g, ⟨hx, hb, hml, hown, hts, hK, hin⟩, hR, hsz, rfl, hrt⟩ := C
  intro ls H locs hn hl hP hS
  have hat := zW_at g σ hr.1
  rw [ho] at hat
  refine va_iast hx hb hK.1 hP.2.2 (zD g n σ) hS (a - 1).toNat 0 hat rfl (zI_in hr.2.1 (by omega)) d (fun H1 locs1 hP1 _ hS1 => ?_)
  rw [zI_cl (by omega), zI_upd f x hr.2.1.1] at hP1
  exact k ls H1 locs1 hn hl (hP.set hr.1 hP1) hS1
set_option maxHeartbeats 2000000 in
theorem x_bastore {y : MethodName} {cc : ByteArray} {ml : Nat} {ret : Option FieldType} {h mc ms n0 : Nat} {Ret : zRT} {K : zKT} (C : zX y cc ml ret h mc ms n0 Ret K) {pc : Nat} {Lo : List (Option zV)} {st : List zV} {n : Nat} {σ : zS} {w : Nat} {a : Int} {L : Nat} {f : Int → Int} {i x : Int} (d : decode cc pc = .ok (.bastore, 1)) (ho : σ a = zP 1 L f) (hr : (0 < a ∧ a ≤ n) ∧ (0 ≤ i ∧ i < L) ∧ (L : Int) < 2147483648) (hx01 : x = 0 ∨ x = 1) (k : K (pc + 1) Lo st n (zsu σ a (zP 1 L (zu f i x))) w) : K pc Lo (zi x :: zi i :: zr a :: st) n σ w := by
  obtain ⟨p, l, e, R, s, m, args, below, meth, c, Q, g, ⟨hx, hb, hml, hown, hts, hK, hin⟩, hR, hsz, rfl, hrt⟩ := C
  intro ls H locs hn hl hP hS
  have hat := zW_at g σ hr.1
  rw [ho] at hat
  refine va_zast hx hb hK.1 hP.2.2 (zD g n σ) hS (a - 1).toNat 1 hat rfl (zI_in hr.2.1 (by omega)) d (fun H1 locs1 hP1 _ hS1 => ?_)
  rw [show vp_nar .boolean (zI x) = zI x by rcases hx01 with rfl | rfl <;> rfl] at hP1
  rw [zI_cl (by omega), zI_upd f x hr.2.1.1] at hP1
  exact k ls H1 locs1 hn hl (hP.set hr.1 hP1) hS1
set_option maxHeartbeats 2000000 in
theorem x_castore {y : MethodName} {cc : ByteArray} {ml : Nat} {ret : Option FieldType} {h mc ms n0 : Nat} {Ret : zRT} {K : zKT} (C : zX y cc ml ret h mc ms n0 Ret K) {pc : Nat} {Lo : List (Option zV)} {st : List zV} {n : Nat} {σ : zS} {w : Nat} {a : Int} {L : Nat} {f : Int → Int} {i x : Int} (d : decode cc pc = .ok (.castore, 1)) (ho : σ a = zP 2 L f) (hr : (0 < a ∧ a ≤ n) ∧ (0 ≤ i ∧ i < L) ∧ (L : Int) < 2147483648) (hx16 : 0 ≤ x ∧ x < 65536) (k : K (pc + 1) Lo st n (zsu σ a (zP 2 L (zu f i x))) w) : K pc Lo (zi x :: zi i :: zr a :: st) n σ w := by
  obtain ⟨p, l, e, R, s, m, args, below, meth, c, Q, g, ⟨hx, hb, hml, hown, hts, hK, hin⟩, hR, hsz, rfl, hrt⟩ := C
  intro ls H locs hn hl hP hS
  have hat := zW_at g σ hr.1
  rw [ho] at hat
  refine va_cast hx hb hK.1 hP.2.2 (zD g n σ) hS (a - 1).toNat 2 hat rfl (zI_in hr.2.1 (by omega)) d (fun H1 locs1 hP1 _ hS1 => ?_)
  rw [show vp_nar .char (zI x) = zI x by rw [vp_nar_char]; exact zI_c2 hx16] at hP1
  rw [zI_cl (by omega), zI_upd f x hr.2.1.1] at hP1
  exact k ls H1 locs1 hn hl (hP.set hr.1 hP1) hS1
set_option maxHeartbeats 2000000 in
theorem x_aaload3 {y : MethodName} {cc : ByteArray} {ml : Nat} {ret : Option FieldType} {h mc ms n0 : Nat} {Ret : zRT} {K : zKT} (C : zX y cc ml ret h mc ms n0 Ret K) {pc : Nat} {Lo : List (Option zV)} {st : List zV} {n : Nat} {σ : zS} {w : Nat} {a : Int} {L : Nat} {f : Int → Option Int} {i o : Int} (d : decode cc pc = .ok (.aaload, 1)) (ho : σ a = zQ 3 L f) (hr : (0 < a ∧ a ≤ n) ∧ (0 ≤ i ∧ i < L) ∧ (L : Int) < 2147483648) (hv : f i = some o) (k : K (pc + 1) Lo (zr o :: st) n σ w) : K pc Lo (zi i :: zr a :: st) n σ w := by
  obtain ⟨p, l, e, R, s, m, args, below, meth, c, Q, g, ⟨hx, hb, hml, hown, hts, hK, hin⟩, hR, hsz, rfl, hrt⟩ := C
  intro ls H locs hn hl hP hS
  have hat := zW_at g σ hr.1
  rw [ho] at hat
  refine va_aldq (C := "BlockTrees$Matrix") hx hb hK.1 hP.2.2 (a - 1).toNat 3 hat rfl (zI_in hr.2.1 (by omega)) d ?_
  rw [zI_cl (by omega), Int.toNat_of_nonneg hr.2.1.1, hv]
  exact k ls H locs hn hl hP hS
set_option maxHeartbeats 2000000 in
theorem x_aastore3 {y : MethodName} {cc : ByteArray} {ml : Nat} {ret : Option FieldType} {h mc ms n0 : Nat} {Ret : zRT} {K : zKT} (C : zX y cc ml ret h mc ms n0 Ret K) {pc : Nat} {Lo : List (Option zV)} {st : List zV} {n : Nat} {σ : zS} {w : Nat} {a : Int} {L : Nat} {f : Int → Option Int} {i o : Int} {vs : List zV} (d : decode cc pc = .ok (.aastore, 1)) (ho : σ a = zQ 3 L f) (hv : σ o = zO 1 vs) (hr : ((0 < a ∧ a ≤ n) ∧ (0 < o ∧ o ≤ n)) ∧ (0 ≤ i ∧ i < L) ∧ (L : Int) < 2147483648) (k : K (pc + 1) Lo st n (zsu σ a (zQ 3 L (zuq f i (some o)))) w) : K pc Lo (zr o :: zi i :: zr a :: st) n σ w := by
  obtain ⟨p, l, e, R, s, m, args, below, meth, c, Q, g, ⟨hx, hb, hml, hown, hts, hK, hin⟩, hR, hsz, rfl, hrt⟩ := C
  intro ls H locs hn hl hP hS
  have hat := zW_at g σ hr.1.1
  rw [ho] at hat
  have hav := zW_at g σ hr.1.2
  rw [hv] at hav
  refine va_astq (r := (RX1, TX1, 2)) hx hb hK.1 hP.2.2 (zD g n σ) hS (a - 1).toNat 3 (o - 1).toNat 1 hat rfl hav rfl (zI_in hr.2.1 (by omega)) d (fun H1 locs1 hP1 _ hS1 => ?_)
  rw [zI_cl (by omega), zI_upq g f o hr.2.1.1] at hP1
  exact k ls H1 locs1 hn hl (hP.set hr.1.1 hP1) hS1
set_option maxHeartbeats 2000000 in
theorem x_aaload4 {y : MethodName} {cc : ByteArray} {ml : Nat} {ret : Option FieldType} {h mc ms n0 : Nat} {Ret : zRT} {K : zKT} (C : zX y cc ml ret h mc ms n0 Ret K) {pc : Nat} {Lo : List (Option zV)} {st : List zV} {n : Nat} {σ : zS} {w : Nat} {a : Int} {L : Nat} {f : Int → Option Int} {i o : Int} (d : decode cc pc = .ok (.aaload, 1)) (ho : σ a = zQ 4 L f) (hr : (0 < a ∧ a ≤ n) ∧ (0 ≤ i ∧ i < L) ∧ (L : Int) < 2147483648) (hv : f i = some o) (k : K (pc + 1) Lo (zr o :: st) n σ w) : K pc Lo (zi i :: zr a :: st) n σ w := by
  obtain ⟨p, l, e, R, s, m, args, below, meth, c, Q, g, ⟨hx, hb, hml, hown, hts, hK, hin⟩, hR, hsz, rfl, hrt⟩ := C
  intro ls H locs hn hl hP hS
  have hat := zW_at g σ hr.1
  rw [ho] at hat
  refine va_aldq (C := "BlockTrees$State") hx hb hK.1 hP.2.2 (a - 1).toNat 4 hat rfl (zI_in hr.2.1 (by omega)) d ?_
  rw [zI_cl (by omega), Int.toNat_of_nonneg hr.2.1.1, hv]
  exact k ls H locs hn hl hP hS
set_option maxHeartbeats 2000000 in
theorem x_aastore4 {y : MethodName} {cc : ByteArray} {ml : Nat} {ret : Option FieldType} {h mc ms n0 : Nat} {Ret : zRT} {K : zKT} (C : zX y cc ml ret h mc ms n0 Ret K) {pc : Nat} {Lo : List (Option zV)} {st : List zV} {n : Nat} {σ : zS} {w : Nat} {a : Int} {L : Nat} {f : Int → Option Int} {i o : Int} {vs : List zV} (d : decode cc pc = .ok (.aastore, 1)) (ho : σ a = zQ 4 L f) (hv : σ o = zO 4 vs) (hr : ((0 < a ∧ a ≤ n) ∧ (0 < o ∧ o ≤ n)) ∧ (0 ≤ i ∧ i < L) ∧ (L : Int) < 2147483648) (k : K (pc + 1) Lo st n (zsu σ a (zQ 4 L (zuq f i (some o)))) w) : K pc Lo (zr o :: zi i :: zr a :: st) n σ w := by
  obtain ⟨p, l, e, R, s, m, args, below, meth, c, Q, g, ⟨hx, hb, hml, hown, hts, hK, hin⟩, hR, hsz, rfl, hrt⟩ := C
  intro ls H locs hn hl hP hS
  have hat := zW_at g σ hr.1.1
  rw [ho] at hat
  have hav := zW_at g σ hr.1.2
  rw [hv] at hav
  refine va_astq (r := (RX4, TX4, 2)) hx hb hK.1 hP.2.2 (zD g n σ) hS (a - 1).toNat 4 (o - 1).toNat 4 hat rfl hav rfl (zI_in hr.2.1 (by omega)) d (fun H1 locs1 hP1 _ hS1 => ?_)
  rw [zI_cl (by omega), zI_upq g f o hr.2.1.1] at hP1
  exact k ls H1 locs1 hn hl (hP.set hr.1.1 hP1) hS1
set_option maxHeartbeats 2000000 in
theorem x_aaload5 {y : MethodName} {cc : ByteArray} {ml : Nat} {ret : Option FieldType} {h mc ms n0 : Nat} {Ret : zRT} {K : zKT} (C : zX y cc ml ret h mc ms n0 Ret K) {pc : Nat} {Lo : List (Option zV)} {st : List zV} {n : Nat} {σ : zS} {w : Nat} {a : Int} {L : Nat} {f : Int → Option Int} {i o : Int} (d : decode cc pc = .ok (.aaload, 1)) (ho : σ a = zQ 5 L f) (hr : (0 < a ∧ a ≤ n) ∧ (0 ≤ i ∧ i < L) ∧ (L : Int) < 2147483648) (hv : f i = some o) (k : K (pc + 1) Lo (zr o :: st) n σ w) : K pc Lo (zi i :: zr a :: st) n σ w := by
  obtain ⟨p, l, e, R, s, m, args, below, meth, c, Q, g, ⟨hx, hb, hml, hown, hts, hK, hin⟩, hR, hsz, rfl, hrt⟩ := C
  intro ls H locs hn hl hP hS
  have hat := zW_at g σ hr.1
  rw [ho] at hat
  refine va_aldq (C := "BlockTrees$Slot") hx hb hK.1 hP.2.2 (a - 1).toNat 5 hat rfl (zI_in hr.2.1 (by omega)) d ?_
  rw [zI_cl (by omega), Int.toNat_of_nonneg hr.2.1.1, hv]
  exact k ls H locs hn hl hP hS
set_option maxHeartbeats 2000000 in
theorem x_aastore5 {y : MethodName} {cc : ByteArray} {ml : Nat} {ret : Option FieldType} {h mc ms n0 : Nat} {Ret : zRT} {K : zKT} (C : zX y cc ml ret h mc ms n0 Ret K) {pc : Nat} {Lo : List (Option zV)} {st : List zV} {n : Nat} {σ : zS} {w : Nat} {a : Int} {L : Nat} {f : Int → Option Int} {i o : Int} {vs : List zV} (d : decode cc pc = .ok (.aastore, 1)) (ho : σ a = zQ 5 L f) (hv : σ o = zO 3 vs) (hr : ((0 < a ∧ a ≤ n) ∧ (0 < o ∧ o ≤ n)) ∧ (0 ≤ i ∧ i < L) ∧ (L : Int) < 2147483648) (k : K (pc + 1) Lo st n (zsu σ a (zQ 5 L (zuq f i (some o)))) w) : K pc Lo (zr o :: zi i :: zr a :: st) n σ w := by
  obtain ⟨p, l, e, R, s, m, args, below, meth, c, Q, g, ⟨hx, hb, hml, hown, hts, hK, hin⟩, hR, hsz, rfl, hrt⟩ := C
  intro ls H locs hn hl hP hS
  have hat := zW_at g σ hr.1.1
  rw [ho] at hat
  have hav := zW_at g σ hr.1.2
  rw [hv] at hav
  refine va_astq (r := (RX3, TX3, 2)) hx hb hK.1 hP.2.2 (zD g n σ) hS (a - 1).toNat 5 (o - 1).toNat 3 hat rfl hav rfl (zI_in hr.2.1 (by omega)) d (fun H1 locs1 hP1 _ hS1 => ?_)
  rw [zI_cl (by omega), zI_upq g f o hr.2.1.1] at hP1
  exact k ls H1 locs1 hn hl (hP.set hr.1.1 hP1) hS1
set_option maxHeartbeats 2000000 in
theorem x_alen0 {y : MethodName} {cc : ByteArray} {ml : Nat} {ret : Option FieldType} {h mc ms n0 : Nat} {Ret : zRT} {K : zKT} (C : zX y cc ml ret h mc ms n0 Ret K) {pc : Nat} {Lo : List (Option zV)} {st : List zV} {n : Nat} {σ : zS} {w : Nat} {a : Int} {L : Nat} {f : Int → Int} (d : decode cc pc = .ok (.arraylength, 1)) (ho : σ a = zP 0 L f) (hr : 0 < a ∧ a ≤ n) (k : K (pc + 1) Lo (zi (L : Int) :: st) n σ w) : K pc Lo (zr a :: st) n σ w := by
  obtain ⟨p, l, e, R, s, m, args, below, meth, c, Q, g, ⟨hx, hb, hml, hown, hts, hK, hin⟩, hR, hsz, rfl, hrt⟩ := C
  intro ls H locs hn hl hP hS
  have hat := zW_at g σ hr
  rw [ho] at hat
  exact va_alen hx hb hK.1 hP.2.2 (a - 1).toNat 0 hat rfl (v := zI (L : Int)) Int32.ofInt_eq_ofNat.symm d (k ls H locs hn hl hP hS)
set_option maxHeartbeats 2000000 in
theorem x_alen1 {y : MethodName} {cc : ByteArray} {ml : Nat} {ret : Option FieldType} {h mc ms n0 : Nat} {Ret : zRT} {K : zKT} (C : zX y cc ml ret h mc ms n0 Ret K) {pc : Nat} {Lo : List (Option zV)} {st : List zV} {n : Nat} {σ : zS} {w : Nat} {a : Int} {L : Nat} {f : Int → Int} (d : decode cc pc = .ok (.arraylength, 1)) (ho : σ a = zP 1 L f) (hr : 0 < a ∧ a ≤ n) (k : K (pc + 1) Lo (zi (L : Int) :: st) n σ w) : K pc Lo (zr a :: st) n σ w := by
  obtain ⟨p, l, e, R, s, m, args, below, meth, c, Q, g, ⟨hx, hb, hml, hown, hts, hK, hin⟩, hR, hsz, rfl, hrt⟩ := C
  intro ls H locs hn hl hP hS
  have hat := zW_at g σ hr
  rw [ho] at hat
  exact va_alen hx hb hK.1 hP.2.2 (a - 1).toNat 1 hat rfl (v := zI (L : Int)) Int32.ofInt_eq_ofNat.symm d (k ls H locs hn hl hP hS)
set_option maxHeartbeats 2000000 in
theorem x_alen2 {y : MethodName} {cc : ByteArray} {ml : Nat} {ret : Option FieldType} {h mc ms n0 : Nat} {Ret : zRT} {K : zKT} (C : zX y cc ml ret h mc ms n0 Ret K) {pc : Nat} {Lo : List (Option zV)} {st : List zV} {n : Nat} {σ : zS} {w : Nat} {a : Int} {L : Nat} {f : Int → Int} (d : decode cc pc = .ok (.arraylength, 1)) (ho : σ a = zP 2 L f) (hr : 0 < a ∧ a ≤ n) (k : K (pc + 1) Lo (zi (L : Int) :: st) n σ w) : K pc Lo (zr a :: st) n σ w := by
  obtain ⟨p, l, e, R, s, m, args, below, meth, c, Q, g, ⟨hx, hb, hml, hown, hts, hK, hin⟩, hR, hsz, rfl, hrt⟩ := C
  intro ls H locs hn hl hP hS
  have hat := zW_at g σ hr
  rw [ho] at hat
  exact va_alen hx hb hK.1 hP.2.2 (a - 1).toNat 2 hat rfl (v := zI (L : Int)) Int32.ofInt_eq_ofNat.symm d (k ls H locs hn hl hP hS)
set_option maxHeartbeats 2000000 in
theorem x_acopy {y : MethodName} {cc : ByteArray} {ml : Nat} {ret : Option FieldType} {h mc ms n0 : Nat} {Ret : zRT} {K : zKT} (C : zX y cc ml ret h mc ms n0 Ret K) {pc : Nat} {Lo : List (Option zV)} {st : List zV} {n : Nat} {σ : zS} {w : Nat} {idx : Nat} {a0 a : Int} {L0 L : Nat} {f f2 : Int → Int} {sp dp q : Int} (d : decode cc pc = .ok (.invokestatic idx, 3)) (hw : Cond.methodLink y.cls idx arraycopyName ∈ zGW ∧ Cond.native arraycopyName ∈ zGW ∧ Cond.static arraycopyName ∈ zGW ∧ Cond.initialized "java/lang/System" ∈ zGW) (h1 : 1 ≤ h) (ho : σ a0 = zA L0 f) (ho2 : σ a = zA L f2) (hr : ((0 < a0 ∧ a0 ≤ n) ∧ 0 < a ∧ a ≤ n) ∧ (0 ≤ sp ∧ 0 ≤ q ∧ sp + q ≤ L0 ∧ (L0 : Int) < 2147483648) ∧ 0 ≤ dp ∧ dp + q ≤ L ∧ (L : Int) < 2147483648) (hc : zcat st ≤ 8) (k : K (pc + 3) Lo st n (zsu σ a (zA L (fun j => if dp ≤ j ∧ j < dp + q then f (sp + (j - dp)) else f2 j))) w) : K pc Lo (zi q :: zi dp :: zr a :: zi sp :: zr a0 :: st) n σ w := by
  obtain ⟨p, l, e, R, s, m, args, below, meth, c, Q, g, ⟨hx, hb, hml, hown, hts, hK, hin⟩, hR, hsz, rfl, hrt⟩ := C
  intro ls H locs hn hl hP hS
  have hat0 := zW_at g σ hr.1.1
  rw [ho] at hat0
  have hat := zW_at g σ hr.1.2
  rw [ho2] at hat
  refine va_copyi hx hb (by rw [hml]; exact hl.1.symm) hown (hts _ hw.1) (hts _ hw.2.1) (hts _ hw.2.2.1) (hts _ hw.2.2.2) hK.1 hP.2.2 (zD g n σ) hS (a0 - 1).toNat (a - 1).toNat 0 0 hat0 hat rfl rfl rfl ?_ ?_ ?_ ?_ ?_ (fun i _ => rfl) ?_ ?_ d (fun H1 locs1 hP1 _ hS1 => ?_)
  · rw [← zI_0, zI_lt (by omega)]; omega
  · rw [← zI_0, zI_lt (by omega)]; omega
  · rw [← zI_0, zI_lt (by omega)]; omega
  · rw [zI_cl (by omega), zI_cl (by omega)]; show sp.toNat + q.toNat ≤ L0; omega
  · rw [zI_cl (by omega), zI_cl (by omega)]; show dp.toNat + q.toNat ≤ L; omega
  · omega
  · have e := zcat_eq g st
    have e2 : nativeFrameWords "java/lang/System" "arraycopy" 5 ≤ 30 := by decide
    omega
  · rw [zI_cl (by omega), zI_cl (by omega), zI_cl (by omega)] at hP1
    refine k ls H1 locs1 hn hl (hP.set hr.1.2 ?_) hS1
    have e : va_cpy (fun j : Nat => zI (f (j : Int))) (fun j : Nat => zI (f2 (j : Int))) sp.toNat dp.toNat q.toNat = fun j : Nat => zI (if dp ≤ (j : Int) ∧ (j : Int) < dp + q then f (sp + ((j : Int) - dp)) else f2 (j : Int)) := by
      funext j
      unfold va_cpy
      by_cases e1 : dp.toNat ≤ j ∧ j < dp.toNat + q.toNat
      · rw [if_pos e1, if_pos (by omega)]
        congr 2
        omega
      · rw [if_neg e1, if_neg (by omega)]
    rw [e] at hP1
    exact hP1
set_option maxHeartbeats 2000000 in
theorem x_newa {y : MethodName} {cc : ByteArray} {ml : Nat} {ret : Option FieldType} {h mc ms n0 : Nat} {Ret : zRT} {K : zKT} (C : zX y cc ml ret h mc ms n0 Ret K) {pc : Nat} {Lo : List (Option zV)} {st : List zV} {n : Nat} {σ : zS} {w : Nat} {at0 : ArrayType} {t : Nat} {ty : FieldType} {z : Int} {L : Nat} (d : decode cc pc = .ok (.newarray at0, 2)) (hty : newarray.typeOf at0 = ty) (hdef : defaultValue ty = .int 0) (ht : ∀ g : zG, (zty g)[t]? = some (g.2.2 t, ty)) (hprim : ∀ (U : State) (cA : ClassId), va_RA U cA ty → U.vm.findClass ("[" ++ ty.toString) = some cA) (hw : Cond.arrayClass ty ∈ zGW) (hq : z = L ∧ L * componentBytes ty ≤ 536870912 ∧ (L : Int) < 2147483648) (hf : n + 1 ≤ n0 + mc ∧ w + L ≤ ms) (k : K (pc + 2) Lo (zr ((n : Int) + 1) :: st) (n + 1) (zsu σ ((n : Int) + 1) (zP t L (fun _ => 0))) (w + L)) : K pc Lo (zi z :: st) n σ w := by
  obtain ⟨p, l, e, R, s, m, args, below, meth, c, Q, g, ⟨hx, hb, hml, hown, hts, hK, hin⟩, hR, hsz, rfl, hrt⟩ := C
  intro ls H locs hn hl hP hS
  refine va_newa (a0 := (L, .inl (fun _ => zI 0))) (N' := L) hx hb (by rw [hty]; exact hts _ hw) hty hK.1 hP.2.2 (zD g n σ) hS (fun q hq => by show g.1.2 < q; omega) (fun cA => by rw [vp_cell_i, hdef]; rfl) ?_ ?_ hq.2.1 (by omega) (by omega) d (fun q cA H1 hK1 hP1 hD1 hS1 => ?_)
  · rw [← zI_0, zI_lt (by omega)]; omega
  · rw [zI_cl (by omega)]; omega
  have hcA : cA = g.2.2 t := by
    have h1 := hprim _ _ (hK.1.2 t _ (ht g)).2
    have h2 := hprim _ _ (hK1.2 6 (cA, ty) rfl).2
    exact Option.some.inj (h2.symm.trans h1)
  subst hcA
  intro T hT X
  have hz := X.heapSize
  rw [hT, hsz] at hz
  have hq0 : q = g.1.2 + (n + 1) := zq_eq hD1 hP1 (by omega)
  subst hq0
  rw [show ((g.1.2 + (n + 1), Sum.inl (g.2.2 t, (L, Sum.inl (fun _ : Nat => zI 0)))) : Nat × va_E) = (g.1.2 + (n + 1), zc g (zP t L (fun _ => 0))) from rfl, zW_push] at hP1
  refine (W.cs (cells' := n + 1 - n0) (slots' := w + L) (by omega) rfl ?_) T hT X
  have e9 : zv g (zr ((n : Int) + 1)) = .ref (g.1.2 + (n + 1)) := by
    show va_rf (some (zad g _)) = _
    rw [zad_pos g (by omega)]
    congr 1
    omega
  rw [← e9]
  exact k ls H1 locs ⟨by omega, by omega, by omega⟩ hl ⟨by have := (hP1 n _ (by rw [zW_get, if_pos (by omega)])).lt; dsimp only at this; omega, hP.2.1, hP1⟩ hS1
set_option maxHeartbeats 2000000 in
theorem x_newq3 {y : MethodName} {cc : ByteArray} {ml : Nat} {ret : Option FieldType} {h mc ms n0 : Nat} {Ret : zRT} {K : zKT} (C : zX y cc ml ret h mc ms n0 Ret K) {pc : Nat} {Lo : List (Option zV)} {st : List zV} {n : Nat} {σ : zS} {w : Nat} {idx : Nat} {z : Int} {L : Nat} (d : decode cc pc = .ok (.anewarray idx, 3)) (hw : Cond.classLink y.cls idx "BlockTrees$Matrix" ∈ zGW) (hq : z = L ∧ L * 4 ≤ 536870912 ∧ (L : Int) < 2147483648) (hf : n + 1 ≤ n0 + mc ∧ w + L ≤ ms) (k : K (pc + 3) Lo (zr ((n : Int) + 1) :: st) (n + 1) (zsu σ ((n : Int) + 1) (zQ 3 L (fun _ => none))) (w + L)) : K pc Lo (zi z :: st) n σ w := by
  obtain ⟨p, l, e, R, s, m, args, below, meth, c, Q, g, ⟨hx, hb, hml, hown, hts, hK, hin⟩, hR, hsz, rfl, hrt⟩ := C
  intro ls H locs hn hl hP hS
  refine va_newq (C := "BlockTrees$Matrix") (N' := L) hx hb hown (hts _ hw) hK.2.2.1 hK.1 hP.2.2 (zD g n σ) hS (fun q hq => by show g.1.2 < q; omega) ?_ ?_ hq.2.1 (by omega) (by omega) d (fun q cA H1 hK1 hP1 hD1 hS1 => ?_)
  · rw [← zI_0, zI_lt (by omega)]; omega
  · rw [zI_cl (by omega)]; omega
  have hcA : cA = g.2.2 3 := by
    obtain ⟨_, _, _, _, _, h1⟩ := (hK.1.2 3 _ rfl).2
    obtain ⟨_, _, _, _, _, h2⟩ := (hK1.2 6 (cA, .object "BlockTrees$Matrix") rfl).2
    exact Option.some.inj (h2.symm.trans h1)
  subst hcA
  intro T hT X
  have hz := X.heapSize
  rw [hT, hsz] at hz
  have hq0 : q = g.1.2 + (n + 1) := zq_eq hD1 hP1 (by omega)
  subst hq0
  rw [show ((g.1.2 + (n + 1), Sum.inl (g.2.2 3, (L, Sum.inr (Sum.inr (Sum.inr (Sum.inr (fun _ : Nat => none))))))) : Nat × va_E) = (g.1.2 + (n + 1), zc g (zQ 3 L (fun _ => none))) from rfl, zW_push] at hP1
  refine (W.cs (cells' := n + 1 - n0) (slots' := w + L) (by omega) rfl ?_) T hT X
  have e9 : zv g (zr ((n : Int) + 1)) = .ref (g.1.2 + (n + 1)) := by
    show va_rf (some (zad g _)) = _
    rw [zad_pos g (by omega)]
    congr 1
    omega
  rw [← e9]
  exact k ls H1 locs ⟨by omega, by omega, by omega⟩ hl ⟨by have := (hP1 n _ (by rw [zW_get, if_pos (by omega)])).lt; dsimp only at this; omega, hP.2.1, hP1⟩ hS1
set_option maxHeartbeats 2000000 in
theorem x_newq4 {y : MethodName} {cc : ByteArray} {ml : Nat} {ret : Option FieldType} {h mc ms n0 : Nat} {Ret : zRT} {K : zKT} (C : zX y cc ml ret h mc ms n0 Ret K) {pc : Nat} {Lo : List (Option zV)} {st : List zV} {n : Nat} {σ : zS} {w : Nat} {idx : Nat} {z : Int} {L : Nat} (d : decode cc pc = .ok (.anewarray idx, 3)) (hw : Cond.classLink y.cls idx "BlockTrees$State" ∈ zGW) (hq : z = L ∧ L * 4 ≤ 536870912 ∧ (L : Int) < 2147483648) (hf : n + 1 ≤ n0 + mc ∧ w + L ≤ ms) (k : K (pc + 3) Lo (zr ((n : Int) + 1) :: st) (n + 1) (zsu σ ((n : Int) + 1) (zQ 4 L (fun _ => none))) (w + L)) : K pc Lo (zi z :: st) n σ w := by
  obtain ⟨p, l, e, R, s, m, args, below, meth, c, Q, g, ⟨hx, hb, hml, hown, hts, hK, hin⟩, hR, hsz, rfl, hrt⟩ := C
  intro ls H locs hn hl hP hS
  refine va_newq (C := "BlockTrees$State") (N' := L) hx hb hown (hts _ hw) hK.2.2.2.1 hK.1 hP.2.2 (zD g n σ) hS (fun q hq => by show g.1.2 < q; omega) ?_ ?_ hq.2.1 (by omega) (by omega) d (fun q cA H1 hK1 hP1 hD1 hS1 => ?_)
  · rw [← zI_0, zI_lt (by omega)]; omega
  · rw [zI_cl (by omega)]; omega
  have hcA : cA = g.2.2 4 := by
    obtain ⟨_, _, _, _, _, h1⟩ := (hK.1.2 4 _ rfl).2
    obtain ⟨_, _, _, _, _, h2⟩ := (hK1.2 6 (cA, .object "BlockTrees$State") rfl).2
    exact Option.some.inj (h2.symm.trans h1)
  subst hcA
  intro T hT X
  have hz := X.heapSize
  rw [hT, hsz] at hz
  have hq0 : q = g.1.2 + (n + 1) := zq_eq hD1 hP1 (by omega)
  subst hq0
  rw [show ((g.1.2 + (n + 1), Sum.inl (g.2.2 4, (L, Sum.inr (Sum.inr (Sum.inr (Sum.inr (fun _ : Nat => none))))))) : Nat × va_E) = (g.1.2 + (n + 1), zc g (zQ 4 L (fun _ => none))) from rfl, zW_push] at hP1
  refine (W.cs (cells' := n + 1 - n0) (slots' := w + L) (by omega) rfl ?_) T hT X
  have e9 : zv g (zr ((n : Int) + 1)) = .ref (g.1.2 + (n + 1)) := by
    show va_rf (some (zad g _)) = _
    rw [zad_pos g (by omega)]
    congr 1
    omega
  rw [← e9]
  exact k ls H1 locs ⟨by omega, by omega, by omega⟩ hl ⟨by have := (hP1 n _ (by rw [zW_get, if_pos (by omega)])).lt; dsimp only at this; omega, hP.2.1, hP1⟩ hS1
set_option maxHeartbeats 2000000 in
theorem x_newq5 {y : MethodName} {cc : ByteArray} {ml : Nat} {ret : Option FieldType} {h mc ms n0 : Nat} {Ret : zRT} {K : zKT} (C : zX y cc ml ret h mc ms n0 Ret K) {pc : Nat} {Lo : List (Option zV)} {st : List zV} {n : Nat} {σ : zS} {w : Nat} {idx : Nat} {z : Int} {L : Nat} (d : decode cc pc = .ok (.anewarray idx, 3)) (hw : Cond.classLink y.cls idx "BlockTrees$Slot" ∈ zGW) (hq : z = L ∧ L * 4 ≤ 536870912 ∧ (L : Int) < 2147483648) (hf : n + 1 ≤ n0 + mc ∧ w + L ≤ ms) (k : K (pc + 3) Lo (zr ((n : Int) + 1) :: st) (n + 1) (zsu σ ((n : Int) + 1) (zQ 5 L (fun _ => none))) (w + L)) : K pc Lo (zi z :: st) n σ w := by
  obtain ⟨p, l, e, R, s, m, args, below, meth, c, Q, g, ⟨hx, hb, hml, hown, hts, hK, hin⟩, hR, hsz, rfl, hrt⟩ := C
  intro ls H locs hn hl hP hS
  refine va_newq (C := "BlockTrees$Slot") (N' := L) hx hb hown (hts _ hw) hK.2.2.2.2 hK.1 hP.2.2 (zD g n σ) hS (fun q hq => by show g.1.2 < q; omega) ?_ ?_ hq.2.1 (by omega) (by omega) d (fun q cA H1 hK1 hP1 hD1 hS1 => ?_)
  · rw [← zI_0, zI_lt (by omega)]; omega
  · rw [zI_cl (by omega)]; omega
  have hcA : cA = g.2.2 5 := by
    obtain ⟨_, _, _, _, _, h1⟩ := (hK.1.2 5 _ rfl).2
    obtain ⟨_, _, _, _, _, h2⟩ := (hK1.2 6 (cA, .object "BlockTrees$Slot") rfl).2
    exact Option.some.inj (h2.symm.trans h1)
  subst hcA
  intro T hT X
  have hz := X.heapSize
  rw [hT, hsz] at hz
  have hq0 : q = g.1.2 + (n + 1) := zq_eq hD1 hP1 (by omega)
  subst hq0
  rw [show ((g.1.2 + (n + 1), Sum.inl (g.2.2 5, (L, Sum.inr (Sum.inr (Sum.inr (Sum.inr (fun _ : Nat => none))))))) : Nat × va_E) = (g.1.2 + (n + 1), zc g (zQ 5 L (fun _ => none))) from rfl, zW_push] at hP1
  refine (W.cs (cells' := n + 1 - n0) (slots' := w + L) (by omega) rfl ?_) T hT X
  have e9 : zv g (zr ((n : Int) + 1)) = .ref (g.1.2 + (n + 1)) := by
    show va_rf (some (zad g _)) = _
    rw [zad_pos g (by omega)]
    congr 1
    omega
  rw [← e9]
  exact k ls H1 locs ⟨by omega, by omega, by omega⟩ hl ⟨by have := (hP1 n _ (by rw [zW_get, if_pos (by omega)])).lt; dsimp only at this; omega, hP.2.1, hP1⟩ hS1
set_option maxHeartbeats 2000000 in
theorem x_new {y : MethodName} {cc : ByteArray} {ml : Nat} {ret : Option FieldType} {h mc ms n0 : Nat} {Ret : zRT} {K : zKT} (C : zX y cc ml ret h mc ms n0 Ret K) {pc : Nat} {Lo : List (Option zV)} {st : List zV} {n : Nat} {σ : zS} {w : Nat} {idx ci N : Nat} {CC : String} {T : u_T} {fs : List zV} (d : decode cc pc = .ok (.new idx, 3)) (hc : vwCl[ci]? = some (CC, T, N)) (hw : Cond.classLink y.cls idx CC ∈ zGW ∧ Cond.instantiable CC N ∈ zGW ∧ Cond.initialized CC ∈ zGW ∧ ∀ w ∈ u_ws CC T N, w ∈ zGW) (ty : Nat → FieldType) (hty : ∀ k, k < N → parseFieldDescriptor (T k).2.2.1 = some (ty k)) (hfs : ∀ (g : zG) (j : Nat), j < N → defaultValue (ty j) = vp_V (fs.map (zv g)) j) (hf : n + 1 ≤ n0 + mc ∧ w + N ≤ ms) (k : K (pc + 3) Lo (zr ((n : Int) + 1) :: st) (n + 1) (zsu σ ((n : Int) + 1) (zO ci fs)) (w + N)) : K pc Lo st n σ w := by
  obtain ⟨p, l, e, R, s, m, args, below, meth, c, Q, g, ⟨hx, hb, hml, hown, hts, hK, hin⟩, hR, hsz, rfl, hrt⟩ := C
  intro ls H locs hn hl hP hS
  refine va_new hx hb hts hw.2.2.2 ty hty hown (hts _ hw.1) (hts _ hw.2.1) (hts _ hw.2.2.1) hK.1 hP.2.2 (zD g n σ) hS (fun q hq => by show g.1.2 < q; omega) hc (hfs g) (by omega) (by omega) d (fun q H1 hP1 hD1 hS1 => ?_)
  intro T hT X
  have hz := X.heapSize
  rw [hT, hsz] at hz
  have hq0 : q = g.1.2 + (n + 1) := zq_eq hD1 hP1 (by omega)
  subst hq0
  rw [show ((g.1.2 + (n + 1), Sum.inr (ci, fs.map (zv g))) : Nat × va_E) = (g.1.2 + (n + 1), zc g (zO ci fs)) from rfl, zW_push] at hP1
  refine (W.cs (cells' := n + 1 - n0) (slots' := w + N) (by omega) rfl ?_) T hT X
  have e9 : zv g (zr ((n : Int) + 1)) = .ref (g.1.2 + (n + 1)) := by
    show va_rf (some (zad g _)) = _
    rw [zad_pos g (by omega)]
    congr 1
    omega
  rw [← e9]
  exact k ls H1 locs ⟨by omega, by omega, by omega⟩ hl ⟨by have := (hP1 n _ (by rw [zW_get, if_pos (by omega)])).lt; dsimp only at this; omega, hP.2.1, hP1⟩ hS1
set_option maxHeartbeats 2000000 in
theorem x_objInit {y : MethodName} {cc : ByteArray} {ml : Nat} {ret : Option FieldType} {h mc ms n0 : Nat} {Ret : zRT} {K : zKT} (C : zX y cc ml ret h mc ms n0 Ret K) {pc : Nat} {Lo : List (Option zV)} {st : List zV} {n : Nat} {σ : zS} {w : Nat} {idx : Nat} {o : Int} (d : decode cc pc = .ok (.invokespecial idx, 3)) (hw : Cond.methodLink y.cls idx objectInit ∈ zGW ∧ Cond.instanceMethod objectInit ∈ zGW ∧ Cond.code objectInit ⟨#[0xb1]⟩ 1 none ∈ zGW) (h1 : 1 ≤ h) (hc : zcat st ≤ 8) (k : K (pc + 3) Lo st n σ w) : K pc Lo (zr o :: st) n σ w := by
  obtain ⟨p, l, e, R, s, m, args, below, meth, c, Q, g, ⟨hx, hb, hml, hown, hts, hK, hin⟩, hR, hsz, rfl, hrt⟩ := C
  intro ls H locs hn hl hP hS
  refine W.objInit hx hb hown (hts _ hw.1) (hts _ hw.2.1) (hts _ hw.2.2) rfl (by rw [hml]; exact hl.1) rfl d (by omega) ?_ (k ls H locs hn hl hP hS)
  have e := zcat_eq g st
  show 2 * 0 + _ + 12 ≤ _
  omega
set_option maxHeartbeats 2000000 in
theorem x_callS {y : MethodName} {cc : ByteArray} {ml : Nat} {ret : Option FieldType} {h mc ms n0 : Nat} {Ret : zRT} {K : zKT} (C : zX y cc ml ret h mc ms n0 Ret K) {pc : Nat} {Lo : List (Option zV)} {st : List zV} {n : Nat} {σ : zS} {w : Nat} {y' : MethodName} {cc' : ByteArray} {ml' : Nat} {ret' : Option FieldType} {h' mc' ms' na idx n' : Nat} {as rest : List zV} {r : Option zV} {σ' : zS} (d : decode cc pc = .ok (.invokestatic idx, 3)) (hM : zCt h' mc' ms' y' cc' ml' ret' as n σ r n' σ') (ok : zOk y' cc' ml' ret' na) (lk : zLs y.cls idx y') (hh : h' < h ∧ as.length = na ∧ n' = n + mc' ∧ zcat rest ≤ 8) (hst : as.reverse ++ rest = st) (hf : mc' = 0 ∧ ms' = 0 ∨ n + mc' ≤ n0 + mc ∧ w + ms' ≤ ms) (k : K (pc + 3) Lo (r.toList ++ rest) n' σ' (w + ms')) : K pc Lo st n σ w := by
  obtain ⟨p, l, e, R, s, m, args, below, meth, c, Q, g, ⟨hx, hb, hml, hown, hts, hK, hin⟩, hR, hsz, rfl, hrt⟩ := C
  intro ls H locs hn hl hP hS
  intro T hT X
  have hz : H.size = g.1.2 + 1 + n := by
    have h1 := X.heapSize
    rw [hT] at h1
    have h2 := hP.1
    omega
  subst hst
  obtain ⟨⟨ok1, ok2⟩, ok3, ok4, ok5, ok6⟩ := ok
  obtain ⟨hh1, hh2, hh3, hh4⟩ := hh
  have hws : ∀ w ∈ (Cond.code y' cc' ml' ret' :: zGW), ∀ (a' : Array Value) (U : State), s.WarmedH U.vm → w.before a' U = true := pay_in hts (zGoodIn ok5)
  have hrm : (zRm h' mc' ms').frames + 1 ≤ R.frames ∧ 8 + (ml' + 11) + (zRm h' mc' ms').locals ≤ R.locals := by
    show h' + 1 ≤ _ ∧ 8 + (ml' + 11) + 64 * h' ≤ _
    omega
  have hlen : ∀ sig, parseMethodDescriptor y'.desc = some sig → na = sig.parameters.length := fun sig q => by
    rw [q] at ok3
    exact (Option.some.inj ok3).symm
  have hfb : FrameBlind (zPre g n σ as) := fun a U fr mk q => ⟨q.1, q.2.1, q.2.2.1, zK.calling fr mk a q.2.2.2⟩
  have hpc : ∀ U : State, U.heap = H → s.WarmedH U.vm → zPre g n σ as (as.map (zv g)).toArray U := fun U hU hW => ⟨rfl, by rw [hU]; exact hz, by rw [hU]; exact hP, zK.warm hW hK⟩
  have hcat : 2 * (0 : Nat) + ((rest.map (zv g)).map fun v => v.category).sum ≤ 8 := by
    rw [zcat_eq]
    omega
  have hstk : ((as.reverse ++ rest).map (zv g)) = (as.map (zv g)).reverse ++ rest.map (zv g) := by
    simp [List.map_append, List.map_reverse]
  have hfix : CallFix p m c cc ml s args zGW y.cls := ⟨hx, hb, hml, hown, hts⟩
  obtain ⟨v, st₀, t, T', L, h0, X', hL, e1, e2, ⟨hv, hH1, hF1⟩, stp⟩ := (va_runS (As := as.map (zv g)) (rest := rest.map (zv g)) hfix (hM l g) ⟨⟨rfl, rfl, hrm.1, hrm.2, hws, List.mem_cons_self, hts _ ok5, hts _ ok6, ⟨ok1, ok2⟩, hlen, hts _ lk.1⟩, hts _ lk.2⟩ ⟨hfb, hpc⟩ rfl (by rw [List.length_map]; exact hh2) hl.1 hstk hcat d ⟨by omega, by omega⟩) T hT X
  obtain rfl : v = r.map (zv g) := by cases hv; rfl
  rw [hT] at e1
  have hk := k ls T'.heap (locs ++ L) ⟨by omega, by omega, by omega⟩ hl (by rw [e1]; exact hH1) ?_
  · have e5 : n' - n0 = n - n0 + mc' := by omega
    rw [e5] at hk
    obtain ⟨t2, a1, b1⟩ := hk T' rfl X'
    refine ⟨t2, stp t2 ?_, b1⟩
    have e6 : ((r.toList ++ rest).map (zv g)) = (r.map (zv g)).toList ++ rest.map (zv g) := by
      cases r <;> simp
    rw [e6] at a1
    exact a1
  · sorry
set_option maxHeartbeats 2000000 in
theorem x_callSN {y : MethodName} {cc : ByteArray} {ml : Nat} {ret : Option FieldType} {h mc ms n0 : Nat} {Ret : zRT} {K : zKT} (C : zX y cc ml ret h mc ms n0 Ret K) {pc : Nat} {Lo : List (Option zV)} {st : List zV} {n : Nat} {σ : zS} {w : Nat} {y' : MethodName} {cc' : ByteArray} {ml' : Nat} {ret' : Option FieldType} {h' mc' ms' na idx n' : Nat} {as rest : List zV} {r : Option zV} {σ' : zS} (d : decode cc pc = .ok (.invokestatic idx, 3)) (hM : zCt h' mc' ms' y' cc' ml' ret' as n σ r n' σ') (ok : zOk y' cc' ml' ret' na) (lk : zNs y.cls idx y') (hh : h' < h ∧ as.length = na ∧ n' = n + mc' ∧ zcat rest ≤ 8) (hst : as.reverse ++ rest = st) (hf : mc' = 0 ∧ ms' = 0 ∨ n + mc' ≤ n0 + mc ∧ w + ms' ≤ ms) (k : K (pc + 3) Lo (r.toList ++ rest) n' σ' (w + ms')) : K pc Lo st n σ w := by
  obtain ⟨p, l, e, R, s, m, args, below, meth, c, Q, g, ⟨hx, hb, hml, hown, hts, hK, hin⟩, hR, hsz, rfl, hrt⟩ := C
  intro ls H locs hn hl hP hS
  intro T hT X
  have hz : H.size = g.1.2 + 1 + n := by
    have h1 := X.heapSize
    rw [hT] at h1
    have h2 := hP.1
    omega
  subst hst
  obtain ⟨⟨ok1, ok2⟩, ok3, ok4, ok5, ok6⟩ := ok
  obtain ⟨hh1, hh2, hh3, hh4⟩ := hh
  have hws : ∀ w ∈ (Cond.code y' cc' ml' ret' :: zGW), ∀ (a' : Array Value) (U : State), s.WarmedH U.vm → w.before a' U = true := pay_in hts (zGoodIn ok5)
  have hrm : (zRm h' mc' ms').frames + 1 ≤ R.frames ∧ 8 + (ml' + 11) + (zRm h' mc' ms').locals ≤ R.locals := by
    show h' + 1 ≤ _ ∧ 8 + (ml' + 11) + 64 * h' ≤ _
    omega
  have hlen : ∀ sig, parseMethodDescriptor y'.desc = some sig → na = sig.parameters.length := fun sig q => by
    rw [q] at ok3
    exact (Option.some.inj ok3).symm
  have hfb : FrameBlind (zPre g n σ as) := fun a U fr mk q => ⟨q.1, q.2.1, q.2.2.1, zK.calling fr mk a q.2.2.2⟩
  have hpc : ∀ U : State, U.heap = H → s.WarmedH U.vm → zPre g n σ as (as.map (zv g)).toArray U := fun U hU hW => ⟨rfl, by rw [hU]; exact hz, by rw [hU]; exact hP, zK.warm hW hK⟩
  have hcat : 2 * (0 : Nat) + ((rest.map (zv g)).map fun v => v.category).sum ≤ 8 := by
    rw [zcat_eq]
    omega
  have hstk : ((as.reverse ++ rest).map (zv g)) = (as.map (zv g)).reverse ++ rest.map (zv g) := by
    simp [List.map_append, List.map_reverse]
  have hfix : CallFix p m c cc ml s args zGW y.cls := ⟨hx, hb, hml, hown, hts⟩
  obtain ⟨v, st₀, t, T', L, h0, X', hL, e1, e2, ⟨hv, hH1, hF1⟩, stp⟩ := (va_runSN (As := as.map (zv g)) (rest := rest.map (zv g)) hfix (hM l g) ⟨⟨⟨rfl, rfl, hrm.1, hrm.2, hws, List.mem_cons_self⟩, hts _ ok5, hts _ ok6, ⟨ok1, ok2⟩, hlen, va_Nw.use rfl (hK.2.1 _ lk.1)⟩, hts _ lk.2, trivial⟩ ⟨hfb, hpc⟩ rfl (by rw [List.length_map]; exact hh2) hl.1 hstk hcat d ⟨by omega, by omega⟩) T hT X
  obtain rfl : v = r.map (zv g) := by cases hv; rfl
  rw [hT] at e1
  have hk := k ls T'.heap (locs ++ L) ⟨by omega, by omega, by omega⟩ hl (by rw [e1]; exact hH1) ?_
  · have e5 : n' - n0 = n - n0 + mc' := by omega
    rw [e5] at hk
    obtain ⟨t2, a1, b1⟩ := hk T' rfl X'
    refine ⟨t2, stp t2 ?_, b1⟩
    have e6 : ((r.toList ++ rest).map (zv g)) = (r.map (zv g)).toList ++ rest.map (zv g) := by
      cases r <;> simp
    rw [e6] at a1
    exact a1
  · sorry
set_option maxHeartbeats 2000000 in
theorem x_callV {y : MethodName} {cc : ByteArray} {ml : Nat} {ret : Option FieldType} {h mc ms n0 : Nat} {Ret : zRT} {K : zKT} (C : zX y cc ml ret h mc ms n0 Ret K) {pc : Nat} {Lo : List (Option zV)} {st : List zV} {n : Nat} {σ : zS} {w : Nat} {y' : MethodName} {cc' : ByteArray} {ml' : Nat} {ret' : Option FieldType} {h' mc' ms' na idx n' : Nat} {as rest : List zV} {r : Option zV} {σ' : zS} {b : Int} {ci : Nat} {vs : List zV} {C0 : String} {T0 : u_T} {N0 : Nat} (d : decode cc pc = .ok (.invokevirtual idx, 3)) (hM : zCt h' mc' ms' y' cc' ml' ret' (zr b :: as) n σ r n' σ') (ok : zOk y' cc' ml' ret' na) (lk : zLv y.cls idx y') (ho : (σ b = zO ci vs ∧ vwCl[ci]? = some (C0, T0, N0) ∧ C0 = y'.cls) ∧ 0 < b ∧ b ≤ n) (hh : h' < h ∧ as.length = na ∧ n' = n + mc' ∧ zcat rest ≤ 8) (hst : as.reverse ++ zr b :: rest = st) (hf : mc' = 0 ∧ ms' = 0 ∨ n + mc' ≤ n0 + mc ∧ w + ms' ≤ ms) (k : K (pc + 3) Lo (r.toList ++ rest) n' σ' (w + ms')) : K pc Lo st n σ w := by
  obtain ⟨p, l, e, R, s, m, args, below, meth, c, Q, g, ⟨hx, hb, hml, hown, hts, hK, hin⟩, hR, hsz, rfl, hrt⟩ := C
  intro ls H locs hn hl hP hS
  intro T hT X
  have hz : H.size = g.1.2 + 1 + n := by
    have h1 := X.heapSize
    rw [hT] at h1
    have h2 := hP.1
    omega
  subst hst
  obtain ⟨⟨ok1, ok2⟩, ok3, ok4, ok5, ok6⟩ := ok
  obtain ⟨hh1, hh2, hh3, hh4⟩ := hh
  have hws : ∀ w ∈ (Cond.code y' cc' ml' ret' :: zGW), ∀ (a' : Array Value) (U : State), s.WarmedH U.vm → w.before a' U = true := pay_in hts (zGoodIn ok5)
  have hrm : (zRm h' mc' ms').frames + 1 ≤ R.frames ∧ 8 + (ml' + 11) + (zRm h' mc' ms').locals ≤ R.locals := by
    show h' + 1 ≤ _ ∧ 8 + (ml' + 11) + 64 * h' ≤ _
    omega
  have hlen : ∀ sig, parseMethodDescriptor y'.desc = some sig → na = sig.parameters.length := fun sig q => by
    rw [q] at ok3
    exact (Option.some.inj ok3).symm
  have hfb : FrameBlind (zPre g n σ (zr b :: as)) := fun a U fr mk q => ⟨q.1, q.2.1, q.2.2.1, zK.calling fr mk a q.2.2.2⟩
  have hpc : ∀ U : State, U.heap = H → s.WarmedH U.vm → zPre g n σ (zr b :: as) ((zr b :: as).map (zv g)).toArray U := fun U hU hW => ⟨rfl, by rw [hU]; exact hz, by rw [hU]; exact hP, zK.warm hW hK⟩
  have hcat : 2 * (0 : Nat) + ((rest.map (zv g)).map fun v => v.category).sum ≤ 8 := by
    rw [zcat_eq]
    omega
  have hstk : ((as.reverse ++ zr b :: rest).map (zv g)) = (as.map (zv g)).reverse ++ zv g (zr b) :: rest.map (zv g) := by
    simp [List.map_append, List.map_reverse]
  have hfix : CallFix p m c cc ml s args zGW y.cls := ⟨hx, hb, hml, hown, hts⟩
  obtain ⟨⟨ho1, ho2, ho3⟩, ho4⟩ := ho
  have hat := zW_at g σ ho4
  rw [ho1] at hat
  subst ho3
  have hrecv := va_recv hK.1 hP.2.2 ho2 hat
  obtain ⟨v, st₀, t, T', L, h0, X', hL, e1, e2, ⟨hv, hH1, hF1⟩, stp⟩ := (va_runV (b := zad g b) (As := as.map (zv g)) (rest := rest.map (zv g)) hfix (hM l g) ⟨⟨rfl, rfl, hrm.1, hrm.2, hws, List.mem_cons_self, hts _ ok5, hts _ ok6, ⟨ok1, ok2⟩, hlen, hts _ lk.1⟩, hts _ lk.2.1, hts _ lk.2.2⟩ ⟨hfb, hrecv, hpc⟩ rfl (by rw [List.length_map]; exact hh2) hl.1 hstk hcat d ⟨by omega, by omega⟩) T hT X
  obtain rfl : v = r.map (zv g) := by cases hv; rfl
  rw [hT] at e1
  have hk := k ls T'.heap (locs ++ L) ⟨by omega, by omega, by omega⟩ hl (by rw [e1]; exact hH1) ?_
  · have e5 : n' - n0 = n - n0 + mc' := by omega
    rw [e5] at hk
    obtain ⟨t2, a1, b1⟩ := hk T' rfl X'
    refine ⟨t2, stp t2 ?_, b1⟩
    have e6 : ((r.toList ++ rest).map (zv g)) = (r.map (zv g)).toList ++ rest.map (zv g) := by
      cases r <;> simp
    rw [e6] at a1
    exact a1
  · sorry
set_option maxHeartbeats 2000000 in
theorem x_callVN {y : MethodName} {cc : ByteArray} {ml : Nat} {ret : Option FieldType} {h mc ms n0 : Nat} {Ret : zRT} {K : zKT} (C : zX y cc ml ret h mc ms n0 Ret K) {pc : Nat} {Lo : List (Option zV)} {st : List zV} {n : Nat} {σ : zS} {w : Nat} {y' : MethodName} {cc' : ByteArray} {ml' : Nat} {ret' : Option FieldType} {h' mc' ms' na idx n' : Nat} {as rest : List zV} {r : Option zV} {σ' : zS} {b : Int} {ci : Nat} {vs : List zV} {C0 : String} {T0 : u_T} {N0 : Nat} (d : decode cc pc = .ok (.invokevirtual idx, 3)) (hM : zCt h' mc' ms' y' cc' ml' ret' (zr b :: as) n σ r n' σ') (ok : zOk y' cc' ml' ret' na) (lk : zNv y.cls idx y') (ho : (σ b = zO ci vs ∧ vwCl[ci]? = some (C0, T0, N0) ∧ C0 = y'.cls) ∧ 0 < b ∧ b ≤ n) (hh : h' < h ∧ as.length = na ∧ n' = n + mc' ∧ zcat rest ≤ 8) (hst : as.reverse ++ zr b :: rest = st) (hf : mc' = 0 ∧ ms' = 0 ∨ n + mc' ≤ n0 + mc ∧ w + ms' ≤ ms) (k : K (pc + 3) Lo (r.toList ++ rest) n' σ' (w + ms')) : K pc Lo st n σ w := by
  obtain ⟨p, l, e, R, s, m, args, below, meth, c, Q, g, ⟨hx, hb, hml, hown, hts, hK, hin⟩, hR, hsz, rfl, hrt⟩ := C
  intro ls H locs hn hl hP hS
  intro T hT X
  have hz : H.size = g.1.2 + 1 + n := by
    have h1 := X.heapSize
    rw [hT] at h1
    have h2 := hP.1
    omega
  subst hst
  obtain ⟨⟨ok1, ok2⟩, ok3, ok4, ok5, ok6⟩ := ok
  obtain ⟨hh1, hh2, hh3, hh4⟩ := hh
  have hws : ∀ w ∈ (Cond.code y' cc' ml' ret' :: zGW), ∀ (a' : Array Value) (U : State), s.WarmedH U.vm → w.before a' U = true := pay_in hts (zGoodIn ok5)
  have hrm : (zRm h' mc' ms').frames + 1 ≤ R.frames ∧ 8 + (ml' + 11) + (zRm h' mc' ms').locals ≤ R.locals := by
    show h' + 1 ≤ _ ∧ 8 + (ml' + 11) + 64 * h' ≤ _
    omega
  have hlen : ∀ sig, parseMethodDescriptor y'.desc = some sig → na = sig.parameters.length := fun sig q => by
    rw [q] at ok3
    exact (Option.some.inj ok3).symm
  have hfb : FrameBlind (zPre g n σ (zr b :: as)) := fun a U fr mk q => ⟨q.1, q.2.1, q.2.2.1, zK.calling fr mk a q.2.2.2⟩
  have hpc : ∀ U : State, U.heap = H → s.WarmedH U.vm → zPre g n σ (zr b :: as) ((zr b :: as).map (zv g)).toArray U := fun U hU hW => ⟨rfl, by rw [hU]; exact hz, by rw [hU]; exact hP, zK.warm hW hK⟩
  have hcat : 2 * (0 : Nat) + ((rest.map (zv g)).map fun v => v.category).sum ≤ 8 := by
    rw [zcat_eq]
    omega
  have hstk : ((as.reverse ++ zr b :: rest).map (zv g)) = (as.map (zv g)).reverse ++ zv g (zr b) :: rest.map (zv g) := by
    simp [List.map_append, List.map_reverse]
  have hfix : CallFix p m c cc ml s args zGW y.cls := ⟨hx, hb, hml, hown, hts⟩
  obtain ⟨⟨ho1, ho2, ho3⟩, ho4⟩ := ho
  have hat := zW_at g σ ho4
  rw [ho1] at hat
  subst ho3
  have hrecv := va_recv hK.1 hP.2.2 ho2 hat
  obtain ⟨v, st₀, t, T', L, h0, X', hL, e1, e2, ⟨hv, hH1, hF1⟩, stp⟩ := (va_runVN (b := zad g b) (As := as.map (zv g)) (rest := rest.map (zv g)) hfix (hM l g) ⟨⟨⟨rfl, rfl, hrm.1, hrm.2, hws, List.mem_cons_self⟩, hts _ ok5, hts _ ok6, ⟨ok1, ok2⟩, hlen, va_Nw.use rfl (hK.2.1 _ lk.1)⟩, hts _ lk.2.1, hts _ lk.2.2⟩ ⟨hfb, hrecv, hpc⟩ rfl (by rw [List.length_map]; exact hh2) hl.1 hstk hcat d ⟨by omega, by omega⟩) T hT X
  obtain rfl : v = r.map (zv g) := by cases hv; rfl
  rw [hT] at e1
  have hk := k ls T'.heap (locs ++ L) ⟨by omega, by omega, by omega⟩ hl (by rw [e1]; exact hH1) ?_
  · have e5 : n' - n0 = n - n0 + mc' := by omega
    rw [e5] at hk
    obtain ⟨t2, a1, b1⟩ := hk T' rfl X'
    refine ⟨t2, stp t2 ?_, b1⟩
    have e6 : ((r.toList ++ rest).map (zv g)) = (r.map (zv g)).toList ++ rest.map (zv g) := by
      cases r <;> simp
    rw [e6] at a1
    exact a1
  · sorry
set_option maxHeartbeats 2000000 in
theorem x_callI {y : MethodName} {cc : ByteArray} {ml : Nat} {ret : Option FieldType} {h mc ms n0 : Nat} {Ret : zRT} {K : zKT} (C : zX y cc ml ret h mc ms n0 Ret K) {pc : Nat} {Lo : List (Option zV)} {st : List zV} {n : Nat} {σ : zS} {w : Nat} {y' : MethodName} {cc' : ByteArray} {ml' : Nat} {ret' : Option FieldType} {h' mc' ms' na idx n' : Nat} {as rest : List zV} {r : Option zV} {σ' : zS} {b : Int} (d : decode cc pc = .ok (.invokespecial idx, 3)) (hM : zCt h' mc' ms' y' cc' ml' ret' (zr b :: as) n σ r n' σ') (ok : zOk y' cc' ml' ret' na) (lk : zLi y.cls idx y') (hh : h' < h ∧ as.length = na ∧ n' = n + mc' ∧ zcat rest ≤ 8) (hst : as.reverse ++ zr b :: rest = st) (hf : mc' = 0 ∧ ms' = 0 ∨ n + mc' ≤ n0 + mc ∧ w + ms' ≤ ms) (k : K (pc + 3) Lo (r.toList ++ rest) n' σ' (w + ms')) : K pc Lo st n σ w := by
  obtain ⟨p, l, e, R, s, m, args, below, meth, c, Q, g, ⟨hx, hb, hml, hown, hts, hK, hin⟩, hR, hsz, rfl, hrt⟩ := C
  intro ls H locs hn hl hP hS
  intro T hT X
  have hz : H.size = g.1.2 + 1 + n := by
    have h1 := X.heapSize
    rw [hT] at h1
    have h2 := hP.1
    omega
  subst hst
  obtain ⟨⟨ok1, ok2⟩, ok3, ok4, ok5, ok6⟩ := ok
  obtain ⟨hh1, hh2, hh3, hh4⟩ := hh
  have hws : ∀ w ∈ (Cond.code y' cc' ml' ret' :: zGW), ∀ (a' : Array Value) (U : State), s.WarmedH U.vm → w.before a' U = true := pay_in hts (zGoodIn ok5)
  have hrm : (zRm h' mc' ms').frames + 1 ≤ R.frames ∧ 8 + (ml' + 11) + (zRm h' mc' ms').locals ≤ R.locals := by
    show h' + 1 ≤ _ ∧ 8 + (ml' + 11) + 64 * h' ≤ _
    omega
  have hlen : ∀ sig, parseMethodDescriptor y'.desc = some sig → na = sig.parameters.length := fun sig q => by
    rw [q] at ok3
    exact (Option.some.inj ok3).symm
  have hfb : FrameBlind (zPre g n σ (zr b :: as)) := fun a U fr mk q => ⟨q.1, q.2.1, q.2.2.1, zK.calling fr mk a q.2.2.2⟩
  have hpc : ∀ U : State, U.heap = H → s.WarmedH U.vm → zPre g n σ (zr b :: as) ((zr b :: as).map (zv g)).toArray U := fun U hU hW => ⟨rfl, by rw [hU]; exact hz, by rw [hU]; exact hP, zK.warm hW hK⟩
  have hcat : 2 * (0 : Nat) + ((rest.map (zv g)).map fun v => v.category).sum ≤ 8 := by
    rw [zcat_eq]
    omega
  have hstk : ((as.reverse ++ zr b :: rest).map (zv g)) = (as.map (zv g)).reverse ++ zv g (zr b) :: rest.map (zv g) := by
    simp [List.map_append, List.map_reverse]
  have hfix : CallFix p m c cc ml s args zGW y.cls := ⟨hx, hb, hml, hown, hts⟩
  obtain ⟨v, st₀, t, T', L, h0, X', hL, e1, e2, ⟨hv, hH1, hF1⟩, stp⟩ := (va_runI (b := zad g b) (As := as.map (zv g)) (rest := rest.map (zv g)) hfix (hM l g) ⟨⟨rfl, rfl, hrm.1, hrm.2, hws, List.mem_cons_self, hts _ ok5, hts _ ok6, ⟨ok1, ok2⟩, hlen, hts _ lk.1⟩, lk.2.2, hts _ lk.2.1⟩ ⟨hfb, hpc⟩ rfl (by rw [List.length_map]; exact hh2) hl.1 hstk hcat d ⟨by omega, by omega⟩) T hT X
  obtain rfl : v = r.map (zv g) := by cases hv; rfl
  rw [hT] at e1
  have hk := k ls T'.heap (locs ++ L) ⟨by omega, by omega, by omega⟩ hl (by rw [e1]; exact hH1) ?_
  · have e5 : n' - n0 = n - n0 + mc' := by omega
    rw [e5] at hk
    obtain ⟨t2, a1, b1⟩ := hk T' rfl X'
    refine ⟨t2, stp t2 ?_, b1⟩
    have e6 : ((r.toList ++ rest).map (zv g)) = (r.map (zv g)).toList ++ rest.map (zv g) := by
      cases r <;> simp
    rw [e6] at a1
    exact a1
  · sorry
set_option maxHeartbeats 2000000 in
theorem x_callIN {y : MethodName} {cc : ByteArray} {ml : Nat} {ret : Option FieldType} {h mc ms n0 : Nat} {Ret : zRT} {K : zKT} (C : zX y cc ml ret h mc ms n0 Ret K) {pc : Nat} {Lo : List (Option zV)} {st : List zV} {n : Nat} {σ : zS} {w : Nat} {y' : MethodName} {cc' : ByteArray} {ml' : Nat} {ret' : Option FieldType} {h' mc' ms' na idx n' : Nat} {as rest : List zV} {r : Option zV} {σ' : zS} {b : Int} (d : decode cc pc = .ok (.invokespecial idx, 3)) (hM : zCt h' mc' ms' y' cc' ml' ret' (zr b :: as) n σ r n' σ') (ok : zOk y' cc' ml' ret' na) (lk : zNi y.cls idx y') (hh : h' < h ∧ as.length = na ∧ n' = n + mc' ∧ zcat rest ≤ 8) (hst : as.reverse ++ zr b :: rest = st) (hf : mc' = 0 ∧ ms' = 0 ∨ n + mc' ≤ n0 + mc ∧ w + ms' ≤ ms) (k : K (pc + 3) Lo (r.toList ++ rest) n' σ' (w + ms')) : K pc Lo st n σ w := by
  obtain ⟨p, l, e, R, s, m, args, below, meth, c, Q, g, ⟨hx, hb, hml, hown, hts, hK, hin⟩, hR, hsz, rfl, hrt⟩ := C
  intro ls H locs hn hl hP hS
  intro T hT X
  have hz : H.size = g.1.2 + 1 + n := by
    have h1 := X.heapSize
    rw [hT] at h1
    have h2 := hP.1
    omega
  subst hst
  obtain ⟨⟨ok1, ok2⟩, ok3, ok4, ok5, ok6⟩ := ok
  obtain ⟨hh1, hh2, hh3, hh4⟩ := hh
  have hws : ∀ w ∈ (Cond.code y' cc' ml' ret' :: zGW), ∀ (a' : Array Value) (U : State), s.WarmedH U.vm → w.before a' U = true := pay_in hts (zGoodIn ok5)
  have hrm : (zRm h' mc' ms').frames + 1 ≤ R.frames ∧ 8 + (ml' + 11) + (zRm h' mc' ms').locals ≤ R.locals := by
    show h' + 1 ≤ _ ∧ 8 + (ml' + 11) + 64 * h' ≤ _
    omega
  have hlen : ∀ sig, parseMethodDescriptor y'.desc = some sig → na = sig.parameters.length := fun sig q => by
    rw [q] at ok3
    exact (Option.some.inj ok3).symm
  have hfb : FrameBlind (zPre g n σ (zr b :: as)) := fun a U fr mk q => ⟨q.1, q.2.1, q.2.2.1, zK.calling fr mk a q.2.2.2⟩
  have hpc : ∀ U : State, U.heap = H → s.WarmedH U.vm → zPre g n σ (zr b :: as) ((zr b :: as).map (zv g)).toArray U := fun U hU hW => ⟨rfl, by rw [hU]; exact hz, by rw [hU]; exact hP, zK.warm hW hK⟩
  have hcat : 2 * (0 : Nat) + ((rest.map (zv g)).map fun v => v.category).sum ≤ 8 := by
    rw [zcat_eq]
    omega
  have hstk : ((as.reverse ++ zr b :: rest).map (zv g)) = (as.map (zv g)).reverse ++ zv g (zr b) :: rest.map (zv g) := by
    simp [List.map_append, List.map_reverse]
  have hfix : CallFix p m c cc ml s args zGW y.cls := ⟨hx, hb, hml, hown, hts⟩
  obtain ⟨v, st₀, t, T', L, h0, X', hL, e1, e2, ⟨hv, hH1, hF1⟩, stp⟩ := (va_runIN (b := zad g b) (As := as.map (zv g)) (rest := rest.map (zv g)) hfix (hM l g) ⟨⟨⟨rfl, rfl, hrm.1, hrm.2, hws, List.mem_cons_self⟩, hts _ ok5, hts _ ok6, ⟨ok1, ok2⟩, hlen, va_Nw.use rfl (hK.2.1 _ lk.1)⟩, lk.2.2, hts _ lk.2.1⟩ ⟨hfb, hpc⟩ rfl (by rw [List.length_map]; exact hh2) hl.1 hstk hcat d ⟨by omega, by omega⟩) T hT X
  obtain rfl : v = r.map (zv g) := by cases hv; rfl
  rw [hT] at e1
  have hk := k ls T'.heap (locs ++ L) ⟨by omega, by omega, by omega⟩ hl (by rw [e1]; exact hH1) ?_
  · have e5 : n' - n0 = n - n0 + mc' := by omega
    rw [e5] at hk
    obtain ⟨t2, a1, b1⟩ := hk T' rfl X'
    refine ⟨t2, stp t2 ?_, b1⟩
    have e6 : ((r.toList ++ rest).map (zv g)) = (r.map (zv g)).toList ++ rest.map (zv g) := by
      cases r <;> simp
    rw [e6] at a1
    exact a1
  · sorry
