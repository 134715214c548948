def zmask : List (Option zV) → List (Option zV) → List (Option zV)
  | none :: a, _ :: b => none :: zmask a b
  | some _ :: a, o :: b => o :: zmask a b
  | _, _ => []
theorem zmask_g : ∀ (a b : List (Option zV)) (j : Nat) (u : zV), zg (zmask a b) j = some u → zg b j = some u
  | none :: a, _ :: b, 0, u, h => by cases h
  | none :: a, _ :: b, j + 1, u, h => zmask_g a b j u h
  | some _ :: a, o :: b, 0, u, h => h
  | some _ :: a, o :: b, j + 1, u, h => zmask_g a b j u h
  | [], _, j, u, h => by cases j <;> cases h
  | none :: _, [], j, u, h => by cases j <;> cases h
  | some _ :: _, [], j, u, h => by cases j <;> cases h
theorem x_wk {y : MethodName} {cc : ByteArray} {ml : Nat} {ret : Option FieldType} {h mc ms n0 : Nat} {Ret : zRT} {K : zKT} (C : zX y cc ml ret h mc ms n0 Ret K) {pc : Nat} {Lo Lo' : List (Option zV)} {st : List zV} {n : Nat} {σ : zS} {w : Nat} (hw : zmask Lo' Lo = Lo') (k : K pc Lo' st n σ w) : K pc Lo st n σ w :=
  x_weak C (fun j u hj => zmask_g Lo' Lo j u (by rw [hw]; exact hj)) k
theorem zdv {a b : Int} (hb : b ≠ 0) (x : Int) : a + x * b = 0 ↔ a.tmod b = 0 ∧ x = -(a.tdiv b) := by
  have h := Int.mul_tdiv_add_tmod a b
  constructor
  · intro e
    have e2 : a = -x * b := by rw [Int.neg_mul]; omega
    have h1 : a.tmod b = 0 := by rw [e2]; exact Int.mul_tmod_left _ _
    have h2 : a.tdiv b = -x := by rw [e2]; exact Int.mul_tdiv_cancel _ hb
    exact ⟨h1, by omega⟩
  · rintro ⟨h1, rfl⟩
    rw [h1, Int.mul_comm] at h
    rw [Int.neg_mul]
    omega
theorem ztd {a b : Int} (ha : -1000000 ≤ a ∧ a ≤ 1000000) : -1000000 ≤ a.tdiv b ∧ a.tdiv b ≤ 1000000 := by
  have h1 := Int.natAbs_tdiv_le_natAbs a b
  omega
theorem ztm {a b : Int} (ha : -1000000 ≤ a ∧ a ≤ 1000000) : -1000000 ≤ a.tmod b ∧ a.tmod b ≤ 1000000 := by
  have h1 : (a.tmod b).natAbs ≤ a.natAbs := by
    rw [Int.natAbs_tmod]
    exact Nat.mod_le _ _
  omega
section
variable {n : Nat} {σ : zS}
/-- of so many cells: those that would be 0 in the sum -/
def zzr (e e2 : Int → Int) (x : Int) : Nat → Int := zsm (fun j => if e j + x * e2 j = 0 then 1 else 0)
def zz1 (e e2 : Int → Int) (x : Int) : Nat → Int := zsm (fun j => if e2 j ≠ 0 ∧ e j + x * e2 j = 0 then 1 else 0)
def zz0 (e e2 : Int → Int) : Nat → Int := zsm (fun j => if e2 j = 0 ∧ e j = 0 then 1 else 0)
theorem zzr_sum (e e2 : Int → Int) (x : Int) : ∀ k, zzr e e2 x k = zz1 e e2 x k + zz0 e e2 k
  | 0 => rfl
  | k + 1 => by
    have ih := zzr_sum e e2 x k
    show zzr e e2 x k + (if e k + x * e2 k = 0 then 1 else 0) = (zz1 e e2 x k + (if e2 k ≠ 0 ∧ e k + x * e2 k = 0 then 1 else 0)) + (zz0 e e2 k + (if e2 k = 0 ∧ e k = 0 then 1 else 0))
    by_cases h2 : e2 k = 0
    · by_cases h1 : e k = 0
      · simp only [h1, h2, Int.mul_zero, Int.add_zero, ne_eq, not_true_eq_false, false_and, if_false, if_true, and_self]; omega
      · simp only [h1, h2, Int.mul_zero, Int.add_zero, ne_eq, not_true_eq_false, false_and, and_false, if_false]; omega
    · by_cases h1 : e k + x * e2 k = 0
      · simp only [h1, h2, ne_eq, not_false_eq_true, true_and, false_and, if_false, if_true, and_self]; omega
      · simp only [h1, h2, ne_eq, and_false, false_and, if_false]; omega
theorem zz_in (g : Int → Int) (hg : ∀ j, 0 ≤ g j ∧ g j ≤ 1) : ∀ k : Nat, 0 ≤ zsm g k ∧ zsm g k ≤ k
  | 0 => ⟨Int.le_refl 0, Int.le_refl 0⟩
  | k + 1 => by
    have ih := zz_in g hg k
    have h1 := hg k
    show 0 ≤ zsm g k + g k ∧ zsm g k + g k ≤ ((k + 1 : Nat) : Int)
    omega
theorem z01 (c : Prop) [Decidable c] : 0 ≤ (if c then (1 : Int) else 0) ∧ (if c then (1 : Int) else 0) ≤ 1 := by
  split <;> decide
end
