/-- the history of the model -/
def zU1 (um : Int) (U : Int → Int) : Int → Int := if um = 6 then (fun k => if 0 ≤ k ∧ k < 6825 then U (k + 1365) else U k) else U
def zu1 (um : Int) : Int := if um = 6 then 5 else um
def zU2 (um : Int) (U S : Int → Int) : Int → Int := fun k => if 1365 * zu1 um ≤ k ∧ k < 1365 * zu1 um + 1365 then S (k - 1365 * zu1 um) else zU1 um U k
def zcpy (A B : Int → Int) (k : Int) : Int → Int := fun j => if 0 ≤ j ∧ j < k then B j else A j
theorem zcpy_0 (A B : Int → Int) : zcpy A B 0 = A := funext fun j => if_neg (by omega)
theorem zcpy_s (A B : Int → Int) {k : Int} (hk : 0 ≤ k) : zu (zcpy A B k) k (B k) = zcpy A B (k + 1) := by
  funext j
  unfold zu zcpy
  by_cases c : j = k
  · rw [if_pos c, if_pos (by omega), c]
  · rw [if_neg c]
    by_cases c2 : 0 ≤ j ∧ j < k
    · rw [if_pos c2, if_pos (by omega)]
    · rw [if_neg c2, if_neg (by omega)]
theorem zcpy_in (A B : Int → Int) {k j : Int} (h : 0 ≤ j ∧ j < k) : zcpy A B k j = B j := if_pos h
theorem zcpy_out (A B : Int → Int) {k j : Int} (h : k ≤ j) : zcpy A B k j = A j := if_neg (by omega)
section
variable {n : Nat} {σ : zS} {S : Int → Int}
end
