theorem zdq {q : Nat} {i j : Int} (hj : 0 ≤ j ∧ j < q) : (i * q + j) / q = i ∧ (i * q + j) % q = j := by
  have hq : (q : Int) ≠ 0 := by omega
  refine ⟨?_, ?_⟩
  · rw [Int.add_comm, Int.add_mul_ediv_right _ _ hq, Int.ediv_eq_zero_of_lt hj.1 hj.2, Int.zero_add]
  · rw [Int.add_comm, Int.add_mul_emod_self_right, Int.emod_eq_of_lt hj.1 hj.2]
/-- the place of two numbers in a square -/
theorem zij {q : Nat} {i j : Int} (hi : 0 ≤ i ∧ i < q) (hj : 0 ≤ j ∧ j < q) : ∃ k : Nat, k < q * q ∧ (k : Int) / q = i ∧ (k : Int) % q = j ∧ (k : Int) = i * q + j := by
  have h := zrq hi hj
  have e : ((i * q + j).toNat : Int) = i * q + j := Int.toNat_of_nonneg h.1
  refine ⟨(i * q + j).toNat, ?_, ?_, ?_, e⟩
  · have h2 : ((q * q : Nat) : Int) = (q : Int) * q := Int.natCast_mul q q
    omega
  · rw [e]
    exact (zdq hj).1
  · rw [e]
    exact (zdq hj).2
theorem zlq {q : Nat} {i j a : Int} (hj : 0 ≤ j ∧ j < q) (h : i < a) : i * q + j < a * q := by
  have h2 : (i + 1) * (q : Int) ≤ a * q := Int.mul_le_mul_of_nonneg_right (by omega) (by omega)
  rw [Int.add_mul] at h2
  omega
def zBe (e : Int → Int) : Prop := ∀ j, 0 ≤ j → j < 256 → -1000000 ≤ e j ∧ e j ≤ 1000000
theorem zBe.m {e : Int → Int} (h : zBe e) {row col : Int} (hr : 0 ≤ row ∧ row < 16) (hc : 0 ≤ col ∧ col < 16) : -1000000 ≤ e (row * 16 + col) ∧ e (row * 16 + col) ≤ 1000000 := h _ (by omega) (by omega)
section
variable {n : Nat} {σ : zS} {S : Int → Int}
end
