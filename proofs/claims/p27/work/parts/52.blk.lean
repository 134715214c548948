theorem zbl {d a : Int} (hd : 0 ≤ d ∧ d ≤ 3) (ha : 0 ≤ a ∧ a < zp2 d) : 0 ≤ a * zsz d ∧ a * zsz d + zsz d ≤ 16 := by
  have hz := zsz_v hd
  have hzp := zsz_p2 hd
  have h1 : 0 ≤ a * zsz d := Int.mul_nonneg ha.1 (by omega)
  have h2 : (a + 1) * zsz d ≤ zp2 d * zsz d := Int.mul_le_mul_of_nonneg_right (by omega) (by omega)
  rw [Int.mul_comm (zp2 d), hzp, Int.add_mul] at h2
  omega
theorem zno_b {d a b : Int} (hd : 0 ≤ d ∧ d ≤ 3) : zno d (a * zsz d) (b * zsz d) = zmn d a b := by
  have hz := zsz_v hd
  rw [zmn_no, Int.mul_ediv_cancel _ (by omega), Int.mul_ediv_cancel _ (by omega)]
