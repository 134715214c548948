def zEn (S : Int → Int) : Prop := ∀ m, 0 ≤ m ∧ m < 4 → zBe (zsE S m)
theorem zsE_e (S : Int → Int) {m m2 j j2 : Int} (v : Int) (hm : 0 ≤ m ∧ m < 4) (hj : 0 ≤ j ∧ j < 256) (hm2 : 0 ≤ m2 ∧ m2 < 4) (hj2 : 0 ≤ j2 ∧ j2 < 256) : zsE (zu S (341 * m + 85 + j) v) m2 j2 = if m2 = m ∧ j2 = j then v else zsE S m2 j2 := by
  unfold zsE zu
  by_cases c : m2 = m ∧ j2 = j
  · rw [if_pos c, if_pos (by omega)]
  · rw [if_neg c, if_neg (by omega)]
theorem zsT_e (S : Int → Int) {m m2 j k : Int} (v : Int) (hm : 0 ≤ m ∧ m < 4) (hj : 0 ≤ j ∧ j < 256) (hm2 : 0 ≤ m2 ∧ m2 < 4) (hk : 0 ≤ k ∧ k < 85) : zsT (zu S (341 * m + 85 + j) v) m2 k = zsT S m2 k := by
  unfold zsT zu
  rw [if_neg (by omega)]
theorem zsE_t (S : Int → Int) {m m2 k j : Int} (v : Int) (hm : 0 ≤ m ∧ m < 4) (hk : 0 ≤ k ∧ k < 85) (hm2 : 0 ≤ m2 ∧ m2 < 4) (hj : 0 ≤ j ∧ j < 256) : zsE (zu S (341 * m + k) v) m2 j = zsE S m2 j := by
  unfold zsE zu
  rw [if_neg (by omega)]
theorem zsT_t (S : Int → Int) {m m2 k k2 : Int} (v : Int) (hm : 0 ≤ m ∧ m < 4) (hk : 0 ≤ k ∧ k < 85) (hm2 : 0 ≤ m2 ∧ m2 < 4) (hk2 : 0 ≤ k2 ∧ k2 < 85) : zsT (zu S (341 * m + k) v) m2 k2 = if m2 = m ∧ k2 = k then v else zsT S m2 k2 := by
  unfold zsT zu
  by_cases c : m2 = m ∧ k2 = k
  · rw [if_pos c, if_pos (by omega)]
  · rw [if_neg c, if_neg (by omega)]
theorem isSo.t {S : Int → Int} (h : isSo S) {m k v : Int} (hm : 0 ≤ m ∧ m < 4) (hk : 0 ≤ k ∧ k < 85) (hv : 0 ≤ v ∧ v ≤ 3) : isSo (zu S (341 * m + k) v) := by
  intro m2 k2 h1 h2 h3 h4
  rw [zsT_t S v hm hk ⟨h1, h2⟩ ⟨h3, h4⟩]
  split
  · exact hv
  · exact h m2 k2 h1 h2 h3 h4
theorem isSo.e {S : Int → Int} (h : isSo S) {m j : Int} (v : Int) (hm : 0 ≤ m ∧ m < 4) (hj : 0 ≤ j ∧ j < 256) : isSo (zu S (341 * m + 85 + j) v) := by
  intro m2 k2 h1 h2 h3 h4
  rw [zsT_e S v hm hj ⟨h1, h2⟩ ⟨h3, h4⟩]
  exact h m2 k2 h1 h2 h3 h4
theorem zEn.t {S : Int → Int} (h : zEn S) {m k : Int} (v : Int) (hm : 0 ≤ m ∧ m < 4) (hk : 0 ≤ k ∧ k < 85) : zEn (zu S (341 * m + k) v) := by
  intro m2 hm2 j h1 h2
  rw [zsE_t S v hm hk hm2 ⟨h1, h2⟩]
  exact h m2 hm2 j h1 h2
theorem zEn.e {S : Int → Int} (h : zEn S) {m j v : Int} (hm : 0 ≤ m ∧ m < 4) (hj : 0 ≤ j ∧ j < 256) (hv : -1000000 ≤ v ∧ v ≤ 1000000) : zEn (zu S (341 * m + 85 + j) v) := by
  intro m2 hm2 j2 h1 h2
  rw [zsE_e S v hm hj hm2 ⟨h1, h2⟩]
  split
  · exact hv
  · exact h m2 hm2 j2 h1 h2
/-- the four parts of a block -/
theorem zpq {d r : Int} {k : Int} (hd : 0 ≤ d ∧ d ≤ 2) (hr : 0 ≤ r ∧ r < zp2 d) (hk : 0 ≤ k ∧ k < 4) : (0 ≤ 2 * r + k / 2 ∧ 2 * r + k / 2 < zp2 (d + 1)) ∧ 0 ≤ 2 * r + k % 2 ∧ 2 * r + k % 2 < zp2 (d + 1) := by
  have hp := zp2_v (d := d) (by omega)
  have hpd1 := zp2_m (d := d) (j := 1) hd.1 (by decide) (by omega)
  rw [show zp2 1 = 2 from rfl] at hpd1
  omega
def zmct (S : Int → Int) (m d r c : Int) : Int → Int := if zsT S m (zmn d r c) = 3 then S else zfo (fun T k => zu T (341 * m + zmn (d + 1) (2 * r + k / 2) (2 * c + k % 2)) (zsT S m (zmn d r c))) (zu S (341 * m + zmn d r c) 3) 4
def zaqs (m q x row col N : Int) (T : Int → Int) (k : Int) : Int → Int := zu T (341 * m + 85 + ((row + k / N) * 16 + (col + k % N))) (zclp (zsE T m ((row + k / N) * 16 + (col + k % N)) + x * zsE T q ((row + k / N) * 16 + (col + k % N))))
def zaq (S : Int → Int) (m q x row col N : Int) : Nat → Int → Int := zfo (zaqs m q x row col N) S
def zab (S O : Int → Int) (m q x d r c : Int) : (Int → Int) × (Int → Int) :=
  if zsT S q (zmn d r c) = 3 ∧ zsT S m (zmn d r c) = 3 then (S, zfo (fun T k => zu T (zmn (d + 1) (2 * r + k / 2) (2 * c + k % 2)) 1) O 4)
  else if zsT S q (zmn d r c) ≠ 0 then (zaq (zu S (341 * m + zmn d r c) 1) m q x (r * zsz d) (c * zsz d) (zsz d) (zsz d * zsz d).toNat, O) else (S, O)
def zsw (S : Int → Int) (m a b : Int) : Int → Int := zu (zu S (341 * m + a) (S (341 * m + b))) (341 * m + b) (S (341 * m + a))
theorem zclp_m {a b x : Int} (ha : -1000000 ≤ a ∧ a ≤ 1000000) (hb : -1000000 ≤ b ∧ b ≤ 1000000) (hx : -99 ≤ x ∧ x ≤ 99) : -2147483648 ≤ a + x * b ∧ a + x * b < 2147483648 := by
  have z1 : x.natAbs ≤ 99 := by omega
  have z2 : b.natAbs ≤ 1000000 := by omega
  have z3 : (x * b).natAbs ≤ 99 * 1000000 := by
    rw [Int.natAbs_mul]
    exact Nat.mul_le_mul z1 z2
  omega
section
variable {n : Nat} {σ : zS} {S : Int → Int}
end
