theorem zp2N {d : Int} (h : 0 ≤ d ∧ d ≤ 3) : ∃ q : Nat, zp2 d = q ∧ 1 ≤ q ∧ q ≤ 8 := ⟨(zp2 d).toNat, by have := zp2_v h; omega, by have := zp2_v h; omega, by have := zp2_v h; omega⟩
theorem zdm {N k : Nat} (h : k < N * N) : (0 ≤ (k : Int) / N ∧ (k : Int) / N < N) ∧ 0 ≤ (k : Int) % N ∧ (k : Int) % N < N := by
  have hN : 0 < N := by
    rcases Nat.eq_zero_or_pos N with q | q
    · subst q
      omega
    · exact q
  refine ⟨⟨Int.ediv_nonneg (by omega) (by omega), ?_⟩, Int.emod_nonneg _ (by omega), Int.emod_lt_of_pos _ (by omega)⟩
  have := Nat.div_lt_of_lt_mul h
  rw [← Int.natCast_ediv]
  omega
theorem zrq {r P a N : Int} (hr : 0 ≤ r ∧ r < P) (ha : 0 ≤ a ∧ a < N) : 0 ≤ r * N + a ∧ r * N + a < P * N := by
  have h1 : 0 ≤ r * N := Int.mul_nonneg hr.1 (by omega)
  have h2 : r * N ≤ (P - 1) * N := Int.mul_le_mul_of_nonneg_right (by omega) (by omega)
  rw [Int.sub_mul] at h2
  omega
theorem zp2_m {d j : Int} (hd : 0 ≤ d) (hj : 0 ≤ j) (h : d + j ≤ 3) : zp2 d * zp2 j = zp2 (d + j) := by
  have h3 : d = 0 ∨ d = 1 ∨ d = 2 ∨ d = 3 := by omega
  have h4 : j = 0 ∨ j = 1 ∨ j = 2 ∨ j = 3 := by omega
  rcases h3 with rfl | rfl | rfl | rfl <;> rcases h4 with rfl | rfl | rfl | rfl <;> first | rfl | omega
theorem zp2_d {d j : Int} (hj : 0 ≤ j ∧ j ≤ d) (hd : d ≤ 3) {r : Int} (hr : 0 ≤ r ∧ r < zp2 d) : 0 ≤ r / zp2 j ∧ r / zp2 j < zp2 (d - j) := by
  have h3 : d = 0 ∨ d = 1 ∨ d = 2 ∨ d = 3 := by omega
  have h4 : j = 0 ∨ j = 1 ∨ j = 2 ∨ j = 3 := by omega
  rcases h3 with rfl | rfl | rfl | rfl <;> rcases h4 with rfl | rfl | rfl | rfl <;> first | omega | (simp [zp2] at hr ⊢; try omega)
/-- all that have a block are cut -/
def zvk (t : Int → Int) (d r c : Int) : Nat → Bool
  | 0 => true
  | k + 1 => zvk t d r c k && decide (t (zmn k (r / zp2 (d - k)) (c / zp2 (d - k))) = 3)
def zvis (t : Int → Int) (d r c : Int) : Bool := zvk t d r c d.toNat
theorem zI_b (x : Int) (h : -2147483648 ≤ x ∧ x < 2147483648) : (zI x).toInt = x := by
  unfold zI
  rw [Int32.toInt_ofInt_of_le (by omega) (by omega)]
theorem zor_in (a b : Int) : -2147483648 ≤ zor a b ∧ zor a b < 2147483648 := by
  unfold zor
  have h1 := Int32.le_toInt (zI a ||| zI b)
  have h2 := Int32.toInt_lt (zI a ||| zI b)
  omega
theorem zor_0 {a : Int} (h : -2147483648 ≤ a ∧ a < 2147483648) : zor a 0 = a := by
  unfold zor
  rw [show zI 0 = 0 from rfl, Int32.or_zero, zI_b a h]
theorem zempt_in (T : Int → Int → Int) : ∀ k, -2147483648 ≤ zempt T k ∧ zempt T k < 2147483648
  | 0 => (by decide : -2147483648 ≤ (0 : Int) ∧ (0 : Int) < 2147483648)
  | k + 1 => by
    have ih := zempt_in T k
    rw [show zempt T (k + 1) = if T k 0 = 0 then zor (zempt T k) (1 * 2 ^ (k : Int).toNat) else zempt T k from rfl]
    split
    · exact zor_in _ _
    · exact ih
def isSo (S : Int → Int) : Prop := ∀ m k, 0 ≤ m → m < 4 → 0 ≤ k → k < 85 → 0 ≤ zsT S m k ∧ zsT S m k ≤ 3
def isEn (S : Int → Int) : Prop := ∀ m j, 0 ≤ m → m < 4 → 0 ≤ j → j < 256 → -1000000 ≤ zsE S m j ∧ zsE S m j ≤ 1000000
def zrmI (t : Int → Int) (b N r c : Int) : Int → Int := fun k => if zvis t b (r * N + k / N) (c * N + k % N) = true then zrk (t (zmn b (r * N + k / N) (c * N + k % N))) (zsz b) else 0
def zrmO (t : Int → Int) (d r c : Int) : Int → Int := fun j => zsm (zrmI t (d + j) (zp2 j) r c) (zp2 j * zp2 j).toNat
def zrmF (t : Int → Int) (d r c : Int) : Int := zsm (zrmO t d r c) (4 - d).toNat
section
variable {n : Nat} {σ : zS} {S : Int → Int}
theorem isSo.m {m d r c : Int} (h : isSo S) (hm : 0 ≤ m ∧ m < 4) (hd : 0 ≤ d ∧ d ≤ 3) (hr : 0 ≤ r ∧ r < zp2 d) (hc : 0 ≤ c ∧ c < zp2 d) : 0 ≤ zsT S m (zmn d r c) ∧ zsT S m (zmn d r c) ≤ 3 := by
  have hz := zmn_in hd hr hc
  exact h m _ hm.1 hm.2 hz.1 hz.2
end
