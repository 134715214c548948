theorem zsmB {g : Int → Int} {M : Int} (hM : 0 ≤ M) (hg : ∀ j, -M ≤ g j ∧ g j ≤ M) : ∀ k : Nat, -(k * M) ≤ zsm g k ∧ zsm g k ≤ k * M
  | 0 => ⟨by show -((0 : Nat) * M : Int) ≤ 0; omega, by show (0 : Int) ≤ ((0 : Nat) : Int) * M; omega⟩
  | k + 1 => by
    have ih := zsmB hM hg k
    have h1 := hg k
    have h2 : ((k + 1 : Nat) : Int) * M = k * M + M := by rw [Int.natCast_add, Int.add_mul]; omega
    rw [h2]
    show -(k * M + M) ≤ zsm g k + g k ∧ zsm g k + g k ≤ k * M + M
    omega
theorem zsmN {g : Int → Int} {M : Int} (hg : ∀ j, 0 ≤ g j ∧ g j ≤ M) : ∀ k : Nat, 0 ≤ zsm g k ∧ zsm g k ≤ k * M
  | 0 => ⟨Int.le_refl 0, by show (0 : Int) ≤ ((0 : Nat) : Int) * M; omega⟩
  | k + 1 => by
    have ih := zsmN hg k
    have h1 := hg k
    have h2 : ((k + 1 : Nat) : Int) * M = k * M + M := by rw [Int.natCast_add, Int.add_mul]; omega
    rw [h2]
    show 0 ≤ zsm g k + g k ∧ zsm g k + g k ≤ k * M + M
    omega
theorem zroom_in (t : Int → Int) : ∀ (f : Nat), f ≤ 3 → ∀ row col : Int, 0 ≤ zroom t f row col ∧ zroom t f row col ≤ zmx f
  | 0, _, row, col => zrm_in _ _ (by decide)
  | f + 1, hf, row, col => by
    have hz := zsz_v (d := 2 - f) (by omega)
    have hp := zmx_pos f
    have e1 : zmx (f + 1) = 1 + 4 * zmx f + 256 := rfl
    rw [e1]
    unfold zroom
    by_cases h : t (zno (2 - f) row col) = 3
    · rw [if_pos h]
      have key := zsmN (g := fun p => zroom t f (row + p / 2 * zsz (3 - f)) (col + p % 2 * zsz (3 - f))) (M := zmx f) (fun p => zroom_in t f (by omega) _ _) 4
      omega
    · rw [if_neg h]
      have := zrm_in (t (zno (2 - f) row col)) (zsz (2 - f)) (by omega)
      omega
/-- the bits of z / 256, as the class puts them together -/
def zbv (z P Bi v : Int) : Prop := (z = 0 ∧ v = 0) ∨ (z ≠ 0 ∧ ∃ b : Nat, (2 ^ b ≤ max z (-z) ∧ max z (-z) < 2 ^ (b + 1)) ∧ v = if 0 ≤ z then zbits z b P Bi else zorl (zbits z b P Bi) (-9223372036854775808))
theorem z2b {b c : Nat} {x : Int} (h : 2 ^ b ≤ x) (hx : x < 2 ^ c) : b < c := by
  rcases Nat.lt_or_ge b c with q | q
  · exact q
  · have h1 : (2 : Int) ^ c ≤ 2 ^ b := z2p q
    omega
section
variable {n : Nat} {σ : zS} {X : zSV} {o l : Int} {Hs : Int → zSV} {Sl : Int → zSV × Bool} {f : Int → Int} {L : Int}
def zbst (g : Int → Int) : Nat → Int := zfo (fun best k => if k - 99 ≠ 0 ∧ g best < g (k - 99) then k - 99 else best) (-99)
theorem zbst_in (g : Int → Int) : ∀ k : Nat, k ≤ 199 → -99 ≤ zbst g k ∧ zbst g k ≤ 99
  | 0, _ => ⟨Int.le_refl _, by show (-99 : Int) ≤ 99; decide⟩
  | k + 1, hk => by
    have ih := zbst_in g k (by omega)
    show -99 ≤ (if (k : Int) - 99 ≠ 0 ∧ g (zbst g k) < g ((k : Int) - 99) then (k : Int) - 99 else zbst g k) ∧ (if (k : Int) - 99 ≠ 0 ∧ g (zbst g k) < g ((k : Int) - 99) then (k : Int) - 99 else zbst g k) ≤ 99
    split <;> omega
end
