theorem z256 (u : Int) (i : Nat) : u / 256 ^ i / 256 = u / 256 ^ (i + 1) := by
  rw [Int.ediv_ediv_of_nonneg (Int.pow_nonneg (by decide)), Int.pow_succ]
section
variable {n : Nat} {σ : zS}
/-- what is left of a number behind i characters, as the machine has it -/
def zrst (z : Int) : Nat → Int
  | 0 => z
  | i + 1 => z % 18446744073709551616 / 256 ^ (i + 1)
theorem zrst_s (z : Int) (i : Nat) : zrst z i % 18446744073709551616 / 256 = zrst z (i + 1) := by
  cases i with
  | zero => rfl
  | succ i =>
    show z % 18446744073709551616 / 256 ^ (i + 1) % 18446744073709551616 / 256 = z % 18446744073709551616 / 256 ^ (i + 1 + 1)
    have h1 : 0 ≤ z % 18446744073709551616 / 256 ^ (i + 1) := Int.ediv_nonneg (Int.emod_nonneg _ (by decide)) (Int.pow_nonneg (by decide))
    have h2 : z % 18446744073709551616 / 256 ^ (i + 1) ≤ z % 18446744073709551616 := Int.ediv_le_self _ (Int.emod_nonneg _ (by decide))
    have h3 := Int.emod_lt_of_pos z (show (0 : Int) < 18446744073709551616 by decide)
    rw [Int.emod_eq_of_lt h1 (by omega), z256]
theorem zrst_m (z : Int) (i : Nat) : zrst z i % 256 = z % 18446744073709551616 / 256 ^ i % 256 := by
  cases i with
  | zero =>
    show z % 256 = z % 18446744073709551616 / 1 % 256
    omega
  | succ i => rfl
theorem zrst_in {z : Int} (hz : -9223372036854775808 ≤ z ∧ z < 9223372036854775808) (i : Nat) : -9223372036854775808 ≤ zrst z i ∧ zrst z i < 9223372036854775808 := by
  cases i with
  | zero => exact hz
  | succ i =>
    have h0 : 0 ≤ z % 18446744073709551616 := Int.emod_nonneg _ (by decide)
    have h1 : 0 ≤ z % 18446744073709551616 / 256 ^ (i + 1) := Int.ediv_nonneg h0 (Int.pow_nonneg (by decide))
    have h4 : z % 18446744073709551616 / 256 ^ (i + 1) ≤ z % 18446744073709551616 / 256 := by
      rw [show (256 : Int) ^ (i + 1) = 256 * 256 ^ i by rw [Int.pow_succ, Int.mul_comm], ← Int.ediv_ediv_of_nonneg (by decide)]
      exact Int.ediv_le_self _ (by omega)
    show -9223372036854775808 ≤ z % 18446744073709551616 / 256 ^ (i + 1) ∧ z % 18446744073709551616 / 256 ^ (i + 1) < 9223372036854775808
    omega
theorem zrst_0 {z : Int} (hz : -9223372036854775808 ≤ z ∧ z < 9223372036854775808) (i : Nat) : zrst z i = 0 ↔ z % 18446744073709551616 / 256 ^ i = 0 := by
  cases i with
  | zero =>
    show z = 0 ↔ z % 18446744073709551616 / 1 = 0
    omega
  | succ i => exact Iff.rfl
theorem zsg_one {u : Int} {a b : Nat} (hu : 0 ≤ u) (ha : zsg u a) (hb : zsg u b) : a = b := by
  have key : ∀ {a b : Nat}, zsg u a → zsg u b → a < b → False := by
    intro a b ha hb h
    have h1 := (hb.2.1 a h).1
    rw [ha.2.2] at h1
    exact absurd h1 (by decide)
  rcases Nat.lt_trichotomy a b with q | q | q
  · exact (key ha hb q).elim
  · exact q
  · exact (key hb ha q).elim
theorem zsgn_one {u : Int} {a b : Nat} (hu : 0 ≤ u) (ha : zsgn u a) (hb : zsgn u b) : a = b := by
  rcases ha with ha | ⟨rfl, ha⟩
  · rcases hb with hb | ⟨rfl, hb⟩
    · exact zsg_one hu ha hb
    · exact absurd ha (hb a)
  · rcases hb with hb | ⟨rfl, hb⟩
    · exact absurd hb (ha b)
    · rfl
theorem zu8 {u : Int} (hu : 0 ≤ u ∧ u < 18446744073709551616) : u / 256 ^ 8 = 0 := by
  have h : (256 : Int) ^ 8 = 18446744073709551616 := by decide
  rw [h]
  omega
theorem ctX5_signsIn {z : Int} (hz : -9223372036854775808 ≤ z ∧ z < 9223372036854775808) {k : Nat} (hk : zsgn (z % 18446744073709551616) k) : zCt 1 0 0 yX5_signsIn cX5_signsIn 7 (some .int) [zl z] n σ (some (zi (k : Int))) n σ := by
  have hu : 0 ≤ z % 18446744073709551616 ∧ z % 18446744073709551616 < 18446744073709551616 := by omega
  refine zCt.of (by decide) rfl (Nat.le_of_ble_eq_true rfl) (fun K C => ?_)
  have loop : ∀ i : Nat, i ≤ 8 → (∀ j : Nat, j < i → 33 ≤ z % 18446744073709551616 / 256 ^ j % 256 ∧ z % 18446744073709551616 / 256 ^ j % 256 ≤ 126) → K 5 [some (zl z), none, some (zl (zrst z i)), none, some (zi (i : Int)), none, none] [] n σ 0 := by
    refine zloop _ 8 (fun i hi ih hall => ?_)
    have hri := zrst_in hz i
    have hr0 := zrst_0 hz i
    have hrm := zrst_m z i
    have hrs := zrst_s z i
    have h256 := Int.emod_nonneg (zrst z i) (show (256 : Int) ≠ 0 by decide)
    have h2562 := Int.emod_lt_of_pos (zrst z i) (show (0 : Int) < 256 by decide)
    have hdone : zrst z i = 0 ∨ 8 ≤ i → i = k := by
      intro q
      have e0 : z % 18446744073709551616 / 256 ^ i = 0 := by
        rcases q with q | q
        · exact hr0.mp q
        · rw [show i = 8 by omega]; exact zu8 hu
      refine zsgn_one hu.1 ?_ hk
      by_cases q0 : i = 0
      · refine Or.inr ⟨q0, fun j hj => ?_⟩
        subst q0
        have h1 := (hj.2.1 0 hj.1.1).1
        rw [e0] at h1
        exact absurd h1 (by decide)
      · exact Or.inl ⟨by omega, hall, e0⟩
    have hbad : zrst z i ≠ 0 → i < 8 → ¬ (33 ≤ zrst z i % 256 ∧ zrst z i % 256 ≤ 126) → k = 0 := by
      intro q1 q2 q3
      refine zsgn_one hu.1 hk (Or.inr ⟨rfl, fun j hj => ?_⟩)
      rw [hrm] at q3
      by_cases q4 : i < j
      · exact q3 (hj.2.1 i q4)
      · have e0 : z % 18446744073709551616 / 256 ^ j = 0 := hj.2.2
        by_cases q5 : j = i
        · rw [q5] at e0
          exact q1 (hr0.mpr e0)
        · have h1 := (hall j (by omega)).1
          rw [e0] at h1
          exact absurd h1 (by decide)
    refine x_lload_n C dX5_signsIn_5 rfl ?_
    refine x_lconst C dX5_signsIn_6 ?_
    refine x_lcmp C dX5_signsIn_7 (by omega) (fun r7 q7 => ?_)
    refine x_if_eq (tgt := 56) C dX5_signsIn_8 (by decide) (by omega) (fun c8 => ?_) (fun c8 => ?_)
    · refine x_iload C dX5_signsIn_56 rfl ?_
      exact x_iret (st := []) C dX5_signsIn_58 rfl ⟨congrArg (fun z => some (zi z)) (by have := hdone (by omega); omega), rfl, rfl, rfl⟩
    · refine x_iload C dX5_signsIn_11 rfl ?_
      refine x_bipush C dX5_signsIn_13 (by decide) ?_
      refine x_icmp_ge (tgt := 56) C dX5_signsIn_15 (by decide) (by omega) (fun c15 => ?_) (fun c15 => ?_)
      · refine x_iload C dX5_signsIn_56 rfl ?_
        exact x_iret (st := []) C dX5_signsIn_58 rfl ⟨congrArg (fun z => some (zi z)) (by have := hdone (by omega); omega), rfl, rfl, rfl⟩
      · refine x_lload_n C dX5_signsIn_18 rfl ?_
        refine x_ldc2 (v := 255) C dX5_signsIn_19 kcX5_182 (by decide) ?_
        refine x_land C dX5_signsIn_22 ?_
        rw [zandl_255]
        refine x_lstore C dX5_signsIn_23 (by decide) ?_
        refine x_lload C dX5_signsIn_25 rfl ?_
        refine x_ldc2 (v := 33) C dX5_signsIn_27 kcX5_221 (by decide) ?_
        refine x_lcmp C dX5_signsIn_30 (by omega) (fun r30 q30 => ?_)
        refine x_if_lt (tgt := 43) C dX5_signsIn_31 (by decide) (by omega) (fun c31 => ?_) (fun c31 => ?_)
        · refine x_iconst C dX5_signsIn_43 ?_
          exact x_iret (st := []) C dX5_signsIn_44 rfl ⟨congrArg (fun z => some (zi z)) (by have := hbad (by omega) (by omega) (by omega); omega), rfl, rfl, rfl⟩
        · refine x_lload C dX5_signsIn_34 rfl ?_
          refine x_ldc2 (v := 126) C dX5_signsIn_36 kcX5_223 (by decide) ?_
          refine x_lcmp C dX5_signsIn_39 (by omega) (fun r39 q39 => ?_)
          refine x_if_le (tgt := 45) C dX5_signsIn_40 (by decide) (by omega) (fun c40 => ?_) (fun c40 => ?_)
          · refine x_lload_n C dX5_signsIn_45 rfl ?_
            refine x_bipush C dX5_signsIn_46 (by decide) ?_
            refine x_lushr C dX5_signsIn_48 (by omega) ?_
            rw [show (256 : Int) = 2 ^ (8 : Int).toNat from rfl] at hrs
            rw [hrs]
            refine x_lstore_n C dX5_signsIn_49 (by decide) ?_
            refine x_iinc C dX5_signsIn_50 rfl (by decide) ?_
            refine x_goto (tgt := 5) C dX5_signsIn_53 (by decide) ?_
            refine x_weak C (Lo' := [some (zl z), none, some (zl (zrst z (i + 1))), none, some (zi ((i + 1 : Nat) : Int)), none, none]) (fun j u hj => by match j, hj with | 0, hj => exact hj | 2, hj => exact hj | 4, hj => exact hj | j + 7, hj => exact absurd hj (by simp [zg])) ?_
            exact ih (by omega) (fun j hj => by
              by_cases q : j < i
              · exact hall j q
              · rw [show j = i by omega, ← hrm]; omega)
          · refine x_iconst C dX5_signsIn_43 ?_
            exact x_iret (st := []) C dX5_signsIn_44 rfl ⟨congrArg (fun z => some (zi z)) (by have := hbad (by omega) (by omega) (by omega); omega), rfl, rfl, rfl⟩
  refine x_lload_n C dX5_signsIn_0 rfl ?_
  refine x_lstore_n C dX5_signsIn_1 (by decide) ?_
  refine x_iconst C dX5_signsIn_2 ?_
  refine x_istore C dX5_signsIn_3 (by decide) ?_
  exact loop 0 (by omega) (fun j hj => absurd hj (by omega))
end
