theorem RepM.vs {σ : zS} {um L : Int} {S U Z H P : Int → Int} (R : RepM σ um L S U Z H P) : ∃ vs, σ 145 = zO 6 vs := by
  obtain ⟨⟨p, wl, lv, br, bc, h⟩, _⟩ := R
  exact ⟨_, h⟩
theorem zsym_b (e : Int → Int) : zow e 256 = true ↔ ∀ i j : Nat, j < i → i < 16 → e ((i : Int) * 16 + j) = e ((j : Int) * 16 + i) := by
  rw [zow_iff]
  constructor
  · intro h i j hj hi
    have := h (i * 16 + j) (by omega)
    rw [show ((i * 16 + j : Nat) : Int) = (i : Int) * 16 + j by omega, show ((i : Int) * 16 + j) % 16 * 16 + ((i : Int) * 16 + j) / 16 = (j : Int) * 16 + i by omega] at this
    exact this
  · intro h a ha
    have e1 : (a : Int) = ((a / 16 : Nat) : Int) * 16 + ((a % 16 : Nat) : Int) := by omega
    have e2 : (a : Int) % 16 * 16 + (a : Int) / 16 = ((a % 16 : Nat) : Int) * 16 + ((a / 16 : Nat) : Int) := by omega
    rw [e1, show (((a / 16 : Nat) : Int) * 16 + ((a % 16 : Nat) : Int)) % 16 * 16 + (((a / 16 : Nat) : Int) * 16 + ((a % 16 : Nat) : Int)) / 16 = ((a % 16 : Nat) : Int) * 16 + ((a / 16 : Nat) : Int) by omega]
    rcases Nat.lt_trichotomy (a / 16) (a % 16) with q | q | q
    · exact (h (a % 16) (a / 16) q (by omega)).symm
    · rw [q]
    · exact h (a / 16) (a % 16) q (by omega)
theorem zbv_ex (z P Bi : Int) : ∃ v, zbv z P Bi v := by
  by_cases h0 : z = 0
  · exact ⟨0, Or.inl ⟨h0, rfl⟩⟩
  · have hN : (max z (-z)).toNat ≠ 0 := by omega
    have h1 := Nat.log2_self_le hN
    have h2 := Nat.lt_log2_self (n := (max z (-z)).toNat)
    refine ⟨_, Or.inr ⟨h0, Nat.log2 (max z (-z)).toNat, ⟨?_, ?_⟩, rfl⟩⟩
    · have h3 : ((2 ^ Nat.log2 (max z (-z)).toNat : Nat) : Int) ≤ ((max z (-z)).toNat : Nat) := Int.ofNat_le.mpr h1
      rw [Int.natCast_pow] at h3
      have h4 : (((max z (-z)).toNat : Nat) : Int) = max z (-z) := by omega
      rw [h4] at h3
      exact h3
    · have h3 : (((max z (-z)).toNat : Nat) : Int) < ((2 ^ (Nat.log2 (max z (-z)).toNat + 1) : Nat) : Int) := Int.ofNat_lt.mpr h2
      rw [Int.natCast_pow] at h3
      have h4 : (((max z (-z)).toNat : Nat) : Int) = max z (-z) := by omega
      rw [h4] at h3
      exact h3
theorem pr_at {n : Nat} {σ : zS} (R : zAll σ n) (m row col : Int) (bm : -2147483648 ≤ m ∧ m < 2147483648) (brow : -2147483648 ≤ row ∧ row < 2147483648) (bcol : -2147483648 ≤ col ∧ col < 2147483648) : ∃ (h1 h2 : Nat) (r : Int) (σ1 σ2 : zS), ((h1 ≤ 18 ∧ h2 ≤ 18) ∧ ∃ vs, σ1 145 = zO 6 vs) ∧ zCt h1 0 0 yX5_at cX5_at 4 (some .int) [zr 1, zi m, zi row, zi col] n σ (some (zi r)) n σ1 ∧ zCt h2 0 0 yX6_at cX6_at 4 (some .int) [zr 145, zi m, zi row, zi col] n σ1 (some (zi r)) n σ2 ∧ zAll σ2 n := by
  obtain ⟨X, o, l, Hs, Sl, f, L, S, U, Z, H, P, RC, RM, Pu⟩ := id R
  have hn := RC.nn
  have hlb := RC.b
  obtain ⟨p, wl, lv, br, bc, hM⟩ := RM.1
  by_cases hv : (0 ≤ m ∧ m < 4) ∧ (0 ≤ row ∧ row < 16) ∧ 0 ≤ col ∧ col < 16
  rotate_left
  · exact ⟨3, 13, -1, σ, σ, ⟨by decide, RM.vs⟩, ctX5_atE m row col bm brow bcol ⟨rfl, hv⟩, ctX6_atE hM hn m row col bm brow bcol ⟨rfl, hv⟩, R⟩
  have h5 := ctX5_at RC m row col hv.1 hv.2.1 hv.2.2
  have h6 := ctX6_at (RM.mo hn) m row col hv.1 hv.2.1 hv.2.2
  have hmm := Pu.1.1 m hv.1
  rw [← hmm.1 (row * 16 + col) (by omega) (by omega)] at h6
  exact ⟨3, 13, _, σ, σ, ⟨by decide, RM.vs⟩, h5, h6, R⟩
theorem pr_block {n : Nat} {σ : zS} (R : zAll σ n) (m row col w : Int) (bm : -2147483648 ≤ m ∧ m < 2147483648) (brow : -2147483648 ≤ row ∧ row < 2147483648) (bcol : -2147483648 ≤ col ∧ col < 2147483648) (bw : -2147483648 ≤ w ∧ w < 2147483648) : ∃ (h1 h2 : Nat) (r : Int) (σ1 σ2 : zS), ((h1 ≤ 18 ∧ h2 ≤ 18) ∧ ∃ vs, σ1 145 = zO 6 vs) ∧ zCt h1 0 0 yX5_block cX5_block 8 (some .int) [zr 1, zi m, zi row, zi col, zi w] n σ (some (zi r)) n σ1 ∧ zCt h2 0 0 yX6_block cX6_block 8 (some .int) [zr 145, zi m, zi row, zi col, zi w] n σ1 (some (zi r)) n σ2 ∧ zAll σ2 n := by
  obtain ⟨X, o, l, Hs, Sl, f, L, S, U, Z, H, P, RC, RM, Pu⟩ := id R
  have hn := RC.nn
  have hlb := RC.b
  obtain ⟨p, wl, lv, br, bc, hM⟩ := RM.1
  by_cases hv : (0 ≤ m ∧ m < 4) ∧ (0 ≤ row ∧ row < 16) ∧ 0 ≤ col ∧ col < 16
  rotate_left
  · exact ⟨5, 13, -1, σ, σ, ⟨by decide, RM.vs⟩, ctX5_blockE m row col w bm brow bcol bw ⟨rfl, hv⟩, ctX6_blockE hM hn m row col w bm brow bcol bw ⟨rfl, hv⟩, R⟩
  have h5 := ctX5_block RC m row col w hv.1 hv.2.1 hv.2.2 bw
  have h6 := ctX6_block (RM.mo hn) Pu.1.2.2.1 m row col w hv.1 hv.2.1 hv.2.2 bw (zdp_3 hv.2.1 hv.2.2 (Pu.1.1 m hv.1).2.2.1)
  have hmm := Pu.1.1 m hv.1
  rw [← zbq_e hmm.2.1 hmm.2.2.1 hv.2.1 hv.2.2 w] at h6
  exact ⟨5, 13, _, σ, σ, ⟨by decide, RM.vs⟩, h5, h6, R⟩
theorem pr_of {n : Nat} {σ : zS} (R : zAll σ n) (m w : Int) (bm : -2147483648 ≤ m ∧ m < 2147483648) (bw : -2147483648 ≤ w ∧ w < 2147483648) : ∃ (h1 h2 : Nat) (r : Int) (σ1 σ2 : zS), ((h1 ≤ 18 ∧ h2 ≤ 18) ∧ ∃ vs, σ1 145 = zO 6 vs) ∧ zCt h1 0 0 yX5_of cX5_of 4 (some .int) [zr 1, zi m, zi w] n σ (some (zi r)) n σ1 ∧ zCt h2 0 0 yX6_of cX6_of 3 (some .int) [zr 145, zi m, zi w] n σ1 (some (zi r)) n σ2 ∧ zAll σ2 n := by
  obtain ⟨X, o, l, Hs, Sl, f, L, S, U, Z, H, P, RC, RM, Pu⟩ := id R
  have hn := RC.nn
  have hlb := RC.b
  obtain ⟨p, wl, lv, br, bc, hM⟩ := RM.1
  by_cases hv : (0 ≤ m ∧ m < 4)
  rotate_left
  · exact ⟨9, 13, -1, σ, σ, ⟨by decide, RM.vs⟩, ctX5_ofE m w bm bw ⟨rfl, hv⟩, ctX6_ofE hM hn m w bm bw ⟨rfl, hv⟩, R⟩
  have hmm := Pu.1.1 m hv
  have hbq := fun e => zsym_b e
  have h5 := ctX5_of RC m w hv bw (hbq (X.1 m))
  have h6 := ctX6_of (RM.mo hn) Pu.1.2.2.1 m w hv (Pu.1.2.2.2 m hv) bw
  rw [← zof_e hmm.1 hmm.2.1 (hmm.2.1.symm.Vl hmm.2.2.1) (Pu.1.2.2.2 m hv) (hbq (X.1 m)) w] at h6
  exact ⟨9, 13, _, σ, σ, ⟨by decide, RM.vs⟩, h5, h6, R⟩
theorem pr_product {n : Nat} {σ : zS} (R : zAll σ n) (m row a b : Int) (bm : -2147483648 ≤ m ∧ m < 2147483648) (brow : -2147483648 ≤ row ∧ row < 2147483648) (ba : -2147483648 ≤ a ∧ a < 2147483648) (bb : -2147483648 ≤ b ∧ b < 2147483648) : ∃ (h1 h2 : Nat) (r : Int) (σ1 σ2 : zS), ((h1 ≤ 18 ∧ h2 ≤ 18) ∧ ∃ vs, σ1 145 = zO 6 vs) ∧ zCt h1 0 0 yX5_product cX5_product 8 (some .long) [zr 1, zi m, zi row, zi a, zi b] n σ (some (zl r)) n σ1 ∧ zCt h2 0 0 yX6_product cX6_product 8 (some .long) [zr 145, zi m, zi row, zi a, zi b] n σ1 (some (zl r)) n σ2 ∧ zAll σ2 n := by
  obtain ⟨X, o, l, Hs, Sl, f, L, S, U, Z, H, P, RC, RM, Pu⟩ := id R
  have hn := RC.nn
  have hlb := RC.b
  obtain ⟨p, wl, lv, br, bc, hM⟩ := RM.1
  by_cases hv : (0 ≤ m ∧ m < 4) ∧ (0 ≤ row ∧ row < 16) ∧ (-9999 ≤ a ∧ a ≤ 9999) ∧ -999 ≤ b ∧ b ≤ 999
  rotate_left
  · exact ⟨3, 13, -1000000000000, σ, σ, ⟨by decide, RM.vs⟩, ctX5_productE m row a b bm brow ba bb hv, ctX6_productE hM hn m row a b bm brow ba bb ⟨rfl, hv⟩, R⟩
  have h5 := ctX5_product RC m row a b hv.1 hv.2.1 hv.2.2.1 hv.2.2.2
  have h6 := ctX6_product (RM.mo hn) m row a b hv.1 (Pu.1.2.2.2 m hv.1) hv.2.1 hv.2.2.1 hv.2.2.2
  have hmm := Pu.1.1 m hv.1
  rw [← hmm.1.pr hv.2.1 a b] at h6
  exact ⟨3, 13, _, σ, σ, ⟨by decide, RM.vs⟩, h5, h6, R⟩
theorem pr_mean {n : Nat} {σ : zS} (R : zAll σ n) (m : Int) (bm : -2147483648 ≤ m ∧ m < 2147483648) : ∃ (h1 h2 : Nat) (r : Int) (σ1 σ2 : zS), ((h1 ≤ 18 ∧ h2 ≤ 18) ∧ ∃ vs, σ1 145 = zO 6 vs) ∧ zCt h1 0 0 yX5_mean cX5_mean 2 (some .long) [zr 1, zi m] n σ (some (zl r)) n σ1 ∧ zCt h2 0 0 yX6_mean cX6_mean 4 (some .long) [zr 145, zi m] n σ1 (some (zl r)) n σ2 ∧ zAll σ2 n := by
  obtain ⟨X, o, l, Hs, Sl, f, L, S, U, Z, H, P, RC, RM, Pu⟩ := id R
  have hn := RC.nn
  have hlb := RC.b
  obtain ⟨p, wl, lv, br, bc, hM⟩ := RM.1
  by_cases hv : (0 ≤ m ∧ m < 4)
  rotate_left
  · exact ⟨3, 13, 0, σ, σ, ⟨by decide, RM.vs⟩, ctX5_meanE m bm hv, ctX6_meanE (RM.mo hn) m bm hv, R⟩
  have hmm := Pu.1.1 m hv
  obtain ⟨z, hz⟩ := zbv_ex (zsm (X.1 m) 256) 52 1023
  have h5 := ctX5_mean RC m hv hz
  have h6 := ctX6_mean (RM.mo hn) m hv (Pu.1.2.2.2 m hv) (by rw [← hmm.1.sm]; exact hz)
  exact ⟨3, 13, _, σ, σ, ⟨by decide, RM.vs⟩, h5, h6, R⟩
theorem pr_share {n : Nat} {σ : zS} (R : zAll σ n) (m : Int) (bm : -2147483648 ≤ m ∧ m < 2147483648) : ∃ (h1 h2 : Nat) (r : Int) (σ1 σ2 : zS), ((h1 ≤ 18 ∧ h2 ≤ 18) ∧ ∃ vs, σ1 145 = zO 6 vs) ∧ zCt h1 0 0 yX5_share cX5_share 2 (some .int) [zr 1, zi m] n σ (some (zi r)) n σ1 ∧ zCt h2 0 0 yX6_share cX6_share 2 (some .int) [zr 145, zi m] n σ1 (some (zi r)) n σ2 ∧ zAll σ2 n := by
  obtain ⟨X, o, l, Hs, Sl, f, L, S, U, Z, H, P, RC, RM, Pu⟩ := id R
  have hn := RC.nn
  have hlb := RC.b
  obtain ⟨p, wl, lv, br, bc, hM⟩ := RM.1
  by_cases hv : (0 ≤ m ∧ m < 4)
  rotate_left
  · exact ⟨9, 13, -1, σ, σ, ⟨by decide, RM.vs⟩, ctX5_shareE m bm hv, ctX6_shareE hM hn m bm ⟨rfl, hv⟩, R⟩
  have hmm := Pu.1.1 m hv
  obtain ⟨z, hz⟩ := zbv_ex (zroom (X.2.1 m) 3 0 0) 23 127
  have h5 := ctX5_share RC m hv hz
  have h6 := ctX6_share (RM.mo hn) Pu.1.2.2.1 m hv (by rw [← hmm.2.1.room, ← zroom_F (hmm.2.1.symm.Vl hmm.2.2.1)]; exact hz)
  exact ⟨9, 13, _, σ, σ, ⟨by decide, RM.vs⟩, h5, h6, R⟩
theorem pr_far {n : Nat} {σ : zS} (R : zAll σ n) (m q : Int) (bm : -2147483648 ≤ m ∧ m < 2147483648) (bq : -2147483648 ≤ q ∧ q < 2147483648) : ∃ (h1 h2 : Nat) (r : Int) (σ1 σ2 : zS), ((h1 ≤ 18 ∧ h2 ≤ 18) ∧ ∃ vs, σ1 145 = zO 6 vs) ∧ zCt h1 0 0 yX5_far cX5_far 3 (some .int) [zr 1, zi m, zi q] n σ (some (zi r)) n σ1 ∧ zCt h2 0 0 yX6_far cX6_far 6 (some .int) [zr 145, zi m, zi q] n σ1 (some (zi r)) n σ2 ∧ zAll σ2 n := by
  obtain ⟨X, o, l, Hs, Sl, f, L, S, U, Z, H, P, RC, RM, Pu⟩ := id R
  have hn := RC.nn
  have hlb := RC.b
  obtain ⟨p, wl, lv, br, bc, hM⟩ := RM.1
  by_cases hv : (0 ≤ m ∧ m < 4) ∧ (0 ≤ q ∧ q < 4)
  rotate_left
  · exact ⟨3, 13, -1, σ, σ, ⟨by decide, RM.vs⟩, ctX5_farE m q bm bq ⟨rfl, hv⟩, ctX6_farE hM hn m q bm bq ⟨rfl, hv⟩, R⟩
  have h5 := ctX5_far RC m q hv.1 hv.2
  have h6 := ctX6_far (RM.mo hn) m q hv.1 hv.2 (Pu.1.2.2.2 m hv.1) (Pu.1.2.2.2 q hv.2)
  rw [← (Pu.1.1 m hv.1).1.far (Pu.1.1 q hv.2).1] at h6
  exact ⟨3, 13, _, σ, σ, ⟨by decide, RM.vs⟩, h5, h6, R⟩
theorem pr_isOne {n : Nat} {σ : zS} (R : zAll σ n) (m row col s : Int) (bm : -2147483648 ≤ m ∧ m < 2147483648) (brow : -2147483648 ≤ row ∧ row < 2147483648) (bcol : -2147483648 ≤ col ∧ col < 2147483648) (bs : -2147483648 ≤ s ∧ s < 2147483648) : ∃ (h1 h2 : Nat) (r : Int) (σ1 σ2 : zS), ((h1 ≤ 18 ∧ h2 ≤ 18) ∧ ∃ vs, σ1 145 = zO 6 vs) ∧ zCt h1 0 0 yX5_isOne cX5_isOne 5 (some .int) [zr 1, zi m, zi row, zi col, zi s] n σ (some (zi r)) n σ1 ∧ zCt h2 0 0 yX6_isOne cX6_isOne 5 (some .int) [zr 145, zi m, zi row, zi col, zi s] n σ1 (some (zi r)) n σ2 ∧ zAll σ2 n := by
  obtain ⟨X, o, l, Hs, Sl, f, L, S, U, Z, H, P, RC, RM, Pu⟩ := id R
  have hn := RC.nn
  have hlb := RC.b
  obtain ⟨p, wl, lv, br, bc, hM⟩ := RM.1
  by_cases hv : (0 ≤ m ∧ m < 4)
  rotate_left
  · exact ⟨4, 13, -1, σ, σ, ⟨by decide, RM.vs⟩, ctX5_isOneE m row col s bm brow bcol bs (Or.inl ⟨rfl, hv⟩), ctX6_isOneE hM hn m row col s bm brow bcol bs (Or.inl ⟨rfl, hv⟩), R⟩
  by_cases hv2 : (s = 2 ∨ s = 4 ∨ s = 8 ∨ s = 16) ∧ (0 ≤ row ∧ row ≤ 16 - s ∧ row % s = 0) ∧ 0 ≤ col ∧ col ≤ 16 - s ∧ col % s = 0
  rotate_left
  · exact ⟨4, 13, -2, σ, σ, ⟨by decide, RM.vs⟩, ctX5_isOneE m row col s bm brow bcol bs (Or.inr ⟨rfl, hv, hv2⟩), ctX6_isOneE hM hn m row col s bm brow bcol bs (Or.inr ⟨rfl, hv, hv2⟩), R⟩
  have h5 := ctX5_isOne RC m row col s hv hv2.1 hv2.2.1 hv2.2.2
  have h6 := ctX6_isOne (RM.mo hn) m row col s hv (Pu.1.2.2.2 m hv) hv2.1 hv2.2.1 hv2.2.2
  rw [← (Pu.1.1 m hv).1.one (row := row) (col := col) (q := s) (by omega) (by omega)] at h6
  exact ⟨4, 13, _, σ, σ, ⟨by decide, RM.vs⟩, h5, h6, R⟩
