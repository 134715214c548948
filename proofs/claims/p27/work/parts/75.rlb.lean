/-- a zeroed square of the model -/
theorem zclr_e {m row col : Int} {N : Nat} {S : Int → Int} (hm : 0 ≤ m ∧ m < 4) (h1 : 0 ≤ row / N * (N : Int) ∧ row / N * (N : Int) + N ≤ 16) (h2 : 0 ≤ col / N * (N : Int) ∧ col / N * (N : Int) + N ≤ 16) : ∀ k : Nat, k ≤ N * N → (∀ i, (i < 341 * m + 85 ∨ 341 * m + 341 ≤ i) → zclr m row col N S k i = S i) ∧ ∀ j, 0 ≤ j → j < 256 → zclr m row col N S k (341 * m + 85 + j) = if ((row / N * N ≤ j / 16 ∧ j / 16 < row / N * N + N) ∧ col / N * N ≤ j % 16 ∧ j % 16 < col / N * N + N) ∧ (j / 16 - row / N * N) * N + (j % 16 - col / N * N) < k then 0 else S (341 * m + 85 + j)
  | 0, _ => ⟨fun _ _ => rfl, fun j j1 j2 => by
    by_cases c : ((row / N * N ≤ j / 16 ∧ j / 16 < row / N * N + N) ∧ col / N * N ≤ j % 16 ∧ j % 16 < col / N * N + N)
    · have h3 : 0 ≤ (j / 16 - row / N * N) * (N : Int) := Int.mul_nonneg (by omega) (by omega)
      rw [if_neg (by omega)]
      rfl
    · rw [if_neg (fun z => c z.1)]
      rfl⟩
  | k + 1, hk => by
    obtain ⟨g1, g2⟩ := zclr_e (S := S) hm h1 h2 k (by omega)
    have hd := zdm (N := N) (k := k) (by omega)
    have e : zclr m row col N S (k + 1) = zu (zclr m row col N S k) (341 * m + 85 + ((row / N * N + k / N) * 16 + (col / N * N + k % N))) 0 := rfl
    rw [e]
    refine ⟨fun i hi => ?_, fun j j1 j2 => ?_⟩
    · rw [zu_n _ _ (by omega)]
      exact g1 i hi
    · by_cases q : j = (row / N * N + k / N) * 16 + (col / N * N + k % N)
      · have q1 : j / 16 = row / N * N + (k : Int) / N := by omega
        have q2 : j % 16 = col / N * N + (k : Int) % N := by omega
        have q3 : (j / 16 - row / N * N) * N + (j % 16 - col / N * N) = (k : Int) := by
          rw [q1, q2, show row / N * (N : Int) + (k : Int) / N - row / N * N = (k : Int) / N by omega, show col / N * (N : Int) + (k : Int) % N - col / N * N = (k : Int) % N by omega]
          exact Int.ediv_mul_add_emod _ _
        rw [if_pos (by omega), ← q]
        exact zu_s _ _ _
      · rw [zu_n _ _ (by omega), g2 j j1 j2]
        by_cases c : ((row / N * N ≤ j / 16 ∧ j / 16 < row / N * N + N) ∧ col / N * N ≤ j % 16 ∧ j % 16 < col / N * N + N)
        · have q4 : (j / 16 - row / N * N) * (N : Int) + (j % 16 - col / N * N) ≠ k := by
            intro z
            have z2 := zdq (q := N) (i := j / 16 - row / N * N) (j := j % 16 - col / N * N) (by omega)
            rw [z] at z2
            omega
          by_cases c2 : (j / 16 - row / N * N) * (N : Int) + (j % 16 - col / N * N) < k
          · rw [if_pos ⟨c, c2⟩, if_pos ⟨c, by omega⟩]
          · rw [if_neg (fun z => c2 z.2), if_neg (by omega)]
        · rw [if_neg (fun z => c z.1), if_neg (fun z => c z.1)]
theorem zclr_rl {X : zSV} {S : Int → Int} (h : zRl X S) {m row col : Int} (hm : 0 ≤ m ∧ m < 4) (hr : 0 ≤ row ∧ row < 16) (hc : 0 ≤ col ∧ col < 16) {d z : Int} (hd : zdp (X.2.1 m) row col = d) (hz : zsz d = z) : zRl (zsm1 (zch X (X.2.2 + 1)) m (zsq (X.1 m) (row / z * z) (col / z * z) z (fun _ => 0)) (zu (X.2.1 m) (zno d (row / z * z) (col / z * z)) 0)) (zclr m row col z (zu (zcn S) (341 * m + zmn d (row / z) (col / z)) 0) (z * z).toNat) := by
  have hdi := zdp_in (X.2.1 m) row col
  rw [hd] at hdi
  have q1 := zdvs hdi hr
  have q2 := zdvs hdi hc
  have hzm := zmn_in hdi q1 q2
  have b1 := zbl hdi q1
  have b2 := zbl hdi q2
  have hmm := h.1 m hm
  have hdp2 := hmm.2.1.dp hr hc
  rw [hd] at hdp2
  subst hz
  rw [show row / zsz d * zsz d = row / zsz d * zsz d from rfl, zno_b hdi]
  obtain ⟨N, hN, hN2⟩ := zszN hdi
  have hblk := fun (a b : Int) (h1 : row / zsz d * zsz d ≤ a ∧ a < row / zsz d * zsz d + zsz d) (h2 : col / zsz d * zsz d ≤ b ∧ b < col / zsz d * zsz d + zsz d) => zblk hdi h1 h2
  generalize hk0 : zmn d (row / zsz d) (col / zsz d) = k0 at *
  rw [hN] at b1 b2 hblk hk0 ⊢
  rw [show ((N : Int) * N).toNat = N * N by rw [← Int.natCast_mul]; rfl]
  obtain ⟨g1, g2⟩ := zclr_e (S := zu (zcn S) (341 * m + k0) 0) hm b1 b2 (N * N) (Nat.le_refl _)
  have hE : ∀ j, 0 ≤ j → j < 256 → zsE (zclr m row col N (zu (zcn S) (341 * m + k0) 0) (N * N)) m j = zsq (zsE S m) (row / N * N) (col / N * N) N (fun _ => 0) j := fun j j1 j2 => by
    unfold zsE
    rw [g2 j j1 j2, zu_n _ _ (by omega)]
    unfold zsq
    by_cases c : ((row / N * N ≤ j / 16 ∧ j / 16 < row / N * N + N) ∧ col / N * N ≤ j % 16 ∧ j % 16 < col / N * N + N)
    · have hlt : (j / 16 - row / N * N) * (N : Int) + (j % 16 - col / N * N) < ((N * N : Nat) : Int) := by
        have := zrq (r := j / 16 - row / N * N) (P := N) (a := j % 16 - col / N * N) (N := N) (by omega) (by omega)
        rw [Int.natCast_mul]
        omega
      rw [if_pos ⟨c, hlt⟩, if_pos c]
    · rw [if_neg (fun z => c z.1), if_neg c]
      unfold zcn
      rw [zu_n _ _ (by omega)]
  have hT : ∀ k, 0 ≤ k → k < 85 → zsT (zclr m row col N (zu (zcn S) (341 * m + k0) 0) (N * N)) m k = zu (zsT S m) k0 0 k := fun k k1 k2 => by
    show zclr m row col N (zu (zcn S) (341 * m + k0) 0) (N * N) (341 * m + k) = _
    rw [g1 _ (by omega)]
    unfold zu
    by_cases q : k = k0
    · rw [if_pos (by omega), if_pos q]
    · rw [if_neg (by omega), if_neg q]
      unfold zcn zu
      rw [if_neg (by omega)]
      rfl
  have hz3 : (0 : Int) ≠ 3 := by decide
  refine h.ch hm (fun m2 hm2 hne => ⟨fun j j1 j2 => ?_, fun k k1 k2 => ?_⟩) ?_ ?_ (fun k k1 k2 => ?_) (fun j j1 j2 => ?_)
  · show zclr m row col N (zu (zcn S) (341 * m + k0) 0) (N * N) (341 * m2 + 85 + j) = S (341 * m2 + 85 + j)
    rw [g1 _ (by omega), zu_n _ _ (by omega)]
    unfold zcn
    rw [zu_n _ _ (by omega)]
  · show zclr m row col N (zu (zcn S) (341 * m + k0) 0) (N * N) (341 * m2 + k) = S (341 * m2 + k)
    rw [g1 _ (by omega), zu_n _ _ (by omega)]
    unfold zcn
    rw [zu_n _ _ (by omega)]
  · rw [g1 _ (by omega), zu_n _ _ (by omega)]
    unfold zcn
    rw [zu_s]
  · refine zMm.cg (e2 := zsq (zsE S m) (row / N * N) (col / N * N) N (fun _ => 0)) (t2 := zu (zsT S m) k0 0) ⟨fun j j1 j2 => ?_, hmm.2.1.u k0 hz3, hmm.2.2.1.u k0 hz3, fun d2 r2 c2 hd2 hr2 hc2 hv h0 => ?_⟩ (fun j j1 j2 => (hE j j1 j2).symm) (zSim.of (fun k k1 k2 => (hT k k1 k2).symm))
    · unfold zsq
      split
      · rfl
      · exact hmm.1 j j1 j2
    · intro i j i1 i2 j1 j2
      have b3 := zbl hd2 hr2
      have b4 := zbl hd2 hc2
      unfold zsq
      split
      · rfl
      · rename_i hn
        by_cases q : zmn d2 r2 c2 = k0
        · rw [← hk0] at q
          have q3 := zmn_inj hd2 hr2 hc2 hdi (by rw [← hN] ; exact q1) (by rw [← hN]; exact q2) q
          exfalso
          refine hn ⟨?_, ?_⟩
          · rw [q3.1, q3.2.1, hN] at i1 i2
            omega
          · rw [q3.1, q3.2.2, hN] at j1 j2
            omega
        · rw [zu_n _ _ q] at h0
          exact hmm.2.2.2 d2 r2 c2 hd2 hr2 hc2 (zvis_u hz3 hd2 hr2 hc2 hv) h0 i j i1 i2 j1 j2
  · rw [hT k k1 k2]
    unfold zu
    split
    · decide
    · exact h.2.2.1 m k hm.1 hm.2 k1 k2
  · rw [hE j j1 j2]
    unfold zsq
    split
    · exact (by decide : -1000000 ≤ (0 : Int) ∧ (0 : Int) ≤ 1000000)
    · exact h.2.2.2 m hm j j1 j2
