theorem zets_mm {S : Int → Int} {e t : Int → Int} {m row col : Int} (hm : 0 ≤ m ∧ m < 4) (hr : 0 ≤ row ∧ row < 16) (hc : 0 ≤ col ∧ col < 16) (h : zMm e t (zsE S m) (zsT S m)) : ∀ k : Nat, k ≤ 3 → zMm e (zcuts t row col k) (zsE S m) (zsT (zets m row col S k) m) ∧ (∀ a : Nat, a < k → zsT (zets m row col S k) m (zno a row col) = 3) ∧ ∀ i, (i < 341 * m ∨ 341 * m + 85 ≤ i) → zets m row col S k i = S i
  | 0, _ => ⟨h, fun a ha => absurd ha (by omega), fun _ _ => rfl⟩
  | k + 1, hk => by
    obtain ⟨g1, g2, g3⟩ := zets_mm hm hr hc h k (by omega)
    have q1 := zdvs (k := k) (by omega) hr
    have q2 := zdvs (k := k) (by omega) hc
    have hv := zvis_p (t := zsT (zets m row col S k) m) (row := row) (col := col) k (by omega) g2
    obtain ⟨c1, c2⟩ := zmct_cu (S := zets m row col S k) hm (by omega) q1 q2
    have e1 : zets m row col S (k + 1) = zmct (zets m row col S k) m k (row / zsz k) (col / zsz k) := rfl
    have e2 : zcuts t row col (k + 1) = zcut (zcuts t row col k) k (row / zsz k) (col / zsz k) := by
      show (if zcuts t row col k (zno k row col) = 3 then zcuts t row col k else zcb (zcuts t row col k) k row col) = _
      by_cases q : zcuts t row col k (zno k row col) = 3
      · rw [if_pos q, zcut_3 q]
      · rw [if_neg q, zcb_cu (by omega) q]
    rw [e1, e2]
    refine ⟨(g1.cut (by omega) q1 q2 hv).cg (fun _ _ _ => rfl) (zSim.of (fun x x1 x2 => (c1 x x1 x2).symm)), fun a ha => ?_, fun i hi => ?_⟩
    · have qa1 := zdvs (k := a) (by omega) hr
      have qa2 := zdvs (k := a) (by omega) hc
      have hz := zmn_in (d := a) (by omega) qa1 qa2
      rw [zmn_no, c1 _ hz.1 hz.2]
      by_cases qk : a = k
      · rw [qk]
        exact zcut_s
      · have g2 := g2 a (by omega)
        rw [zmn_no] at g2
        by_cases q : zsT (zets m row col S k) m (zmn k (row / zsz k) (col / zsz k)) = 3
        · rw [zcut_3 q]
          exact g2
        · rw [zcut_n q, if_neg (fun z => by
            have := zmn_inj (by omega) qa1 qa2 (by omega) q1 q2 z
            omega), if_neg (fun z => by
            have := zch4_of (by omega) q1 q2 (by omega) qa1 qa2 z
            omega)]
          exact g2
    · rw [c2 i hi]
      exact g3 i hi
theorem zno_3 (row col : Int) : zmn 3 (row / 2) (col / 2) = zno 3 row col := rfl
/-- entry() -/
theorem zet_rl {X : zSV} {S : Int → Int} (h : zRl X S) {m row col v : Int} (hm : 0 ≤ m ∧ m < 4) (hr : 0 ≤ row ∧ row < 16) (hc : 0 ≤ col ∧ col < 16) (hv : -1000000 ≤ v ∧ v ≤ 1000000) : zRl (zsm1 (zch X (X.2.2 + 1)) m (zu (X.1 m) (row * 16 + col) v) (zu (zcuts (X.2.1 m) row col 3) (zno 3 row col) 1)) (zu (zet (zcn S) m row col) (341 * m + 85 + (row * 16 + col)) v) ∧ zsE (zet (zcn S) m row col) m (row * 16 + col) = X.1 m (row * 16 + col) := by
  have hmm := h.1 m hm
  have hcn : zMm (X.1 m) (X.2.1 m) (zsE (zcn S) m) (zsT (zcn S) m) := hmm.cg (fun j j1 j2 => (zsE_cn S hm ⟨j1, j2⟩).symm) (zSim.of (fun k k1 k2 => (zsT_cn S hm ⟨k1, k2⟩).symm))
  obtain ⟨g1, g2, g3⟩ := zets_mm hm hr hc hcn 3 (by decide)
  have q1 := zdvs (k := 3) (by decide) hr
  have q2 := zdvs (k := 3) (by decide) hc
  have hz := zmn_in (d := 3) (by decide) q1 q2
  have so := zets_so h.2.2.1.cn h.2.2.2.cn hm hr hc 3 (by decide)
  have hv3 := zvis_p (t := zsT (zets m row col (zcn S) 3) m) (row := row) (col := col) 3 (by decide) g2
  unfold zet
  rw [zno_3]
  rw [← zmn_no 3 row col] at hz
  generalize hk3 : zno 3 row col = k3 at *
  generalize hTT : zets m row col (zcn S) 3 = T at *
  have hT : ∀ k, 0 ≤ k → k < 85 → zsT (zu (zu T (341 * m + k3) 1) (341 * m + 85 + (row * 16 + col)) v) m k = zu (zsT T m) k3 1 k := fun k k1 k2 => by
    rw [zsT_e _ v hm (by omega) hm ⟨k1, k2⟩, zsT_t T 1 hm hz hm ⟨k1, k2⟩]
    unfold zu
    by_cases q : k = k3
    · rw [if_pos ⟨rfl, q⟩, if_pos q]
    · rw [if_neg (fun z => q z.2), if_neg q]
  have hTe : ∀ j, 0 ≤ j → j < 256 → zsE T m j = zsE (zcn S) m j := fun j j1 j2 => by
    unfold zsE
    exact g3 _ (by omega)
  have hE : ∀ j, 0 ≤ j → j < 256 → zsE (zu (zu T (341 * m + k3) 1) (341 * m + 85 + (row * 16 + col)) v) m j = zu (zsE (zcn S) m) (row * 16 + col) v j := fun j j1 j2 => by
    rw [zsE_e _ v hm (by omega) hm ⟨j1, j2⟩, zsE_t T 1 hm hz hm ⟨j1, j2⟩, hTe j j1 j2]
    unfold zu
    by_cases q : j = row * 16 + col
    · rw [if_pos ⟨rfl, q⟩, if_pos q]
    · rw [if_neg (fun z => q z.2), if_neg q]
  have h13 : (1 : Int) ≠ 3 := by decide
  refine ⟨h.ch hm (fun m2 hm2 hne => ⟨fun j j1 j2 => ?_, fun k k1 k2 => ?_⟩) ?_ ?_ (fun k k1 k2 => ?_) (fun j j1 j2 => ?_), ?_⟩
  · rw [zsE_e _ v hm (by omega) hm2 ⟨j1, j2⟩, if_neg (fun z => hne z.1), zsE_t T 1 hm hz hm2 ⟨j1, j2⟩, ← zsE_cn S hm2 ⟨j1, j2⟩]
    unfold zsE
    exact g3 _ (by omega)
  · rw [zsT_e _ v hm (by omega) hm2 ⟨k1, k2⟩, zsT_t T 1 hm hz hm2 ⟨k1, k2⟩, if_neg (fun z => hne z.1), ← zsT_cn S hm2 ⟨k1, k2⟩]
    unfold zsT
    exact g3 _ (by omega)
  · rw [zu_n _ _ (by omega), zu_n _ _ (by omega), g3 _ (by omega)]
    unfold zcn
    rw [zu_s]
  · refine zMm.cg (e2 := zu (zsE (zcn S) m) (row * 16 + col) v) (t2 := zu (zsT T m) k3 1) ⟨fun j j1 j2 => ?_, g1.2.1.u k3 h13, g1.2.2.1.u k3 h13, fun d2 r2 c2 hd2 hr2 hc2 hv2 h0 => ?_⟩ (fun j j1 j2 => (hE j j1 j2).symm) (zSim.of (fun k k1 k2 => (hT k k1 k2).symm))
    · unfold zu
      split
      · rfl
      · exact hcn.1 j j1 j2
    · have hv9 := zvis_u h13 hd2 hr2 hc2 hv2
      by_cases q : zmn d2 r2 c2 = k3
      · rw [q, zu_s] at h0
        cases h0
      · rw [zu_n _ _ q] at h0
        have b1 := zbl hd2 hr2
        have b2 := zbl hd2 hc2
        intro i j i1 i2 j1 j2
        by_cases qq : i * 16 + j = row * 16 + col
        · have ei : i = row := by omega
          have ej : j = col := by omega
          rw [ei] at i1 i2
          rw [ej] at j1 j2
          have hb := zblk hd2 ⟨i1, i2⟩ ⟨j1, j2⟩
          exfalso
          by_cases qd : d2 = 3
          · refine q ?_
            rw [← hk3, zmn_no, hb.1, hb.2, qd]
          · have g2 := g2 d2.toNat (by omega)
            rw [show ((d2.toNat : Nat) : Int) = d2 by omega, zmn_no, ← hb.1, ← hb.2, h0] at g2
            cases g2
        · rw [zu_n _ _ qq]
          exact g1.2.2.2 d2 r2 c2 hd2 hr2 hc2 hv9 h0 i j i1 i2 j1 j2
  · rw [hT k k1 k2]
    unfold zu
    split
    · decide
    · exact so.1 m k hm.1 hm.2 k1 k2
  · rw [hE j j1 j2]
    unfold zu
    split
    · exact hv
    · exact h.2.2.2.cn m hm j j1 j2
  · rw [zsE_t T 1 hm hz hm (by omega), hTe _ (by omega) (by omega), zsE_cn S hm (by omega)]
    exact (hmm.1 _ (by omega) (by omega)).symm
