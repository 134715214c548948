theorem zvis_tr {t t2 : Int → Int} (h : ∀ d r c, (0 ≤ d ∧ d ≤ 3) → (0 ≤ r ∧ r < zp2 d) → (0 ≤ c ∧ c < zp2 d) → t2 (zmn d r c) = t (zmn d c r)) {d r c : Int} (hd : 0 ≤ d ∧ d ≤ 3) (hr : 0 ≤ r ∧ r < zp2 d) (hc : 0 ≤ c ∧ c < zp2 d) : zvis t2 d r c = zvis t d c r := by
  refine Bool.eq_iff_iff.mpr ?_
  unfold zvis
  rw [zvk_iff, zvk_iff]
  have key : ∀ a : Nat, a < d.toNat → t2 (zmn a (r / zp2 (d - a)) (c / zp2 (d - a))) = t (zmn a (c / zp2 (d - a)) (r / zp2 (d - a))) := by
    intro a ha
    have h3 := zp2_d (d := d) (j := d - a) (by omega) hd.2 hr
    have h4 := zp2_d (d := d) (j := d - a) (by omega) hd.2 hc
    rw [show d - (d - (a : Int)) = a by omega] at h3 h4
    exact h a _ _ (by omega) h3 h4
  constructor
  · intro q a ha
    rw [← key a ha]
    exact q a ha
  · intro q a ha
    rw [key a ha]
    exact q a ha
theorem zMm.tr {e t e2 t2 e' t' e2' t2' : Int → Int} (h : zMm e t e2 t2) (he : ∀ j, 0 ≤ j → j < 256 → e' j = e (ztE j)) (he2 : ∀ j, 0 ≤ j → j < 256 → e2' j = e2 (ztE j)) (ht : ∀ d r c, (0 ≤ d ∧ d ≤ 3) → (0 ≤ r ∧ r < zp2 d) → (0 ≤ c ∧ c < zp2 d) → t' (zmn d r c) = t (zmn d c r)) (ht2 : ∀ d r c, (0 ≤ d ∧ d ≤ 3) → (0 ≤ r ∧ r < zp2 d) → (0 ≤ c ∧ c < zp2 d) → t2' (zmn d r c) = t2 (zmn d c r)) : zMm e' t' e2' t2' := by
  obtain ⟨h1, h2, h3, h4⟩ := h
  refine ⟨fun j j1 j2 => ?_, fun d r c hd hr hc hv => ?_, fun r c hr hc hv => ?_, fun d r c hd hr hc hv h0 => ?_⟩
  · rw [he j j1 j2, he2 j j1 j2]
    unfold ztE
    exact h1 _ (by omega) (by omega)
  · rw [zvis_tr ht2 hd hr hc] at hv
    rw [ht d r c hd hr hc, ht2 d r c hd hr hc]
    exact h2 d c r hd hc hr hv
  · rw [zvis_tr ht2 (by decide) hr hc] at hv
    rw [ht2 3 r c (by decide) hr hc]
    exact h3 c r hc hr hv
  · rw [zvis_tr ht2 hd hr hc] at hv
    rw [ht2 d r c hd hr hc] at h0
    have b1 := zbl hd hr
    have b2 := zbl hd hc
    intro i j i1 i2 j1 j2
    rw [he2 _ (by omega) (by omega)]
    unfold ztE
    rw [show (i * 16 + j) % 16 * 16 + (i * 16 + j) / 16 = j * 16 + i by omega]
    exact h4 d c r hd hc hr hv h0 j i j1 j2 i1 i2
/-- turn() -/
theorem ztn_rl {X : zSV} {S : Int → Int} (h : zRl X S) {m : Int} (hm : 0 ≤ m ∧ m < 4) : zRl (zsm1 (zch X (X.2.2 + 1)) m (ztp (X.1 m) 16 0) (zfo (fun t d => zts d t) (X.2.1 m) 4)) (ztnE m (ztnF m (zcn S) 4) 256) ∧ zsm (fun k => ztp (X.1 m) 16 0 (k * 16 + k)) 16 = zsm (fun k => zsE (ztnE m (ztnF m (zcn S) 4) 256) m (k * 16 + k)) 16 := by
  have hmm := h.1 m hm
  obtain ⟨f1, f2⟩ := ztnF_e (m := m) (S := zcn S) 4 (by decide)
  have eG : ztnE m (ztnF m (zcn S) 4) 256 = zfo (zgs m 85 (16 : Nat)) (ztnF m (zcn S) 4) (16 * 16) := ztnE_g m _ 256
  have o := (zgs_e (m := m) (B := 85) (N := 16) (S := ztnF m (zcn S) 4) (16 * 16) (Nat.le_refl _)).2
  have hE : ∀ j, 0 ≤ j → j < 256 → zsE (ztnE m (ztnF m (zcn S) 4) 256) m j = zsE S m (ztE j) := fun j j1 j2 => by
    unfold zsE ztE
    rw [eG]
    have z := zgs_all (m := m) (B := 85) (N := 16) (S := ztnF m (zcn S) 4) (r := j / 16) (c := j % 16) (by omega) (by omega)
    rw [show 341 * m + (85 + (j / 16 * ((16 : Nat) : Int) + j % 16)) = 341 * m + 85 + j by omega, show 341 * m + (85 + (j % 16 * ((16 : Nat) : Int) + j / 16)) = 341 * m + 85 + (j % 16 * 16 + j / 16) by omega] at z
    rw [z, f2 _ (by omega)]
    unfold zcn
    rw [zu_n _ _ (by omega)]
  have hT : ∀ d r c, (0 ≤ d ∧ d ≤ 3) → (0 ≤ r ∧ r < zp2 d) → (0 ≤ c ∧ c < zp2 d) → zsT (ztnE m (ztnF m (zcn S) 4) 256) m (zmn d r c) = zsT S m (zmn d c r) := fun d r c hd hr hc => by
    have z1 := zmn_in hd hr hc
    have z2 := zmn_in hd hc hr
    unfold zsT
    rw [eG, o _ (by omega), f1 d r c hd hr hc, if_pos (by omega)]
    unfold zcn
    rw [zu_n _ _ (by omega)]
  have hoth : ∀ i, (i < 341 * m ∨ 341 * m + 341 ≤ i) → ztnE m (ztnF m (zcn S) 4) 256 i = zcn S i := fun i hi => by
    rw [eG, o i (by omega), f2 i (by omega)]
  have hcl : ∀ j, 0 ≤ j → j < 256 → ztp (X.1 m) 16 0 j = X.1 m (ztE j) := fun j j1 j2 => by
    unfold ztp
    rw [if_pos (by omega)]
  refine ⟨h.ch hm (fun m2 hm2 hne => ⟨fun j j1 j2 => ?_, fun k k1 k2 => ?_⟩) ?_ (hmm.tr hcl hE (fun d r c hd hr hc => zts_e hd hr hc) hT) (fun k k1 k2 => ?_) (fun j j1 j2 => ?_), ?_⟩
  · rw [← zsE_cn S hm2 ⟨j1, j2⟩]
    exact hoth _ (by omega)
  · rw [← zsT_cn S hm2 ⟨k1, k2⟩]
    exact hoth _ (by omega)
  · rw [hoth _ (by omega)]
    unfold zcn
    rw [zu_s]
  · have hex : ∃ d r c, (0 ≤ d ∧ d ≤ 3) ∧ (0 ≤ r ∧ r < zp2 d) ∧ (0 ≤ c ∧ c < zp2 d) ∧ zmn d r c = k := by
      by_cases q0 : k < 1
      · exact ⟨0, 0, 0, by decide, by decide, by decide, by rw [show k = 0 by omega]; rfl⟩
      by_cases q1 : k < 5
      · exact ⟨1, (k - 1) / 2, (k - 1) % 2, by decide, by rw [show zp2 1 = 2 from rfl]; omega, by rw [show zp2 1 = 2 from rfl]; omega, by show 1 + (k - 1) / 2 * 2 + (k - 1) % 2 = k; omega⟩
      by_cases q2 : k < 21
      · exact ⟨2, (k - 5) / 4, (k - 5) % 4, by decide, by rw [show zp2 2 = 4 from rfl]; omega, by rw [show zp2 2 = 4 from rfl]; omega, by show 5 + (k - 5) / 4 * 4 + (k - 5) % 4 = k; omega⟩
      · exact ⟨3, (k - 21) / 8, (k - 21) % 8, by decide, by rw [show zp2 3 = 8 from rfl]; omega, by rw [show zp2 3 = 8 from rfl]; omega, by show 21 + (k - 21) / 8 * 8 + (k - 21) % 8 = k; omega⟩
    obtain ⟨d, r, c, hd, hr, hc, rfl⟩ := hex
    rw [hT d r c hd hr hc]
    have z2 := zmn_in hd hc hr
    exact h.2.2.1 m _ hm.1 hm.2 z2.1 z2.2
  · rw [hE j j1 j2]
    exact h.2.2.2 m hm _ (by unfold ztE; omega) (by unfold ztE; omega)
  · refine zsm_cg 16 (fun j hj => ?_)
    rw [hcl _ (by omega) (by omega), hE _ (by omega) (by omega)]
    exact hmm.1 _ (by unfold ztE; omega) (by unfold ztE; omega)
