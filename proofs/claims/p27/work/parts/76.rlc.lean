def zch4 (d r c k : Int) : Prop := k = zmn (d + 1) (2 * r) (2 * c) ∨ k = zmn (d + 1) (2 * r) (2 * c + 1) ∨ k = zmn (d + 1) (2 * r + 1) (2 * c) ∨ k = zmn (d + 1) (2 * r + 1) (2 * c + 1)
/-- a block is cut: its parts are as it was -/
noncomputable def zcut (t : Int → Int) (d r c : Int) : Int → Int := @ite _ (t (zmn d r c) = 3) (Classical.propDecidable _) t (fun k => if k = zmn d r c then 3 else @ite _ (zch4 d r c k) (Classical.propDecidable _) (t (zmn d r c)) (t k))
theorem zcut_3 {t : Int → Int} {d r c : Int} (h : t (zmn d r c) = 3) : zcut t d r c = t := if_pos h
theorem zcut_n {t : Int → Int} {d r c : Int} (h : t (zmn d r c) ≠ 3) (k : Int) : zcut t d r c k = if k = zmn d r c then 3 else @ite _ (zch4 d r c k) (Classical.propDecidable _) (t (zmn d r c)) (t k) := by
  unfold zcut
  rw [if_neg h]
theorem zcut_s {t : Int → Int} {d r c : Int} : zcut t d r c (zmn d r c) = 3 := by
  by_cases h : t (zmn d r c) = 3
  · rw [zcut_3 h, h]
  · rw [zcut_n h, if_pos rfl]
/-- four parts get a sort -/
theorem z4u (t : Int → Int) (a b c d s k : Int) : zu (zu (zu (zu t a s) b s) c s) d s k = @ite _ (k = a ∨ k = b ∨ k = c ∨ k = d) (Classical.propDecidable _) s (t k) := by
  unfold zu
  by_cases h1 : k = d
  · rw [if_pos h1, if_pos (Or.inr (Or.inr (Or.inr h1)))]
  · rw [if_neg h1]
    by_cases h2 : k = c
    · rw [if_pos h2, if_pos (Or.inr (Or.inr (Or.inl h2)))]
    · rw [if_neg h2]
      by_cases h3 : k = b
      · rw [if_pos h3, if_pos (Or.inr (Or.inl h3))]
      · rw [if_neg h3]
        by_cases h4 : k = a
        · rw [if_pos h4, if_pos (Or.inl h4)]
        · rw [if_neg h4, if_neg (fun z => by omega)]
theorem zch4_q {d r c q : Int} (hq : 0 ≤ q ∧ q < 4) : zch4 d r c (zmn (d + 1) (2 * r + q / 2) (2 * c + q % 2)) := by
  have h : q = 0 ∨ q = 1 ∨ q = 2 ∨ q = 3 := by omega
  rcases h with rfl | rfl | rfl | rfl
  · exact Or.inl (by rw [show 2 * r + 0 / 2 = 2 * r by omega, show 2 * c + 0 % 2 = 2 * c by omega])
  · exact Or.inr (Or.inl (by rw [show 2 * r + 1 / 2 = 2 * r by omega, show 2 * c + 1 % 2 = 2 * c + 1 by omega]))
  · exact Or.inr (Or.inr (Or.inl (by rw [show 2 * r + 2 / 2 = 2 * r + 1 by omega, show 2 * c + 2 % 2 = 2 * c by omega])))
  · exact Or.inr (Or.inr (Or.inr (by rw [show 2 * r + 3 / 2 = 2 * r + 1 by omega, show 2 * c + 3 % 2 = 2 * c + 1 by omega])))
/-- a part of it -/
theorem zch4_of {d r c d2 r2 c2 : Int} (hd : 0 ≤ d ∧ d ≤ 2) (hr : 0 ≤ r ∧ r < zp2 d) (hc : 0 ≤ c ∧ c < zp2 d) (hd2 : 0 ≤ d2 ∧ d2 ≤ 3) (hr2 : 0 ≤ r2 ∧ r2 < zp2 d2) (hc2 : 0 ≤ c2 ∧ c2 < zp2 d2) (h : zch4 d r c (zmn d2 r2 c2)) : d2 = d + 1 ∧ r2 / 2 = r ∧ c2 / 2 = c := by
  have key : ∀ a b : Int, (0 ≤ a ∧ a < 2) → (0 ≤ b ∧ b < 2) → zmn d2 r2 c2 = zmn (d + 1) (2 * r + a) (2 * c + b) → d2 = d + 1 ∧ r2 / 2 = r ∧ c2 / 2 = c := by
    intro a b ha hb e
    have hp := zp2_m (d := d) (j := 1) hd.1 (by decide) (by omega)
    rw [show zp2 1 = 2 from rfl] at hp
    have q := zmn_inj hd2 hr2 hc2 (by omega) (show 0 ≤ 2 * r + a ∧ 2 * r + a < zp2 (d + 1) by omega) (show 0 ≤ 2 * c + b ∧ 2 * c + b < zp2 (d + 1) by omega) e
    exact ⟨q.1, by omega, by omega⟩
  rcases h with h | h | h | h
  · exact key 0 0 (by decide) (by decide) (by rw [h, show 2 * r + 0 = 2 * r by omega, show 2 * c + 0 = 2 * c by omega])
  · exact key 0 1 (by decide) (by decide) (by rw [h, show 2 * r + 0 = 2 * r by omega])
  · exact key 1 0 (by decide) (by decide) (by rw [h, show 2 * c + 0 = 2 * c by omega])
  · exact key 1 1 (by decide) (by decide) h
theorem zch4_mk {d r2 c2 : Int} : zch4 d (r2 / 2) (c2 / 2) (zmn (d + 1) r2 c2) := by
  have h := zch4_q (d := d) (r := r2 / 2) (c := c2 / 2) (q := r2 % 2 * 2 + c2 % 2) (by omega)
  rw [show 2 * (r2 / 2) + (r2 % 2 * 2 + c2 % 2) / 2 = r2 by omega, show 2 * (c2 / 2) + (r2 % 2 * 2 + c2 % 2) % 2 = c2 by omega] at h
  exact h
/-- what is there behind a cut -/
theorem zcut_vis {t : Int → Int} {d r c : Int} (hd : 0 ≤ d ∧ d ≤ 2) (hr : 0 ≤ r ∧ r < zp2 d) (hc : 0 ≤ c ∧ c < zp2 d) (hn : t (zmn d r c) ≠ 3) : ∀ (k : Nat) (r2 c2 : Int), k ≤ 3 → (0 ≤ r2 ∧ r2 < zp2 k) → (0 ≤ c2 ∧ c2 < zp2 k) → zvis (zcut t d r c) k r2 c2 = true → zvis t k r2 c2 = true ∨ zch4 d r c (zmn k r2 c2)
  | 0, _, _, _, _, _, _ => Or.inl rfl
  | k + 1, r2, c2, hk, hr2, hc2, hv => by
    rw [show ((k + 1 : Nat) : Int) = (k : Int) + 1 by omega] at hr2 hc2 hv ⊢
    have hr3 := zp2_h (by omega) hr2
    have hc3 := zp2_h (by omega) hc2
    rw [zvis_d _ r2 c2 (by omega), Bool.and_eq_true, decide_eq_true_iff] at hv
    have h3 := hv.2
    rw [zcut_n hn] at h3
    by_cases q : zmn k (r2 / 2) (c2 / 2) = zmn d r c
    · have q2 := zmn_inj (by omega) hr3 hc3 (by omega) hr hc q
      refine Or.inr ?_
      rw [← q2.1, ← q2.2.1, ← q2.2.2]
      exact zch4_mk
    · rw [if_neg q] at h3
      by_cases q2 : zch4 d r c (zmn k (r2 / 2) (c2 / 2))
      · rw [if_pos q2] at h3
        exact absurd h3 hn
      · rw [if_neg q2] at h3
        rcases zcut_vis hd hr hc hn k _ _ (by omega) hr3 hc3 hv.1 with h4 | h4
        · refine Or.inl ?_
          rw [zvis_d t r2 c2 (by omega), h4]
          exact decide_eq_true h3
        · exact absurd h4 q2
theorem zMm.cut {e t e2 t2 : Int → Int} (h : zMm e t e2 t2) {d r c : Int} (hd : 0 ≤ d ∧ d ≤ 2) (hr : 0 ≤ r ∧ r < zp2 d) (hc : 0 ≤ c ∧ c < zp2 d) (hv : zvis t2 d r c = true) : zMm e (zcut t d r c) e2 (zcut t2 d r c) := by
  obtain ⟨h1, h2, h3, h4⟩ := h
  have hs := h2 d r c (by omega) hr hc hv
  by_cases hn : t2 (zmn d r c) = 3
  · rw [zcut_3 hn, zcut_3 (hs.trans hn)]
    exact ⟨h1, h2, h3, h4⟩
  have hn1 : t (zmn d r c) ≠ 3 := fun z => hn (hs.symm.trans z)
  have hvv : ∀ d2 r2 c2, (0 ≤ d2 ∧ d2 ≤ 3) → (0 ≤ r2 ∧ r2 < zp2 d2) → (0 ≤ c2 ∧ c2 < zp2 d2) → zvis (zcut t2 d r c) d2 r2 c2 = true → zvis t2 d2 r2 c2 = true ∨ zch4 d r c (zmn d2 r2 c2) := fun d2 r2 c2 hd2 hr2 hc2 hv2 => by
    obtain ⟨k, rfl⟩ : ∃ k : Nat, d2 = k := ⟨d2.toNat, by omega⟩
    exact zcut_vis hd hr hc hn k r2 c2 (by omega) hr2 hc2 hv2
  refine ⟨h1, fun d2 r2 c2 hd2 hr2 hc2 hv2 => ?_, fun r2 c2 hr2 hc2 hv2 => ?_, fun d2 r2 c2 hd2 hr2 hc2 hv2 h0 => ?_⟩
  · rw [zcut_n hn, zcut_n hn1]
    by_cases q : zmn d2 r2 c2 = zmn d r c
    · rw [if_pos q, if_pos q]
    · rw [if_neg q, if_neg q]
      by_cases q2 : zch4 d r c (zmn d2 r2 c2)
      · rw [if_pos q2, if_pos q2]
        exact hs
      · rw [if_neg q2, if_neg q2]
        exact h2 d2 r2 c2 hd2 hr2 hc2 ((hvv d2 r2 c2 hd2 hr2 hc2 hv2).resolve_right q2)
  · rw [zcut_n hn]
    by_cases q : zmn 3 r2 c2 = zmn d r c
    · have := zmn_inj (by decide) hr2 hc2 (by omega) hr hc q
      omega
    · rw [if_neg q]
      by_cases q2 : zch4 d r c (zmn 3 r2 c2)
      · rw [if_pos q2]
        exact hn
      · rw [if_neg q2]
        exact h3 r2 c2 hr2 hc2 ((hvv 3 r2 c2 (by decide) hr2 hc2 hv2).resolve_right q2)
  · rw [zcut_n hn] at h0
    by_cases q : zmn d2 r2 c2 = zmn d r c
    · rw [if_pos q] at h0
      cases h0
    · rw [if_neg q] at h0
      by_cases q2 : zch4 d r c (zmn d2 r2 c2)
      · rw [if_pos q2] at h0
        have h5 := h4 d r c (by omega) hr hc hv h0
        have q3 := zch4_of hd hr hc hd2 hr2 hc2 q2
        have hz2 : zsz d = 2 * zsz d2 := by
          rw [q3.1]
          have h6 : d = 0 ∨ d = 1 ∨ d = 2 := by omega
          rcases h6 with rfl | rfl | rfl <;> decide
        have hp := zsz_v hd2
        have er : r2 * zsz d2 = r * zsz d + r2 % 2 * zsz d2 := by
          rw [hz2, ← q3.2.1, ← Int.mul_assoc, ← Int.add_mul]
          congr 1
          omega
        have ec : c2 * zsz d2 = c * zsz d + c2 % 2 * zsz d2 := by
          rw [hz2, ← q3.2.2, ← Int.mul_assoc, ← Int.add_mul]
          congr 1
          omega
        have m1 : r2 % 2 = 0 ∨ r2 % 2 = 1 := by omega
        have m2 : c2 % 2 = 0 ∨ c2 % 2 = 1 := by omega
        intro i j i1 i2 j1 j2
        rw [er] at i1 i2
        rw [ec] at j1 j2
        refine h5 i j ?_ ?_ ?_ ?_
        · rcases m1 with m1 | m1 <;> rw [m1] at i1 i2 <;> omega
        · rcases m1 with m1 | m1 <;> rw [m1] at i1 i2 <;> omega
        · rcases m2 with m2 | m2 <;> rw [m2] at j1 j2 <;> omega
        · rcases m2 with m2 | m2 <;> rw [m2] at j1 j2 <;> omega
      · rw [if_neg q2] at h0
        exact h4 d2 r2 c2 hd2 hr2 hc2 ((hvv d2 r2 c2 hd2 hr2 hc2 hv2).resolve_right q2) h0
/-- the class's cut -/
theorem zcb_cu {t : Int → Int} {d row col : Int} (hd : 0 ≤ d ∧ d ≤ 2) (hn : t (zno d row col) ≠ 3) : zcb t d row col = zcut t d (row / zsz d) (col / zsz d) := by
  have hz2 : zsz d = 2 * zsz (d + 1) := by
    have h6 : d = 0 ∨ d = 1 ∨ d = 2 := by omega
    rcases h6 with rfl | rfl | rfl <;> decide
  have hp := zsz_v (d := d + 1) (by omega)
  have ex : ∀ x a : Int, (x / zsz d * zsz d + a * zsz (d + 1)) / zsz (d + 1) = 2 * (x / zsz d) + a := by
    intro x a
    rw [hz2, ← Int.mul_assoc, ← Int.add_mul, Int.mul_ediv_cancel _ (by omega)]
    omega
  have eq : ∀ q : Int, zno (d + 1) (row / zsz d * zsz d + q / 2 * zsz (d + 1)) (col / zsz d * zsz d + q % 2 * zsz (d + 1)) = zmn (d + 1) (2 * (row / zsz d) + q / 2) (2 * (col / zsz d) + q % 2) := fun q => by
    rw [zmn_no, ex, ex]
  funext k
  rw [zcut_n hn]
  unfold zcb
  have e4 : ∀ g : (Int → Int) → Int → Int → Int, zfo g t 4 = g (g (g (g t 0) 1) 2) 3 := fun g => rfl
  rw [e4, eq, eq, eq, eq]
  generalize hs : t (zno d row col) = s at *
  have hs2 : t (zmn d (row / zsz d) (col / zsz d)) = s := hs
  rw [hs2]
  show (if k = zno d row col then 3 else zu (zu (zu (zu t (zmn (d + 1) (2 * (row / zsz d) + 0 / 2) (2 * (col / zsz d) + 0 % 2)) s) (zmn (d + 1) (2 * (row / zsz d) + 1 / 2) (2 * (col / zsz d) + 1 % 2)) s) (zmn (d + 1) (2 * (row / zsz d) + 2 / 2) (2 * (col / zsz d) + 2 % 2)) s) (zmn (d + 1) (2 * (row / zsz d) + 3 / 2) (2 * (col / zsz d) + 3 % 2)) s k) = _
  rw [z4u, show 2 * (row / zsz d) + 0 / 2 = 2 * (row / zsz d) by omega, show 2 * (col / zsz d) + 0 % 2 = 2 * (col / zsz d) by omega, show 2 * (row / zsz d) + 1 / 2 = 2 * (row / zsz d) by omega, show 2 * (col / zsz d) + 1 % 2 = 2 * (col / zsz d) + 1 by omega, show 2 * (row / zsz d) + 2 / 2 = 2 * (row / zsz d) + 1 by omega, show 2 * (col / zsz d) + 2 % 2 = 2 * (col / zsz d) by omega, show 2 * (row / zsz d) + 3 / 2 = 2 * (row / zsz d) + 1 by omega, show 2 * (col / zsz d) + 3 % 2 = 2 * (col / zsz d) + 1 by omega]
  rfl
/-- the model's cut -/
theorem zmct_cu {S : Int → Int} {m d r c : Int} (hm : 0 ≤ m ∧ m < 4) (hd : 0 ≤ d ∧ d ≤ 2) (hr : 0 ≤ r ∧ r < zp2 d) (hc : 0 ≤ c ∧ c < zp2 d) : (∀ k, 0 ≤ k → k < 85 → zsT (zmct S m d r c) m k = zcut (zsT S m) d r c k) ∧ ∀ i, (i < 341 * m ∨ 341 * m + 85 ≤ i) → zmct S m d r c i = S i := by
  have hz := zmn_in (by omega) hr hc
  unfold zmct
  by_cases hn : zsT S m (zmn d r c) = 3
  · rw [if_pos hn, zcut_3 hn]
    exact ⟨fun _ _ _ => rfl, fun _ _ => rfl⟩
  rw [if_neg hn]
  have e4 : ∀ g : (Int → Int) → Int → Int → Int, ∀ a : Int → Int, zfo g a 4 = g (g (g (g a 0) 1) 2) 3 := fun g a => rfl
  rw [e4]
  have q1 := fun k hk => zpq (k := k) hd hr hk
  have q2 := fun k hk => zpq (k := k) hd hc hk
  have zi := fun k hk => zmn_in (d := d + 1) (by omega) (q1 k hk).1 (q2 k hk).2
  have z0 := zi 0 (by decide)
  have z1 := zi 1 (by decide)
  have z2 := zi 2 (by decide)
  have z3 := zi 3 (by decide)
  rw [show 2 * r + 0 / 2 = 2 * r by omega, show 2 * c + 0 % 2 = 2 * c by omega] at z0 ⊢
  rw [show 2 * r + 1 / 2 = 2 * r by omega, show 2 * c + 1 % 2 = 2 * c + 1 by omega] at z1 ⊢
  rw [show 2 * r + 2 / 2 = 2 * r + 1 by omega, show 2 * c + 2 % 2 = 2 * c by omega] at z2 ⊢
  rw [show 2 * r + 3 / 2 = 2 * r + 1 by omega, show 2 * c + 3 % 2 = 2 * c + 1 by omega] at z3 ⊢
  generalize hs : zsT S m (zmn d r c) = s at *
  refine ⟨fun k k1 k2 => ?_, fun i hi => ?_⟩
  · rw [zcut_n (by rw [hs]; exact hn), hs]
    unfold zsT
    rw [z4u]
    unfold zch4
    have hne : ∀ x, x < 85 → 0 ≤ x → (341 * m + k = 341 * m + x ↔ k = x) := fun x _ _ => by omega
    by_cases q : k = zmn d r c
    · have hnc : ¬ zch4 d r c (zmn d r c) := fun z => by
        have := zch4_of hd hr hc (by omega) hr hc z
        omega
      rw [if_pos q, if_neg, q]
      · exact zu_s _ _ _
      · rw [q]
        intro z
        refine hnc ?_
        unfold zch4
        omega
    · rw [if_neg q]
      by_cases q2 : k = zmn (d + 1) (2 * r) (2 * c) ∨ k = zmn (d + 1) (2 * r) (2 * c + 1) ∨ k = zmn (d + 1) (2 * r + 1) (2 * c) ∨ k = zmn (d + 1) (2 * r + 1) (2 * c + 1)
      · rw [if_pos q2, if_pos (by omega)]
      · rw [if_neg q2, if_neg (by omega), zu_n _ _ (by omega)]
  · rw [z4u, if_neg (by omega), zu_n _ _ (by omega)]
