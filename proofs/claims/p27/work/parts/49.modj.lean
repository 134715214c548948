theorem zmn_inj {d r c d2 r2 c2 : Int} (hd : 0 ≤ d ∧ d ≤ 3) (hr : 0 ≤ r ∧ r < zp2 d) (hc : 0 ≤ c ∧ c < zp2 d) (hd2 : 0 ≤ d2 ∧ d2 ≤ 3) (hr2 : 0 ≤ r2 ∧ r2 < zp2 d2) (hc2 : 0 ≤ c2 ∧ c2 < zp2 d2) (h : zmn d r c = zmn d2 r2 c2) : d = d2 ∧ r = r2 ∧ c = c2 := by
  have h3 : d = 0 ∨ d = 1 ∨ d = 2 ∨ d = 3 := by omega
  have h4 : d2 = 0 ∨ d2 = 1 ∨ d2 = 2 ∨ d2 = 3 := by omega
  rcases h3 with rfl | rfl | rfl | rfl <;> rcases h4 with rfl | rfl | rfl | rfl <;> simp [zp2, zmn] at * <;> omega
theorem zvis_s (t : Int → Int) {d r c : Int} {k : Int} (hd : 0 ≤ d ∧ d ≤ 2) (hk : 0 ≤ k ∧ k < 4) : zvis t (d + 1) (2 * r + k / 2) (2 * c + k % 2) = (zvis t d r c && decide (t (zmn d r c) = 3)) := by
  have e1 : ∀ x y : Int, (2 * x + y) / 2 = x + y / 2 := by omega
  have h3 : d = 0 ∨ d = 1 ∨ d = 2 := by omega
  have f0 : k / 2 / 2 = 0 := by omega
  have f1 : k % 2 / 2 = 0 := by omega
  have a1 : (2 * r + k / 2) / 2 = r := by omega
  have a2 : (2 * c + k % 2) / 2 = c := by omega
  have b1 : (2 * r + k / 2) / 4 = r / 2 := by omega
  have b2 : (2 * c + k % 2) / 4 = c / 2 := by omega
  have d1 : (2 * r + k / 2) / 8 = r / 4 := by omega
  have d2 : (2 * c + k % 2) / 8 = c / 4 := by omega
  rcases h3 with rfl | rfl | rfl
  · show (true && decide (t (zmn 0 ((2 * r + k / 2) / 2) ((2 * c + k % 2) / 2)) = 3)) = (true && decide (t (zmn 0 r c) = 3))
    rw [a1, a2]
  · show ((true && decide (t (zmn 0 ((2 * r + k / 2) / 4) ((2 * c + k % 2) / 4)) = 3)) && decide (t (zmn 1 ((2 * r + k / 2) / 2) ((2 * c + k % 2) / 2)) = 3)) = ((true && decide (t (zmn 0 (r / 2) (c / 2)) = 3)) && decide (t (zmn 1 r c) = 3))
    rw [a1, a2, b1, b2]
  · show (((true && decide (t (zmn 0 ((2 * r + k / 2) / 8) ((2 * c + k % 2) / 8)) = 3)) && decide (t (zmn 1 ((2 * r + k / 2) / 4) ((2 * c + k % 2) / 4)) = 3)) && decide (t (zmn 2 ((2 * r + k / 2) / 2) ((2 * c + k % 2) / 2)) = 3)) = (((true && decide (t (zmn 0 (r / 4) (c / 4)) = 3)) && decide (t (zmn 1 (r / 2) (c / 2)) = 3)) && decide (t (zmn 2 r c) = 3))
    rw [a1, a2, b1, b2, d1, d2]
/-- one block of add: if it is open -/
def zads (m q x d N : Int) (P : (Int → Int) × (Int → Int)) (k : Int) : (Int → Int) × (Int → Int) := if P.2 (zmn d (k / N) (k % N)) = 0 then P else zab P.1 P.2 m q x d (k / N) (k % N)
def zadl (m q x d N : Int) (P : (Int → Int) × (Int → Int)) : Nat → (Int → Int) × (Int → Int) := zfo (zads m q x d N) P
def zadf (m q x : Int) (P : (Int → Int) × (Int → Int)) : Nat → (Int → Int) × (Int → Int) := zfo (fun P d => zadl m q x d (zp2 d) P (zp2 d * zp2 d).toNat) P
/-- what stays true of an addition -/
def zaJ (q : Int) (t : Int → Int) (P : (Int → Int) × (Int → Int)) : Prop := (isSo P.1 ∧ zEn P.1) ∧ (∀ k, 0 ≤ k → k < 85 → zsT P.1 q k = t k) ∧ (∀ k, 0 ≤ k → k < 85 → P.2 k = 0 ∨ P.2 k = 1) ∧ ∀ d r c, (0 ≤ d ∧ d ≤ 3) → (0 ≤ r ∧ r < zp2 d) → (0 ≤ c ∧ c < zp2 d) → P.2 (zmn d r c) = 1 → zvis t d r c = true
theorem zaq_J {S : Int → Int} {m q x row col : Int} {N : Nat} (hm : 0 ≤ m ∧ m < 4) (hS : isSo S) (hE : zEn S) (hr : 0 ≤ row ∧ row + N ≤ 16) (hc : 0 ≤ col ∧ col + N ≤ 16) : ∀ k : Nat, k ≤ N * N → (isSo (zaq S m q x row col N k) ∧ zEn (zaq S m q x row col N k)) ∧ ∀ m2 j, (0 ≤ m2 ∧ m2 < 4) → 0 ≤ j → j < 85 → zsT (zaq S m q x row col N k) m2 j = zsT S m2 j
  | 0, _ => ⟨⟨hS, hE⟩, fun _ _ _ _ _ => rfl⟩
  | k + 1, hk => by
    obtain ⟨⟨h1, h2⟩, h3⟩ := zaq_J (m := m) (q := q) (x := x) hm hS hE hr hc k (by omega)
    have hd := zdm (N := N) (k := k) (by omega)
    refine ⟨⟨h1.e _ hm (by omega), h2.e hm (by omega) (zclp_in _)⟩, fun m2 j hm2 j1 j2 => ?_⟩
    rw [← h3 m2 j hm2 j1 j2]
    exact zsT_e _ _ hm (by omega) hm2 ⟨j1, j2⟩
theorem zab_J {P : (Int → Int) × (Int → Int)} {t : Int → Int} {m q x d r c : Int} (hJ : zaJ q t P) (hm : 0 ≤ m ∧ m < 4) (hq : 0 ≤ q ∧ q < 4) (hne : m ≠ q) (hv : zVl t) (hd : 0 ≤ d ∧ d ≤ 3) (hr : 0 ≤ r ∧ r < zp2 d) (hc : 0 ≤ c ∧ c < zp2 d) (ho : P.2 (zmn d r c) ≠ 0) : zaJ q t (zab P.1 P.2 m q x d r c) ∧ (d = 3 → ¬ (zsT P.1 q (zmn d r c) = 3 ∧ zsT P.1 m (zmn d r c) = 3)) := by
  obtain ⟨⟨h1, h2⟩, h3, h4, h5⟩ := hJ
  have hz := zmn_in hd hr hc
  have ho1 : P.2 (zmn d r c) = 1 := (h4 _ hz.1 hz.2).resolve_left ho
  have hvis := h5 d r c hd hr hc ho1
  have hno : d = 3 → ¬ (zsT P.1 q (zmn d r c) = 3 ∧ zsT P.1 m (zmn d r c) = 3) := by
    rintro rfl z
    rw [h3 _ hz.1 hz.2] at z
    exact hv r c hr hc hvis z.1
  refine ⟨?_, hno⟩
  unfold zab
  split
  · rename_i c3
    have hd2 : 0 ≤ d ∧ d ≤ 2 := by
      by_cases c9 : d = 3
      · exact absurd c3 (hno c9)
      · omega
    have key : ∀ k : Nat, k ≤ 4 → (∀ j, 0 ≤ j → j < 85 → zfo (fun T k => zu T (zmn (d + 1) (2 * r + k / 2) (2 * c + k % 2)) 1) P.2 k j = 0 ∨ zfo (fun T k => zu T (zmn (d + 1) (2 * r + k / 2) (2 * c + k % 2)) 1) P.2 k j = 1) ∧ ∀ d2 r2 c2, (0 ≤ d2 ∧ d2 ≤ 3) → (0 ≤ r2 ∧ r2 < zp2 d2) → (0 ≤ c2 ∧ c2 < zp2 d2) → zfo (fun T k => zu T (zmn (d + 1) (2 * r + k / 2) (2 * c + k % 2)) 1) P.2 k (zmn d2 r2 c2) = 1 → zvis t d2 r2 c2 = true := by
      intro k
      induction k with
      | zero => exact fun _ => ⟨h4, h5⟩
      | succ k ih =>
        intro hk
        obtain ⟨i1, i2⟩ := ih (by omega)
        have q1 := zpq (k := k) hd2 hr (by omega)
        have q2 := zpq (k := k) hd2 hc (by omega)
        rw [show zfo (fun T k => zu T (zmn (d + 1) (2 * r + k / 2) (2 * c + k % 2)) 1) P.2 (k + 1) = zu (zfo (fun T k => zu T (zmn (d + 1) (2 * r + k / 2) (2 * c + k % 2)) 1) P.2 k) (zmn (d + 1) (2 * r + (k : Int) / 2) (2 * c + (k : Int) % 2)) 1 from rfl]
        generalize zfo (fun T k => zu T (zmn (d + 1) (2 * r + k / 2) (2 * c + k % 2)) 1) P.2 k = T at *
        refine ⟨fun j j1 j2 => ?_, fun d2 r2 c2 g1 g2 g3 g4 => ?_⟩
        · unfold zu
          split
          · exact Or.inr rfl
          · exact i1 j j1 j2
        · unfold zu at g4
          by_cases c9 : zmn d2 r2 c2 = zmn (d + 1) (2 * r + (k : Int) / 2) (2 * c + (k : Int) % 2)
          · obtain ⟨e1, e2, e3⟩ := zmn_inj g1 g2 g3 (by omega) q1.1 q2.2 c9
            rw [e1, e2, e3, zvis_s t hd2 (by omega), hvis, decide_eq_true (by rw [← h3 _ hz.1 hz.2]; exact c3.1)]
            rfl
          · rw [if_neg c9] at g4
            exact i2 d2 r2 c2 g1 g2 g3 g4
    exact ⟨⟨h1, h2⟩, h3, (key 4 (by decide)).1, (key 4 (by decide)).2⟩
  · split
    · obtain ⟨N, hN, hN2⟩ := zszN hd
      have hzp := zsz_p2 hd
      have hbl : ∀ a : Int, 0 ≤ a ∧ a < zp2 d → 0 ≤ a * zsz d ∧ a * zsz d + zsz d ≤ 16 := by
        intro a ha
        have h1 : 0 ≤ a * zsz d := Int.mul_nonneg ha.1 (by omega)
        have h2 : (a + 1) * zsz d ≤ zp2 d * zsz d := Int.mul_le_mul_of_nonneg_right (by omega) (by omega)
        rw [Int.mul_comm (zp2 d), hzp, Int.add_mul] at h2
        omega
      have hr2 := hbl _ hr
      have hc2 := hbl _ hc
      have g1 := h1.t hm hz (show 0 ≤ (1 : Int) ∧ (1 : Int) ≤ 3 by decide)
      have g2 := h2.t (1 : Int) hm hz
      rw [hN] at hr2 hc2 ⊢
      rw [show ((N : Int) * N).toNat = N * N by rw [← Int.natCast_mul]; rfl]
      obtain ⟨k1, k2⟩ := zaq_J (q := q) (x := x) hm g1 g2 hr2 hc2 (N * N) (Nat.le_refl _)
      refine ⟨k1, fun j j1 j2 => ?_, h4, h5⟩
      dsimp only
      rw [k2 q j hq j1 j2, zsT_t P.1 1 hm hz hq ⟨j1, j2⟩, if_neg (fun z => hne z.1.symm)]
      exact h3 j j1 j2
    · exact ⟨⟨h1, h2⟩, h3, h4, h5⟩
theorem zads_J {P : (Int → Int) × (Int → Int)} {t : Int → Int} {m q x d k : Int} (hJ : zaJ q t P) (hm : 0 ≤ m ∧ m < 4) (hq : 0 ≤ q ∧ q < 4) (hne : m ≠ q) (hv : zVl t) (hd : 0 ≤ d ∧ d ≤ 3) (hr : 0 ≤ k / zp2 d ∧ k / zp2 d < zp2 d) (hc : 0 ≤ k % zp2 d ∧ k % zp2 d < zp2 d) : zaJ q t (zads m q x d (zp2 d) P k) := by
  unfold zads
  split
  · exact hJ
  · rename_i c0
    exact (zab_J hJ hm hq hne hv hd hr hc c0).1
section
variable {n : Nat} {σ : zS} {S U : Int → Int} {um L p lv br bc : Int} {wl : Bool}
/-- the isOpen row at the start of an addition -/
def zop (O : Int → Int) (k : Int) : Int → Int := fun j => if 0 ≤ j ∧ j < k then (if j = 0 then 1 else 0) else O j
theorem zop_0 (O : Int → Int) : zop O 0 = O := funext fun j => if_neg (by omega)
theorem zop_s (O : Int → Int) {k : Int} (hk : 0 ≤ k) : zu (zop O k) k (if k = 0 then 1 else 0) = zop O (k + 1) := by
  funext j
  unfold zu zop
  by_cases c : j = k
  · rw [if_pos c, if_pos (show 0 ≤ j ∧ j < k + 1 by omega), c]
  · rw [if_neg c]
    by_cases c2 : 0 ≤ j ∧ j < k
    · rw [if_pos c2, if_pos (show 0 ≤ j ∧ j < k + 1 by omega)]
    · rw [if_neg c2, if_neg (show ¬ (0 ≤ j ∧ j < k + 1) by omega)]
theorem zop_J {S t O : Int → Int} {q : Int} (hS : isSo S) (hE : zEn S) (ht : ∀ k, 0 ≤ k → k < 85 → zsT S q k = t k) : zaJ q t (S, zop O 85) := by
  refine ⟨⟨hS, hE⟩, ht, fun k h1 h2 => ?_, fun d r c hd hr hc h => ?_⟩
  · show zop O 85 k = 0 ∨ zop O 85 k = 1
    unfold zop
    rw [if_pos ⟨h1, h2⟩]
    split
    · exact Or.inr rfl
    · exact Or.inl rfl
  · have hz := zmn_in hd hr hc
    have h : zop O 85 (zmn d r c) = 1 := h
    unfold zop at h
    rw [if_pos hz] at h
    by_cases c0 : zmn d r c = 0
    · have e := zmn_inj hd hr hc (d2 := 0) (r2 := 0) (c2 := 0) (by decide) (by decide) (by decide) c0
      rw [e.1]
      rfl
    · rw [if_neg c0] at h
      cases h
end
