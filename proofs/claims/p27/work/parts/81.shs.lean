theorem zallz_4 {e : Int → Int} {d r c : Int} (hd : 0 ≤ d ∧ d ≤ 2) : zallz e (r * zsz d) (c * zsz d) (zsz d) ↔ ∀ k : Nat, k < 4 → zallz e ((2 * r + (k : Int) / 2) * zsz (d + 1)) ((2 * c + (k : Int) % 2) * zsz (d + 1)) (zsz (d + 1)) := by
  have key : ∀ h : Int, 0 < h → zsz d = 2 * h → zsz (d + 1) = h → (zallz e (r * zsz d) (c * zsz d) (zsz d) ↔ ∀ k : Nat, k < 4 → zallz e ((2 * r + (k : Int) / 2) * zsz (d + 1)) ((2 * c + (k : Int) % 2) * zsz (d + 1)) (zsz (d + 1))) := by
    intro h h0 e1 e2
    rw [e1, e2]
    have m1 : ∀ x : Int, x * (2 * h) = 2 * (x * h) := fun x => by rw [← Int.mul_assoc, Int.mul_comm x 2, Int.mul_assoc]
    have m2 : ∀ x y : Int, (2 * x + y) * h = 2 * (x * h) + y * h := fun x y => by rw [Int.add_mul, Int.mul_assoc]
    have h3 : ∀ k : Nat, k < 4 → ((k : Int) / 2 * h = 0 ∨ (k : Int) / 2 * h = h) ∧ ((k : Int) % 2 * h = 0 ∨ (k : Int) % 2 * h = h) := by
      intro k hk
      have h4 : k = 0 ∨ k = 1 ∨ k = 2 ∨ k = 3 := by omega
      rcases h4 with rfl | rfl | rfl | rfl <;> refine ⟨?_, ?_⟩ <;> first | (left; exact Int.zero_mul h) | (right; exact Int.one_mul h)
    constructor
    · intro z k hk i j i1 i2 j1 j2
      rw [m2] at i1 i2 j1 j2
      have := h3 k hk
      exact z i j (by rw [m1]; omega) (by rw [m1]; omega) (by rw [m1]; omega) (by rw [m1]; omega)
    · intro z i j i1 i2 j1 j2
      rw [m1] at i1 i2 j1 j2
      have s0 : (0 : Int) * h = 0 := Int.zero_mul h
      have s1 : (1 : Int) * h = h := Int.one_mul h
      by_cases a : i < 2 * (r * h) + h
      · by_cases b : j < 2 * (c * h) + h
        · refine z 0 (by omega) i j ?_ ?_ ?_ ?_ <;> rw [m2] <;> simp <;> omega
        · refine z 1 (by omega) i j ?_ ?_ ?_ ?_ <;> rw [m2] <;> simp <;> omega
      · by_cases b : j < 2 * (c * h) + h
        · refine z 2 (by omega) i j ?_ ?_ ?_ ?_ <;> rw [m2] <;> simp <;> omega
        · refine z 3 (by omega) i j ?_ ?_ ?_ ?_ <;> rw [m2] <;> simp <;> omega
  have h3 : d = 0 ∨ d = 1 ∨ d = 2 := by omega
  rcases h3 with rfl | rfl | rfl
  · exact key 8 (by decide) (by decide) (by decide)
  · exact key 4 (by decide) (by decide) (by decide)
  · exact key 2 (by decide) (by decide) (by decide)

theorem zvis_lt {t t2 : Int → Int} {d : Int} (hd : 0 ≤ d ∧ d ≤ 3) (h : ∀ a r c, 0 ≤ a → a < d → (0 ≤ r ∧ r < zp2 a) → (0 ≤ c ∧ c < zp2 a) → t (zmn a r c) = t2 (zmn a r c)) {r c : Int} (hr : 0 ≤ r ∧ r < zp2 d) (hc : 0 ≤ c ∧ c < zp2 d) : zvis t d r c = zvis t2 d r c := by
  have key : ∀ a : Nat, a < d.toNat → t (zmn a (r / zp2 (d - a)) (c / zp2 (d - a))) = t2 (zmn a (r / zp2 (d - a)) (c / zp2 (d - a))) := by
    intro a ha
    have h4 : (0 ≤ r / zp2 (d - a) ∧ r / zp2 (d - a) < zp2 a) ∧ 0 ≤ c / zp2 (d - a) ∧ c / zp2 (d - a) < zp2 a := by
      have h3 : (d = 1 ∧ a = 0) ∨ (d = 2 ∧ a = 0) ∨ (d = 2 ∧ a = 1) ∨ (d = 3 ∧ a = 0) ∨ (d = 3 ∧ a = 1) ∨ (d = 3 ∧ a = 2) := by omega
      rcases h3 with ⟨rfl, rfl⟩ | ⟨rfl, rfl⟩ | ⟨rfl, rfl⟩ | ⟨rfl, rfl⟩ | ⟨rfl, rfl⟩ | ⟨rfl, rfl⟩ <;> simp [zp2] at hr hc ⊢ <;> omega
    exact h a _ _ (by omega) (by omega) h4.1 h4.2
  have e1 := zvk_iff t d r c d.toNat
  have e2 := zvk_iff t2 d r c d.toNat
  have e3 : (zvk t d r c d.toNat = true) ↔ (zvk t2 d r c d.toNat = true) := by
    rw [e1, e2]
    exact ⟨fun z a ha => by rw [← key a ha]; exact z a ha, fun z a ha => by rw [key a ha]; exact z a ha⟩
  exact Bool.eq_iff_iff.mpr e3
theorem zsn_rk {one z s rm : Int} (h : (zsn one z s rm).1 ≠ 3) (hr : s ≠ 3 → rm = zrm s z) : zrk (zsn one z s rm).1 z = (zsn one z s rm).2 := by
  unfold zsn at h ⊢
  by_cases h2 : one = 2
  · rw [if_pos h2]; rfl
  · rw [if_neg h2] at h ⊢
    by_cases b : one = 1 ∧ 2 * z ≤ rm
    · rw [if_pos b]; rfl
    · rw [if_neg b] at h ⊢
      have w : s ≠ 3 := h
      rw [hr w]
      unfold zrk zrm
      dsimp only
      rw [if_neg w]
theorem zsn_3 {one z s rm : Int} (h : (zsn one z s rm).1 = 3) : s = 3 ∧ (zsn one z s rm).2 = rm := by
  unfold zsn at h ⊢
  by_cases h2 : one = 2
  · rw [if_pos h2] at h
    exact absurd (show (0 : Int) = 3 from h) (by decide)
  · rw [if_neg h2] at h ⊢
    by_cases b : one = 1 ∧ 2 * z ≤ rm
    · rw [if_pos b] at h
      exact absurd (show (2 : Int) = 3 from h) (by decide)
    · rw [if_neg b] at h ⊢
      exact ⟨h, rfl⟩
noncomputable def zw8 (e t : Int → Int) (d r c : Int) : Int := (znw e t (3 - d).toNat d r c).1
/-- a new sort 0 is a block of nothing -/
theorem zw8_0 {e t : Int → Int} (hz : zEz e t) {d r c : Int} (hd : 0 ≤ d ∧ d ≤ 3) (hr : 0 ≤ r ∧ r < zp2 d) (hc : 0 ≤ c ∧ c < zp2 d) (hv : zvis t d r c = true) : zw8 e t d r c = 0 ↔ zallz e (r * zsz d) (c * zsz d) (zsz d) := by
  have key : ∀ rm, (zsn (zone e (r * zsz d) (c * zsz d) (zsz d)) (zsz d) (t (zmn d r c)) rm).1 = 0 ↔ zallz e (r * zsz d) (c * zsz d) (zsz d) := by
    intro rm
    constructor
    · intro h
      by_cases a : zallz e (r * zsz d) (c * zsz d) (zsz d)
      · exact a
      · exfalso
        have hn2 : zone e (r * zsz d) (c * zsz d) (zsz d) ≠ 2 := by
          by_cases b : zoneP e (r * zsz d) (c * zsz d) (zsz d)
          · rw [zone_1 a b]; decide
          · rw [zone_0 a b]; decide
        unfold zsn at h
        rw [if_neg hn2] at h
        by_cases b : zone e (r * zsz d) (c * zsz d) (zsz d) = 1 ∧ 2 * zsz d ≤ rm
        · rw [if_pos b] at h
          exact absurd (show (2 : Int) = 0 from h) (by decide)
        · rw [if_neg b] at h
          exact a (hz d r c hd hr hc hv h)
    · intro a
      rw [zone_2 a]
      rfl
  unfold zw8
  cases hg : (3 - d).toNat with
  | zero => exact key _
  | succ g => exact key _
/-- the room of a block whose blocks are made smaller -/
theorem znw_rm {e t0 T : Int → Int} (hv0 : zVl t0) (h03 : ∀ d r c, (0 ≤ d ∧ d ≤ 3) → (0 ≤ r ∧ r < zp2 d) → (0 ≤ c ∧ c < zp2 d) → 0 ≤ t0 (zmn d r c) ∧ t0 (zmn d r c) ≤ 3) {d0 : Int} (hP : ∀ d r c, (d0 ≤ d ∧ 0 ≤ d ∧ d ≤ 3) → (0 ≤ r ∧ r < zp2 d) → (0 ≤ c ∧ c < zp2 d) → zvis t0 d r c = true → T (zmn d r c) = zw8 e t0 d r c) : ∀ (g : Nat) (d r c : Int), d = 3 - g → d0 ≤ d → 0 ≤ d → (0 ≤ r ∧ r < zp2 d) → (0 ≤ c ∧ c < zp2 d) → zvis t0 d r c = true → zvis T d r c = true → zrmF T d r c = (znw e t0 g d r c).2
  | 0, d, r, c, e0, hd0, hd, hr, hc, hv, hvT => by
    have e3 : d = 3 := by omega
    have hT := hP d r c (by omega) hr hc hv
    have hn := h03 d r c (by omega) hr hc
    rw [zrmF_VS]
    rw [e3] at hr hc hv hvT hT hn ⊢
    have hn3 := hv0 r c hr hc hv
    rw [zVS_3]
    unfold zFr
    rw [if_pos hvT, hT]
    show zrk (zsn (zone e (r * zsz 3) (c * zsz 3) (zsz 3)) (zsz 3) (t0 (zmn 3 r c)) (zrm (t0 (zmn 3 r c)) (zsz 3))).1 (zsz 3) = (zsn (zone e (r * zsz 3) (c * zsz 3) (zsz 3)) (zsz 3) (t0 (zmn 3 r c)) (zrm (t0 (zmn 3 r c)) (zsz 3))).2
    refine zsn_rk (fun z => hn3 (zsn_3 z).1) (fun _ => rfl)
  | g + 1, d, r, c, e0, hd0, hd, hr, hc, hv, hvT => by
    have hT := hP d r c (by omega) hr hc hv
    have hn := h03 d r c (by omega) hr hc
    rw [zrmF_VS, zVS_s _ r c (by omega)]
    have hF : zFr T d r c = zrk (T (zmn d r c)) (zsz d) := if_pos hvT
    have hw : zw8 e t0 d r c = (znw e t0 (g + 1) d r c).1 := by
      unfold zw8
      rw [show (3 - d).toNat = g + 1 by omega]
    rw [hF, hT, hw]
    rw [hw] at hT
    by_cases w3 : (znw e t0 (g + 1) d r c).1 = 3
    · -- the block stays cut
      have hs3 : t0 (zmn d r c) = 3 ∧ (znw e t0 (g + 1) d r c).2 = 1 + zsm (fun q => (znw e t0 g (d + 1) (2 * r + q / 2) (2 * c + q % 2)).2) 4 := by
        rw [znw_s] at w3 ⊢
        have h := zsn_3 w3
        exact ⟨h.1, h.2.trans (if_pos h.1)⟩
      rw [hs3.2, w3]
      show 1 + _ = 1 + _
      congr 1
      refine zsm_cg 4 (fun q hq => ?_)
      have q1 := zpq (k := q) (d := d) (by omega) hr (by omega)
      have q2 := zpq (k := q) (d := d) (by omega) hc (by omega)
      have ih := znw_rm (e := e) hv0 h03 hP g (d + 1) _ _ (by omega) (by omega) (by omega) q1.1 q2.2 (by rw [zvis_s t0 (by omega) (by omega), hv, hs3.1]; rfl) (by rw [zvis_s T (by omega) (by omega), hvT, hT, w3]; rfl)
      rw [zrmF_VS] at ih
      exact ih
    · rw [zsm_z 4 (fun q hq => ?_)]
      · rw [znw_s] at w3 ⊢
        rw [Int.add_zero]
        exact zsn_rk w3 (fun h => if_neg h)
      · refine zVS_0 (t := T) (fun a b e h => by
          unfold zFr
          rw [h]
          rfl) g (d + 1) _ _ (by omega) (by omega) ?_
        rw [zvis_s T (by omega) (by omega), hT, decide_eq_false w3, Bool.and_false]
