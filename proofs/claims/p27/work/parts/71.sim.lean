/-- the same blocks are there, of the same sorts -/
def zSim (t t2 : Int → Int) : Prop := ∀ d r c, (0 ≤ d ∧ d ≤ 3) → (0 ≤ r ∧ r < zp2 d) → (0 ≤ c ∧ c < zp2 d) → zvis t2 d r c = true → t (zmn d r c) = t2 (zmn d r c)
theorem zvis_d (t : Int → Int) {d : Int} (r c : Int) (hd : 0 ≤ d ∧ d ≤ 2) : zvis t (d + 1) r c = (zvis t d (r / 2) (c / 2) && decide (t (zmn d (r / 2) (c / 2)) = 3)) := by
  have h := zvis_s t (d := d) (r := r / 2) (c := c / 2) (k := r % 2 * 2 + c % 2) hd (by omega)
  rw [show 2 * (r / 2) + (r % 2 * 2 + c % 2) / 2 = r by omega, show 2 * (c / 2) + (r % 2 * 2 + c % 2) % 2 = c by omega] at h
  exact h
theorem zp2_h {d r : Int} (hd : 0 ≤ d ∧ d ≤ 2) (hr : 0 ≤ r ∧ r < zp2 (d + 1)) : 0 ≤ r / 2 ∧ r / 2 < zp2 d := by
  have h3 : d = 0 ∨ d = 1 ∨ d = 2 := by omega
  rcases h3 with rfl | rfl | rfl <;> simp [zp2] at hr ⊢ <;> omega
theorem zSim.v {t t2 : Int → Int} (h : zSim t t2) : ∀ (k : Nat) (r c : Int), k ≤ 3 → (0 ≤ r ∧ r < zp2 k) → (0 ≤ c ∧ c < zp2 k) → zvis t k r c = zvis t2 k r c
  | 0, _, _, _, _, _ => rfl
  | k + 1, r, c, hk, hr, hc => by
    rw [show ((k + 1 : Nat) : Int) = (k : Int) + 1 by omega] at hr hc ⊢
    have hr2 := zp2_h (by omega) hr
    have hc2 := zp2_h (by omega) hc
    rw [zvis_d t r c (by omega), zvis_d t2 r c (by omega), zSim.v h k _ _ (by omega) hr2 hc2]
    cases hv : zvis t2 k (r / 2) (c / 2) with
    | false => rfl
    | true => rw [h k _ _ (by omega) hr2 hc2 hv]
theorem zSim.vi {t t2 : Int → Int} (h : zSim t t2) {d r c : Int} (hd : 0 ≤ d ∧ d ≤ 3) (hr : 0 ≤ r ∧ r < zp2 d) (hc : 0 ≤ c ∧ c < zp2 d) : zvis t d r c = zvis t2 d r c := by
  obtain ⟨k, rfl⟩ : ∃ k : Nat, d = k := ⟨d.toNat, by omega⟩
  exact h.v k r c (by omega) hr hc
theorem zSim.symm {t t2 : Int → Int} (h : zSim t t2) : zSim t2 t := fun d r c hd hr hc hv => by
  rw [h.vi hd hr hc] at hv
  exact (h d r c hd hr hc hv).symm
theorem zSim.rf (t : Int → Int) : zSim t t := fun _ _ _ _ _ _ _ => rfl
theorem zSim.of {t t2 : Int → Int} (h : ∀ k, 0 ≤ k → k < 85 → t k = t2 k) : zSim t t2 := fun d r c hd hr hc _ => by
  have hz := zmn_in hd hr hc
  exact h _ hz.1 hz.2
theorem zSim.trans {t t2 t3 : Int → Int} (h : zSim t t2) (h2 : zSim t2 t3) : zSim t t3 := fun d r c hd hr hc hv => by
  have e := h2 d r c hd hr hc hv
  rw [← h2.vi hd hr hc] at hv
  exact (h d r c hd hr hc hv).trans e
theorem zSim.room {t t2 : Int → Int} (h : zSim t t2) : zrmF t 0 0 0 = zrmF t2 0 0 0 := by
  rw [zrmF_VS, zrmF_VS]
  refine zVS_cg (fun d r c hd hr hc => ?_) 3 0 0 0 (by decide) (by decide) (by decide) (by decide)
  unfold zFr
  rw [h.vi hd hr hc]
  cases hv : zvis t2 d r c with
  | false => rfl
  | true => rw [h d r c hd hr hc hv]
theorem zSim.Vl {t t2 : Int → Int} (h : zSim t t2) (hv : zVl t) : zVl t2 := fun r c hr hc h1 => by
  rw [← h 3 r c (by decide) hr hc h1]
  rw [← h.vi (by decide) hr hc] at h1
  exact hv r c hr hc h1
/-- how many blocks are of a sort -/
def zFc (t : Int → Int) (s d r c : Int) : Int := if zvis t d r c = true ∧ t (zmn d r c) = s then 1 else 0
theorem zFc_0 {t : Int → Int} {s : Int} : ∀ d r c, zvis t d r c = false → zFc t s d r c = 0 := fun d r c h => if_neg (fun z => by rw [h] at z; cases z.1)
theorem zcnt_VS {t : Int → Int} (s : Int) : ∀ (g : Nat) (d r c : Int), d = 3 - g → 0 ≤ d → (0 ≤ r ∧ r < zp2 d) → (0 ≤ c ∧ c < zp2 d) → zvis t d r c = true → zcnt t s g (r * zsz d) (c * zsz d) = zVS (zFc t s) d r c
  | 0, d, r, c, e, hd, hr, hc, hv => by
    rw [show d = 3 by omega] at hr hc hv ⊢
    rw [zVS_3]
    show (if t (zno 3 (r * zsz 3) (c * zsz 3)) = s then (1 : Int) else 0) = _
    unfold zFc
    rw [zno_b (by decide)]
    by_cases q : t (zmn 3 r c) = s
    · rw [if_pos q, if_pos ⟨hv, q⟩]
    · rw [if_neg q, if_neg (fun z => q z.2)]
  | g + 1, d, r, c, e, hd, hr, hc, hv => by
    have e2 : (2 - g : Int) = d := by omega
    have e3 : (3 - g : Int) = d + 1 := by omega
    have h2 : zsz d = 2 * zsz (d + 1) := by
      have h3 : d = 0 ∨ d = 1 ∨ d = 2 := by omega
      rcases h3 with rfl | rfl | rfl <;> decide
    rw [zVS_s _ r c (by omega)]
    show (if t (zno (2 - g) (r * zsz d) (c * zsz d)) = s then (1 : Int) else 0) + (if t (zno (2 - g) (r * zsz d) (c * zsz d)) = 3 then zsm (fun p => zcnt t s g (r * zsz d + p / 2 * zsz (3 - g)) (c * zsz d + p % 2 * zsz (3 - g))) 4 else 0) = _
    rw [e2, e3, zno_b (by omega)]
    have hF : zFc t s d r c = if t (zmn d r c) = s then 1 else 0 := by
      unfold zFc
      by_cases q : t (zmn d r c) = s
      · rw [if_pos q, if_pos ⟨hv, q⟩]
      · rw [if_neg q, if_neg (fun z => q z.2)]
    rw [hF]
    congr 1
    by_cases h3 : t (zmn d r c) = 3
    · rw [if_pos h3]
      refine zsm_cg 4 (fun q hq => ?_)
      have q1 := zpq (k := q) (d := d) (by omega) hr (by omega)
      have q2 := zpq (k := q) (d := d) (by omega) hc (by omega)
      have ih := zcnt_VS (t := t) s g (d + 1) _ _ (by omega) (by omega) q1.1 q2.2 (by rw [zvis_s t (by omega) (by omega), hv, h3]; rfl)
      rw [← ih, h2]
      congr 1
      · rw [Int.add_mul, ← Int.mul_assoc, Int.mul_comm r 2]
      · rw [Int.add_mul, ← Int.mul_assoc, Int.mul_comm c 2]
    · rw [if_neg h3, zsm_z 4 (fun q hq => ?_)]
      refine zVS_0 (t := t) zFc_0 g (d + 1) _ _ (by omega) (by omega) ?_
      rw [zvis_s t (by omega) (by omega), decide_eq_false h3, Bool.and_false]
theorem zobI_c (t : Int → Int) {w : Int} (hw : w ≠ 1) (d N n : Int) : ∀ k : Nat, zobI t w d N n k = n + zsm (fun k => zFc t (w - 2) d (k / N) (k % N)) k
  | 0 => by
    show n = n + 0
    omega
  | k + 1 => by
    have ih := zobI_c t hw d N n k
    show zob t w (zobI t w d N n k) d (k / N) (k % N) = n + (zsm (fun k => zFc t (w - 2) d (k / N) (k % N)) k + zFc t (w - 2) d (k / N) (k % N))
    rw [ih]
    unfold zob zFc
    rw [if_neg hw]
    omega
theorem zobF_c (t : Int → Int) {w : Int} (hw : w ≠ 1) : zobF t w 4 = zVS (zFc t (w - 2)) 0 0 0 := by
  have key : ∀ k : Nat, k ≤ 4 → zobF t w k = zsm (zVI (zFc t (w - 2)) 0 0 0) k := by
    intro k
    induction k with
    | zero => exact fun _ => rfl
    | succ k ih =>
      intro hk
      show zobI t w k (zp2 k) (zobF t w k) (zp2 k * zp2 k).toNat = zsm (zVI (zFc t (w - 2)) 0 0 0) k + zVI (zFc t (w - 2)) 0 0 0 k
      rw [zobI_c t hw, ih (by omega)]
      congr 1
      unfold zVI
      refine zsm_cg _ (fun j hj => ?_)
      rw [show (0 : Int) + (k : Int) = k by omega, show (0 : Int) * zp2 k + (j : Int) / zp2 k = (j : Int) / zp2 k by omega, show (0 : Int) * zp2 k + (j : Int) % zp2 k = (j : Int) % zp2 k by omega]
  exact key 4 (by decide)
theorem zSim.cnt {t t2 : Int → Int} (h : zSim t t2) {w : Int} (hw : w ≠ 1) : zcnt t (w - 2) 3 0 0 = zobF t2 w 4 := by
  have e := zcnt_VS (t := t) (w - 2) 3 0 0 0 (by decide) (by decide) (by decide) (by decide) rfl
  rw [show (0 : Int) * zsz 0 = 0 from rfl] at e
  rw [e, zobF_c t2 hw]
  refine zVS_cg (fun d r c hd hr hc => ?_) 3 0 0 0 (by decide) (by decide) (by decide) (by decide)
  unfold zFc
  rw [h.vi hd hr hc]
  cases hv : zvis t2 d r c with
  | false => rw [if_neg (fun z => by cases z.1), if_neg (fun z => by cases z.1)]
  | true => rw [h d r c hd hr hc hv]
/-- the path to an entry -/
theorem zSim.pt {t t2 : Int → Int} (h : zSim t t2) {row col : Int} (hr : 0 ≤ row ∧ row < 16) (hc : 0 ≤ col ∧ col < 16) : t (zno 0 row col) = t2 (zno 0 row col) ∧ (t2 (zno 0 row col) = 3 → t (zno 1 row col) = t2 (zno 1 row col) ∧ (t2 (zno 1 row col) = 3 → t (zno 2 row col) = t2 (zno 2 row col) ∧ (t2 (zno 2 row col) = 3 → t (zno 3 row col) = t2 (zno 3 row col)))) := by
  have e0 : ∀ k : Int, zno k row col = zmn k (row / zsz k) (col / zsz k) := fun k => rfl
  have q : ∀ k : Int, 0 ≤ k ∧ k ≤ 3 → (0 ≤ row / zsz k ∧ row / zsz k < zp2 k) ∧ 0 ≤ col / zsz k ∧ col / zsz k < zp2 k := fun k hk => ⟨zdvs hk hr, zdvs hk hc⟩
  have v0 : zvis t2 0 (row / zsz 0) (col / zsz 0) = true := rfl
  have d1 : ∀ x : Int, x / zsz 1 / 2 = x / zsz 0 := fun x => by
    show x / 8 / 2 = x / 16
    omega
  have d2 : ∀ x : Int, x / zsz 2 / 2 = x / zsz 1 := fun x => by
    show x / 4 / 2 = x / 8
    omega
  have d3 : ∀ x : Int, x / zsz 3 / 2 = x / zsz 2 := fun x => by
    show x / 2 / 2 = x / 4
    omega
  refine ⟨h 0 _ _ (by decide) (q 0 (by decide)).1 (q 0 (by decide)).2 v0, fun c0 => ?_⟩
  have v1 : zvis t2 1 (row / zsz 1) (col / zsz 1) = true := by
    rw [show (1 : Int) = 0 + 1 from rfl, zvis_d t2 _ _ (by decide), show (0 : Int) + 1 = 1 from rfl, d1, d1, v0]
    exact decide_eq_true c0
  refine ⟨h 1 _ _ (by decide) (q 1 (by decide)).1 (q 1 (by decide)).2 v1, fun c1 => ?_⟩
  have v2 : zvis t2 2 (row / zsz 2) (col / zsz 2) = true := by
    rw [show (2 : Int) = 1 + 1 from rfl, zvis_d t2 _ _ (by decide), show (1 : Int) + 1 = 2 from rfl, d2, d2, v1]
    exact decide_eq_true c1
  refine ⟨h 2 _ _ (by decide) (q 2 (by decide)).1 (q 2 (by decide)).2 v2, fun c2 => ?_⟩
  have v3 : zvis t2 3 (row / zsz 3) (col / zsz 3) = true := by
    rw [show (3 : Int) = 2 + 1 from rfl, zvis_d t2 _ _ (by decide), show (2 : Int) + 1 = 3 from rfl, d3, d3, v2]
    exact decide_eq_true c2
  exact h 3 _ _ (by decide) (q 3 (by decide)).1 (q 3 (by decide)).2 v3
theorem zSim.dp {t t2 : Int → Int} (h : zSim t t2) {row col : Int} (hr : 0 ≤ row ∧ row < 16) (hc : 0 ≤ col ∧ col < 16) : zdp t row col = zdp t2 row col ∧ t (zno (zdp t2 row col) row col) = t2 (zno (zdp t2 row col) row col) := by
  obtain ⟨h0, h1⟩ := h.pt hr hc
  unfold zdp
  by_cases c0 : t2 (zno 0 row col) = 3
  · obtain ⟨h1, h2⟩ := h1 c0
    rw [h0, if_pos c0, if_pos c0]
    by_cases c1 : t2 (zno 1 row col) = 3
    · obtain ⟨h2, h3⟩ := h2 c1
      rw [h1, if_pos c1, if_pos c1]
      by_cases c2 : t2 (zno 2 row col) = 3
      · have h3 := h3 c2
        rw [h2, if_pos c2]
        exact ⟨rfl, h3⟩
      · rw [h2, if_neg c2]
        exact ⟨rfl, h2⟩
    · rw [h1, if_neg c1, if_neg c1]
      exact ⟨rfl, h1⟩
  · rw [h0, if_neg c0, if_neg c0]
    exact ⟨rfl, h0⟩
