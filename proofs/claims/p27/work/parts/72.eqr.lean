def zEe (e e2 : Int → Int) : Prop := ∀ j, 0 ≤ j → j < 256 → e j = e2 j
theorem zEe.m {e e2 : Int → Int} (h : zEe e e2) {i j : Int} (hi : 0 ≤ i ∧ i < 16) (hj : 0 ≤ j ∧ j < 16) : e (i * 16 + j) = e2 (i * 16 + j) := h _ (by omega) (by omega)
theorem zEe.symm {e e2 : Int → Int} (h : zEe e e2) : zEe e2 e := fun j j1 j2 => (h j j1 j2).symm
theorem zfo_cg {α : Type} {f g : α → Int → α} {a : α} : ∀ k : Nat, (∀ (x : α) (j : Nat), j < k → f x j = g x j) → zfo f a k = zfo g a k
  | 0, _ => rfl
  | k + 1, h => by
    show f (zfo f a k) k = g (zfo g a k) k
    rw [zfo_cg k (fun x j hj => h x j (by omega)), h _ k (by omega)]
theorem zEe.sm {e e2 : Int → Int} (h : zEe e e2) : zsm e 256 = zsm e2 256 := zsm_cg 256 (fun j hj => h j (by omega) (by omega))
theorem zEe.fil {e e2 : Int → Int} (h : zEe e e2) : zsm (fun j => if e j ≠ 0 then 1 else 0) 256 = zsm (fun j => if e2 j ≠ 0 then 1 else 0) 256 := zsm_cg 256 (fun j hj => by rw [h j (by omega) (by omega)])
theorem zEe.tr {e e2 : Int → Int} (h : zEe e e2) : zsm (fun k => e (k * 16 + k)) 16 = zsm (fun k => e2 (k * 16 + k)) 16 := zsm_cg 16 (fun j hj => h.m (by omega) (by omega))
theorem zEe.zr {e e2 f f2 : Int → Int} (h : zEe e e2) (h2 : zEe f f2) (x : Int) : zzr e f x 256 = zzr e2 f2 x 256 := zsm_cg 256 (fun j hj => by rw [h j (by omega) (by omega), h2 j (by omega) (by omega)])
theorem zEe.far {e e2 f f2 : Int → Int} (h : zEe e e2) (h2 : zEe f f2) : zfo (fun y k => max y (max (e k - f k) (-(e k - f k)))) 0 256 = zfo (fun y k => max y (max (e2 k - f2 k) (-(e2 k - f2 k)))) 0 256 := zfo_cg 256 (fun y j hj => by rw [h j (by omega) (by omega), h2 j (by omega) (by omega)])
theorem zEe.pr {e e2 : Int → Int} (h : zEe e e2) {row : Int} (hr : 0 ≤ row ∧ row < 16) (a b : Int) : zsm (fun k => e (row * 16 + k) * (a + b * k)) 16 = zsm (fun k => e2 (row * 16 + k) * (a + b * k)) 16 := zsm_cg 16 (fun j hj => by rw [h.m hr (show 0 ≤ (j : Int) ∧ (j : Int) < 16 by omega)])
theorem zEe.fr {e e2 : Int → Int} (h : zEe e e2) {row col q r : Int} (hr : 0 ≤ row ∧ row + q ≤ 16) (hc : 0 ≤ col ∧ col + q ≤ 16) (hz : zfr e row col q r) : zfr e2 row col q r := by
  rcases hz with ⟨h1, h2⟩ | ⟨h1, ⟨j, h2, h3⟩, h4⟩
  · exact Or.inl ⟨h1, fun i j a b c d => by rw [← h.m (by omega) (by omega)]; exact h2 i j a b c d⟩
  · exact Or.inr ⟨h1, ⟨j, h2, by rw [← h.m (by omega) (by omega)]; exact h3⟩, fun i j a b c d => by rw [← h.m (by omega) (by omega)]; exact h4 i j a b c d⟩
theorem zEe.fc {e e2 : Int → Int} (h : zEe e e2) {row col q r : Int} (hr : 0 ≤ row ∧ row + q ≤ 16) (hc : 0 ≤ col ∧ col + q ≤ 16) (hz : zfc e row col q r) : zfc e2 row col q r := by
  rcases hz with ⟨h1, h2⟩ | ⟨h1, ⟨j, h2, h3⟩, h4⟩
  · exact Or.inl ⟨h1, fun i j a b c d => by rw [← h.m (by omega) (by omega)]; exact h2 i j a b c d⟩
  · exact Or.inr ⟨h1, ⟨j, h2, by rw [← h.m (by omega) (by omega)]; exact h3⟩, fun i j a b c d => by rw [← h.m (by omega) (by omega)]; exact h4 i j a b c d⟩
theorem zEe.az {e e2 : Int → Int} (h : zEe e e2) {row col q : Int} (hr : 0 ≤ row ∧ row + q ≤ 16) (hc : 0 ≤ col ∧ col + q ≤ 16) (hz : zallz e row col q) : zallz e2 row col q := fun i j a b c d => by
  rw [← h.m (by omega) (by omega)]
  exact hz i j a b c d
theorem zEe.op {e e2 : Int → Int} (h : zEe e e2) {row col q : Int} (hr : 0 ≤ row ∧ row + q ≤ 16) (hc : 0 ≤ col ∧ col + q ≤ 16) (ha : ¬ zallz e row col q) (hz : zoneP e row col q) : zoneP e2 row col q := by
  obtain ⟨r, c, h1, h2, h3⟩ := hz
  refine ⟨r, c, h.fr hr hc h1, h.fc hr hc h2, fun i j a1 a2 a3 a4 => ?_⟩
  have k1 : row ≤ r ∧ r < row + q := by
    rcases h1 with ⟨-, z⟩ | ⟨z, -⟩
    · exact absurd z ha
    · exact z
  have k2 : col ≤ c ∧ c < col + q := by
    rcases h2 with ⟨-, z⟩ | ⟨z, -⟩
    · exact absurd z ha
    · exact z
  have h3 := h3 i j a1 a2 a3 a4
  rw [h.m (by omega) (by omega), h.m (by omega) (by omega), h.m (by omega) (by omega), h.m (by omega) (by omega)] at h3
  exact h3
theorem zEe.one {e e2 : Int → Int} (h : zEe e e2) {row col q : Int} (hr : 0 ≤ row ∧ row + q ≤ 16) (hc : 0 ≤ col ∧ col + q ≤ 16) : zone e row col q = zone e2 row col q := by
  by_cases a : zallz e row col q
  · rw [zone_2 a, zone_2 (h.az hr hc a)]
  · have a2 : ¬ zallz e2 row col q := fun z => a (h.symm.az hr hc z)
    by_cases b : zoneP e row col q
    · rw [zone_1 a b, zone_1 a2 (h.op hr hc a b)]
    · rw [zone_0 a b, zone_0 a2 (fun z => b (h.symm.op hr hc a2 z))]
/-- the best of many times -/
theorem zbt6_e {g : Int → Int} (hg : ∀ x, 0 ≤ g x) : ∀ k : Nat, (zbt6 g (k + 1)).1 = zbst g (k + 1) ∧ (zbt6 g (k + 1)).2 = g (zbst g (k + 1))
  | 0 => by
    have h0 := hg (-99)
    have e1 : zbst g 1 = -99 := by
      show (if (0 : Int) - 99 ≠ 0 ∧ g (-99) < g (0 - 99) then (0 : Int) - 99 else -99) = -99
      exact if_neg (fun z => by have := z.2; rw [show (0 : Int) - 99 = -99 from rfl] at this; omega)
    have e2 : zbt6 g 1 = (-99, g (-99)) := by
      show ((if (-1 : Int) < (if (0 : Int) - 99 = 0 then -1 else g (0 - 99)) then (0 : Int) - 99 else 0), (if (-1 : Int) < (if (0 : Int) - 99 = 0 then -1 else g (0 - 99)) then (if (0 : Int) - 99 = 0 then -1 else g (0 - 99)) else -1)) = (-99, g (-99))
      rw [if_neg (show ¬ (0 : Int) - 99 = 0 by decide), show (0 : Int) - 99 = -99 from rfl, if_pos (by omega), if_pos (by omega)]
    rw [e1, e2]
    exact ⟨rfl, rfl⟩
  | k + 1 => by
    obtain ⟨h1, h2⟩ := zbt6_e hg k
    have h0 := hg (zbst g (k + 1))
    have e1 : zbst g (k + 1 + 1) = if ((k + 1 : Nat) : Int) - 99 ≠ 0 ∧ g (zbst g (k + 1)) < g (((k + 1 : Nat) : Int) - 99) then ((k + 1 : Nat) : Int) - 99 else zbst g (k + 1) := rfl
    have e2 : zbt6 g (k + 1 + 1) = ((if (zbt6 g (k + 1)).2 < (if ((k + 1 : Nat) : Int) - 99 = 0 then -1 else g (((k + 1 : Nat) : Int) - 99)) then ((k + 1 : Nat) : Int) - 99 else (zbt6 g (k + 1)).1), (if (zbt6 g (k + 1)).2 < (if ((k + 1 : Nat) : Int) - 99 = 0 then -1 else g (((k + 1 : Nat) : Int) - 99)) then (if ((k + 1 : Nat) : Int) - 99 = 0 then -1 else g (((k + 1 : Nat) : Int) - 99)) else (zbt6 g (k + 1)).2)) := rfl
    rw [e1, e2, h1, h2]
    by_cases q : ((k + 1 : Nat) : Int) - 99 = 0
    · rw [if_pos q, if_neg (by omega), if_neg (by omega), if_neg (fun z => z.1 q)]
      exact ⟨rfl, rfl⟩
    · rw [if_neg q]
      by_cases q2 : g (zbst g (k + 1)) < g (((k + 1 : Nat) : Int) - 99)
      · rw [if_pos q2, if_pos q2, if_pos ⟨q, q2⟩]
        exact ⟨rfl, rfl⟩
      · rw [if_neg q2, if_neg q2, if_neg (fun z => q2 z.2)]
        exact ⟨rfl, rfl⟩
theorem zmos_e {e : Int → Int} (h : -1000000 ≤ e 0) : ∀ k : Nat, zmos e (k + 1) = zfo (fun m k => max m (e (1 + k))) (e 0) k
  | 0 => by
    show (if (-1000000 : Int) < e 0 then e 0 else -1000000) = e 0
    split <;> omega
  | k + 1 => by
    have ih := zmos_e h k
    show (if zmos e (k + 1) < e ((k + 1 : Nat) : Int) then e ((k + 1 : Nat) : Int) else zmos e (k + 1)) = max (zfo (fun m k => max m (e (1 + k))) (e 0) k) (e (1 + (k : Int)))
    rw [ih, show ((k + 1 : Nat) : Int) = 1 + (k : Int) by omega]
    split <;> omega
theorem zlea_e {e : Int → Int} (h : e 0 ≤ 1000000) : ∀ k : Nat, zlea e (k + 1) = zfo (fun m k => min m (e (1 + k))) (e 0) k
  | 0 => by
    show (if e 0 < (1000000 : Int) then e 0 else 1000000) = e 0
    split <;> omega
  | k + 1 => by
    have ih := zlea_e h k
    show (if e ((k + 1 : Nat) : Int) < zlea e (k + 1) then e ((k + 1 : Nat) : Int) else zlea e (k + 1)) = min (zfo (fun m k => min m (e (1 + k))) (e 0) k) (e (1 + (k : Int)))
    rw [ih, show ((k + 1 : Nat) : Int) = 1 + (k : Int) by omega]
    split <;> omega
theorem zow_iff (e : Int → Int) : ∀ k : Nat, zow e k = true ↔ ∀ a : Nat, a < k → e a = e ((a : Int) % 16 * 16 + (a : Int) / 16)
  | 0 => ⟨fun _ a ha => absurd ha (by omega), fun _ => rfl⟩
  | k + 1 => by
    have ih := zow_iff e k
    rw [zow, Bool.and_eq_true, ih, decide_eq_true_iff]
    constructor
    · intro h a ha
      by_cases q : a < k
      · exact h.1 a q
      · rw [show a = k by omega]
        exact h.2
    · intro h
      exact ⟨fun a ha => h a (by omega), h k (by omega)⟩
theorem zow_b {e e2 : Int → Int} (h : zEe e e2) {b : Bool} (hb : b = true ↔ ∀ i j : Nat, j < i → i < 16 → e ((i : Int) * 16 + j) = e ((j : Int) * 16 + i)) : b = zow e2 256 := by
  refine Bool.eq_iff_iff.mpr (hb.trans (Iff.trans ?_ (zow_iff e2 256).symm))
  constructor
  · intro h1 a ha
    rw [← h _ (by omega) (by omega), ← h _ (by omega) (by omega)]
    rcases Nat.lt_trichotomy (a % 16) (a / 16) with q | q | q
    · have := h1 (a / 16) (a % 16) q (by omega)
      rw [show ((a / 16 : Nat) : Int) * 16 + ((a % 16 : Nat) : Int) = (a : Int) by omega, show ((a % 16 : Nat) : Int) * 16 + ((a / 16 : Nat) : Int) = (a : Int) % 16 * 16 + (a : Int) / 16 by omega] at this
      exact this
    · congr 1
      omega
    · have := h1 (a % 16) (a / 16) q (by omega)
      rw [show ((a / 16 : Nat) : Int) * 16 + ((a % 16 : Nat) : Int) = (a : Int) by omega, show ((a % 16 : Nat) : Int) * 16 + ((a / 16 : Nat) : Int) = (a : Int) % 16 * 16 + (a : Int) / 16 by omega] at this
      exact this.symm
  · intro h1 i j hj hi
    have := h1 (i * 16 + j) (by omega)
    rw [← h _ (by omega) (by omega), ← h _ (by omega) (by omega), show ((i * 16 + j : Nat) : Int) % 16 * 16 + ((i * 16 + j : Nat) : Int) / 16 = (j : Int) * 16 + i by omega, show ((i * 16 + j : Nat) : Int) = (i : Int) * 16 + j by omega] at this
    exact this
