/-- EMPTY blocks have no entries -/
def zEz (e t : Int → Int) : Prop := ∀ d r c, (0 ≤ d ∧ d ≤ 3) → (0 ≤ r ∧ r < zp2 d) → (0 ≤ c ∧ c < zp2 d) → zvis t d r c = true → t (zmn d r c) = 0 → zallz e (r * zsz d) (c * zsz d) (zsz d)
/-- one matrix of both -/
def zMm (e t e2 t2 : Int → Int) : Prop := zEe e e2 ∧ zSim t t2 ∧ zVl t2 ∧ zEz e2 t2
/-- the class's state and the model's -/
def zRl (X : zSV) (S : Int → Int) : Prop := (∀ m, 0 ≤ m ∧ m < 4 → zMm (X.1 m) (X.2.1 m) (zsE S m) (zsT S m)) ∧ X.2.2 = S 1364 ∧ isSo S ∧ zEn S
theorem zEz.cg {e t e2 t2 : Int → Int} (h : zEz e t) (he : zEe e e2) (ht : zSim t t2) : zEz e2 t2 := fun d r c hd hr hc hv h0 => by
  have h1 := ht d r c hd hr hc hv
  rw [← ht.vi hd hr hc] at hv
  have b1 := zbl hd hr
  have b2 := zbl hd hc
  exact he.az (by omega) (by omega) (h d r c hd hr hc hv (h1.trans h0))
theorem zMm.cg {e t e2 t2 e3 t3 : Int → Int} (h : zMm e t e2 t2) (he : zEe e2 e3) (ht : zSim t2 t3) : zMm e t e3 t3 := by
  obtain ⟨h1, h2, h3, h4⟩ := h
  exact ⟨fun j j1 j2 => (h1 j j1 j2).trans (he j j1 j2), h2.trans ht, ht.Vl h3, h4.cg he ht⟩
theorem isSo.cg {S S2 : Int → Int} (h : isSo S) (hS : ∀ k, 0 ≤ k → k < 1365 → S2 k = S k) : isSo S2 := fun m k h1 h2 h3 h4 => by
  show 0 ≤ S2 (341 * m + k) ∧ S2 (341 * m + k) ≤ 3
  rw [hS _ (by omega) (by omega)]
  exact h m k h1 h2 h3 h4
theorem zEn.cg {S S2 : Int → Int} (h : zEn S) (hS : ∀ k, 0 ≤ k → k < 1365 → S2 k = S k) : zEn S2 := fun m hm j h1 h2 => by
  show -1000000 ≤ S2 (341 * m + 85 + j) ∧ S2 (341 * m + 85 + j) ≤ 1000000
  rw [hS _ (by omega) (by omega)]
  exact h m hm j h1 h2
theorem zRl.cg {X : zSV} {S S2 : Int → Int} (h : zRl X S) (hS : ∀ k, 0 ≤ k → k < 1365 → S2 k = S k) : zRl X S2 := by
  obtain ⟨h1, h2, h3, h4⟩ := h
  refine ⟨fun m hm => (h1 m hm).cg (fun j j1 j2 => ?_) (zSim.of (fun k k1 k2 => ?_)), ?_, h3.cg hS, h4.cg hS⟩
  · exact (hS _ (by omega) (by omega)).symm
  · exact (hS _ (by omega) (by omega)).symm
  · rw [hS _ (by decide) (by decide)]
    exact h2
/-- behind a change of one matrix -/
theorem zRl.ch {X : zSV} {S S2 : Int → Int} (h : zRl X S) {m : Int} (hm : 0 ≤ m ∧ m < 4) {e t : Int → Int} (ho : ∀ m2, (0 ≤ m2 ∧ m2 < 4) → m2 ≠ m → (∀ j, 0 ≤ j → j < 256 → zsE S2 m2 j = zsE S m2 j) ∧ ∀ k, 0 ≤ k → k < 85 → zsT S2 m2 k = zsT S m2 k) (hc : S2 1364 = S 1364 + 1) (hn : zMm e t (zsE S2 m) (zsT S2 m)) (hs : ∀ k, 0 ≤ k → k < 85 → 0 ≤ zsT S2 m k ∧ zsT S2 m k ≤ 3) (hb : zBe (zsE S2 m)) : zRl (zsm1 (zch X (X.2.2 + 1)) m e t) S2 := by
  obtain ⟨h1, h2, h3, h4⟩ := h
  refine ⟨fun m2 hm2 => ?_, ?_, fun m2 k q1 q2 q3 q4 => ?_, fun m2 hm2 j j1 j2 => ?_⟩
  · by_cases q : m2 = m
    · subst q
      show zMm (if m2 = m2 then e else X.1 m2) (if m2 = m2 then t else X.2.1 m2) _ _
      rw [if_pos rfl, if_pos rfl]
      exact hn
    · show zMm (if m2 = m then e else X.1 m2) (if m2 = m then t else X.2.1 m2) _ _
      rw [if_neg q, if_neg q]
      have ho := ho m2 hm2 q
      exact (h1 m2 hm2).cg (fun j j1 j2 => (ho.1 j j1 j2).symm) (zSim.of (fun k k1 k2 => (ho.2 k k1 k2).symm))
  · show X.2.2 + 1 = _
    rw [hc, h2]
  · by_cases q : m2 = m
    · subst q
      exact hs k q3 q4
    · rw [(ho m2 ⟨q1, q2⟩ q).2 k q3 q4]
      exact h3 m2 k q1 q2 q3 q4
  · by_cases q : m2 = m
    · subst q
      exact hb j j1 j2
    · rw [(ho m2 hm2 q).1 j j1 j2]
      exact h4 m2 hm2 j j1 j2
/-- a sort that is not CUT -/
theorem zSim.u {t t2 : Int → Int} (h : zSim t t2) (k : Int) {v : Int} (hv : v ≠ 3) : zSim (zu t k v) (zu t2 k v) := fun d r c hd hr hc h1 => by
  have h2 := zvis_mono (t := t2) (t2 := zu t2 k v) (fun x _ _ hx => by
    unfold zu at hx
    split at hx
    · exact absurd hx hv
    · exact hx) hd hr hc h1
  unfold zu
  split
  · rfl
  · exact h d r c hd hr hc h2
theorem zvis_u {t : Int → Int} {k v : Int} (hv : v ≠ 3) {d r c : Int} (hd : 0 ≤ d ∧ d ≤ 3) (hr : 0 ≤ r ∧ r < zp2 d) (hc : 0 ≤ c ∧ c < zp2 d) (h1 : zvis (zu t k v) d r c = true) : zvis t d r c = true :=
  zvis_mono (t := t) (t2 := zu t k v) (fun x _ _ hx => by
    unfold zu at hx
    split at hx
    · exact absurd hx hv
    · exact hx) hd hr hc h1
theorem zVl.u {t : Int → Int} (h : zVl t) (k : Int) {v : Int} (hv : v ≠ 3) : zVl (zu t k v) := h.mono (fun x _ _ hx => by
  unfold zu at hx
  split at hx
  · exact absurd hx hv
  · exact hx)
/-- the entries of the other matrices stay -/
theorem zcm_rl {X : zSV} {S : Int → Int} (h : zRl X S) {m q : Int} (hm : 0 ≤ m ∧ m < 4) (hq : 0 ≤ q ∧ q < 4) : zRl (zsm1 (zch X (X.2.2 + 1)) m (X.1 q) (X.2.1 q)) (zcm (zcn S) m q 341) := by
  have e1 : ∀ k, 0 ≤ k → k < 341 → zcm (zcn S) m q 341 (341 * m + k) = S (341 * q + k) := fun k k1 k2 => by
    unfold zcm
    rw [if_pos (by omega), show 341 * m + k - 341 * m + 341 * q = 341 * q + k by omega]
    unfold zcn zu
    rw [if_neg (by omega)]
  have e2 : ∀ m2, (0 ≤ m2 ∧ m2 < 4) → m2 ≠ m → ∀ k, 0 ≤ k → k < 341 → zcm (zcn S) m q 341 (341 * m2 + k) = S (341 * m2 + k) := fun m2 hm2 hne k k1 k2 => by
    unfold zcm
    rw [if_neg (by omega)]
    unfold zcn zu
    rw [if_neg (by omega)]
  have hE : ∀ j, 0 ≤ j → j < 256 → zsE (zcm (zcn S) m q 341) m j = zsE S q j := fun j j1 j2 => by
    unfold zsE
    rw [Int.add_assoc, e1 _ (by omega) (by omega), Int.add_assoc]
  have hT : ∀ k, 0 ≤ k → k < 85 → zsT (zcm (zcn S) m q 341) m k = zsT S q k := fun k k1 k2 => e1 k k1 (by omega)
  refine h.ch hm (fun m2 hm2 hne => ⟨fun j j1 j2 => ?_, fun k k1 k2 => e2 m2 hm2 hne k k1 (by omega)⟩) ?_ ?_ (fun k k1 k2 => ?_) (fun j j1 j2 => ?_)
  · unfold zsE
    rw [Int.add_assoc, e2 m2 hm2 hne _ (by omega) (by omega)]
  · unfold zcm
    rw [if_neg (by omega)]
    unfold zcn zu
    rw [if_pos rfl]
  · exact (h.1 q hq).cg (fun j j1 j2 => (hE j j1 j2).symm) (zSim.of (fun k k1 k2 => (hT k k1 k2).symm))
  · rw [hT k k1 k2]
    exact h.2.2.1 q k hq.1 hq.2 k1 k2
  · rw [hE j j1 j2]
    exact h.2.2.2 q hq j j1 j2
/-- which blocks have an entry -/
theorem zblk {d r c row col : Int} (hd : 0 ≤ d ∧ d ≤ 3) (h1 : r * zsz d ≤ row ∧ row < r * zsz d + zsz d) (h2 : c * zsz d ≤ col ∧ col < c * zsz d + zsz d) : r = row / zsz d ∧ c = col / zsz d := by
  rcases zsz_v hd with ⟨-, q⟩ | ⟨-, q⟩ | ⟨-, q⟩ | ⟨-, q⟩ <;> rw [q] at h1 h2 ⊢ <;> omega
/-- the block of an entry that isn't cut is the deepest one there -/
theorem zvis_dp {t : Int → Int} {row col d : Int} (hd : 0 ≤ d ∧ d ≤ 3) (hr : 0 ≤ row ∧ row < 16) (hc : 0 ≤ col ∧ col < 16) (hv : zvis t d (row / zsz d) (col / zsz d) = true) : d ≤ zdp t row col ∧ (d < zdp t row col → t (zno d row col) = 3) := by
  have key : ∀ a : Nat, (a : Int) < d → t (zno a row col) = 3 := by
    intro a ha
    have h1 := zvk_le (k := d.toNat) hv (a := a) (by omega)
    have e : ∀ x : Int, 0 ≤ x → x / zsz d / zp2 (d - a) = x / zsz a := by
      intro x hx
      have h3 : d = 1 ∨ d = 2 ∨ d = 3 := by omega
      have h4 : a = 0 ∨ a = 1 ∨ a = 2 := by omega
      rcases h3 with rfl | rfl | rfl <;> rcases h4 with rfl | rfl | rfl <;> simp [zsz, zp2] at ha ⊢ <;> omega
    rw [e row hr.1, e col hc.1] at h1
    exact h1
  refine ⟨?_, fun hlt => ?_⟩
  · have h3 : d = 0 ∨ d = 1 ∨ d = 2 ∨ d = 3 := by omega
    unfold zdp
    rcases h3 with rfl | rfl | rfl | rfl
    · split
      · split
        · split <;> decide
        · decide
      · decide
    · rw [if_pos (show t (zno 0 _ _) = 3 from key 0 (by decide))]
      split
      · split <;> decide
      · decide
    · rw [if_pos (show t (zno 0 _ _) = 3 from key 0 (by decide)), if_pos (show t (zno 1 _ _) = 3 from key 1 (by decide))]
      split <;> decide
    · rw [if_pos (show t (zno 0 _ _) = 3 from key 0 (by decide)), if_pos (show t (zno 1 _ _) = 3 from key 1 (by decide)), if_pos (show t (zno 2 _ _) = 3 from key 2 (by decide))]
      decide
  · have h5 := zdp_up t row col d.toNat (by omega)
    rw [show ((d.toNat : Nat) : Int) = d by omega] at h5
    exact h5
