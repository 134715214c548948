/-- there is a block of this depth -/
def zAt (t : Int → Int) (d : Int) : Prop := ∃ r c, (0 ≤ r ∧ r < zp2 d) ∧ (0 ≤ c ∧ c < zp2 d) ∧ zvis t d r c = true
def zDm (t : Int → Int) (v : Int) : Prop := (0 ≤ v ∧ v ≤ 3) ∧ zAt t v ∧ ∀ d, v < d → d ≤ 3 → ¬ zAt t d
theorem zDm_one {t : Int → Int} {a b : Int} (ha : zDm t a) (hb : zDm t b) : a = b := by
  rcases Int.lt_trichotomy a b with q | q | q
  · exact absurd hb.2.1 (ha.2.2 b q hb.1.2)
  · exact q
  · exact absurd ha.2.1 (hb.2.2 a q ha.1.2)
theorem zobI_1 (t : Int → Int) (d n : Int) (N : Nat) : ∀ k : Nat, ((∀ a : Nat, a < k → zvis t d ((a : Int) / N) ((a : Int) % N) = false) → zobI t 1 d N n k = n) ∧ ((∃ a : Nat, a < k ∧ zvis t d ((a : Int) / N) ((a : Int) % N) = true) → zobI t 1 d N n k = d)
  | 0 => ⟨fun _ => rfl, fun ⟨a, ha, _⟩ => absurd ha (by omega)⟩
  | k + 1 => by
    obtain ⟨h1, h2⟩ := zobI_1 t d n N k
    have e : zobI t 1 d N n (k + 1) = if zvis t d ((k : Int) / N) ((k : Int) % N) = true then d else zobI t 1 d N n k := rfl
    rw [e]
    refine ⟨fun h => ?_, fun ⟨a, ha, hv⟩ => ?_⟩
    · rw [h k (by omega), if_neg (by decide)]
      exact h1 (fun a ha => h a (by omega))
    · by_cases q : zvis t d ((k : Int) / N) ((k : Int) % N) = true
      · rw [if_pos q]
      · rw [if_neg q]
        refine h2 ⟨a, ?_, hv⟩
        by_cases q2 : a = k
        · subst q2
          exact absurd hv q
        · omega
theorem zobF_s (t : Int → Int) (k : Nat) (hk : k ≤ 3) : (zAt t k → zobF t 1 (k + 1) = (k : Int)) ∧ (¬ zAt t k → zobF t 1 (k + 1) = zobF t 1 k) := by
  obtain ⟨N, hN, hN2⟩ := zp2N (d := (k : Int)) (by omega)
  have e : zobF t 1 (k + 1) = zobI t 1 k (zp2 k) (zobF t 1 k) (zp2 k * zp2 k).toNat := rfl
  obtain ⟨h1, h2⟩ := zobI_1 t k (zobF t 1 k) N (N * N)
  rw [e, hN, show ((N : Int) * N).toNat = N * N by rw [← Int.natCast_mul]; rfl]
  refine ⟨fun q => ?_, fun q => ?_⟩
  · obtain ⟨r, c, hr, hc, hv⟩ := q
    rw [hN] at hr hc
    obtain ⟨z, z1, z2, z3, z4⟩ := zij (q := N) hr hc
    exact h2 ⟨z, z1, by rw [z2, z3]; exact hv⟩
  · refine h1 (fun a ha => ?_)
    have hd := zdm ha
    cases hv : zvis t k ((a : Int) / N) ((a : Int) % N)
    · rfl
    · exact absurd ⟨_, _, by rw [hN]; exact hd.1, by rw [hN]; exact hd.2, hv⟩ q
theorem zAt_0 (t : Int → Int) : zAt t 0 := ⟨0, 0, by decide, by decide, rfl⟩
theorem zAt_d {t : Int → Int} {d : Int} (hd : 0 ≤ d ∧ d ≤ 2) (h : zAt t (d + 1)) : zAt t d := by
  obtain ⟨r, c, hr, hc, hv⟩ := h
  rw [zvis_d t r c hd, Bool.and_eq_true] at hv
  exact ⟨r / 2, c / 2, zp2_h hd hr, zp2_h hd hc, hv.1⟩
theorem zobF_D (t : Int → Int) : zDm t (zobF t 1 4) := by
  have a0 := zAt_0 t
  have a1 : zAt t 2 → zAt t 1 := zAt_d (d := 1) (by decide)
  have a2 : zAt t 3 → zAt t 2 := zAt_d (d := 2) (by decide)
  have e4 := zobF_s t 3 (by decide)
  have e3 := zobF_s t 2 (by decide)
  have e2 := zobF_s t 1 (by decide)
  have e1 := (zobF_s t 0 (by decide)).1 a0
  show zDm t (zobF t 1 (3 + 1))
  by_cases c3 : zAt t ((3 : Nat) : Int)
  · rw [e4.1 c3]
    exact ⟨by decide, c3, fun d h1 h2 => by omega⟩
  · rw [e4.2 c3]
    show zDm t (zobF t 1 (2 + 1))
    by_cases c2 : zAt t ((2 : Nat) : Int)
    · rw [e3.1 c2]
      refine ⟨by decide, c2, fun d h1 h2 => ?_⟩
      rw [show d = ((3 : Nat) : Int) by omega]
      exact c3
    · rw [e3.2 c2]
      show zDm t (zobF t 1 (1 + 1))
      by_cases c1 : zAt t ((1 : Nat) : Int)
      · rw [e2.1 c1]
        refine ⟨by decide, c1, fun d h1 h2 => ?_⟩
        by_cases q : d = 3
        · rw [q]
          exact c3
        · rw [show d = ((2 : Nat) : Int) by omega]
          exact c2
      · rw [e2.2 c1]
        show zDm t (zobF t 1 (0 + 1))
        rw [e1]
        refine ⟨by decide, a0, fun d h1 h2 => ?_⟩
        by_cases q : d = 3
        · rw [q]
          exact c3
        · by_cases q2 : d = 2
          · rw [q2]
            exact c2
          · rw [show d = ((1 : Nat) : Int) by omega]
            exact c1
/-- the block of an entry is there -/
theorem zvis_p {t : Int → Int} {row col : Int} : ∀ k : Nat, k ≤ 3 → (∀ a : Nat, a < k → t (zno a row col) = 3) → zvis t k (row / zsz k) (col / zsz k) = true := by
  have d1 : ∀ x : Int, x / zsz 1 / 2 = x / zsz 0 := fun x => by
    show x / 8 / 2 = x / 16
    omega
  have d2 : ∀ x : Int, x / zsz 2 / 2 = x / zsz 1 := fun x => by
    show x / 4 / 2 = x / 8
    omega
  have d3 : ∀ x : Int, x / zsz 3 / 2 = x / zsz 2 := fun x => by
    show x / 2 / 2 = x / 4
    omega
  have dk : ∀ (k : Nat) (x : Int), k ≤ 2 → x / zsz ((k : Int) + 1) / 2 = x / zsz k := fun k x hk => by
    have h3 : k = 0 ∨ k = 1 ∨ k = 2 := by omega
    rcases h3 with rfl | rfl | rfl
    · exact d1 x
    · exact d2 x
    · exact d3 x
  intro k
  induction k with
  | zero => exact fun _ _ => rfl
  | succ k ih =>
    intro hk h
    rw [show ((k + 1 : Nat) : Int) = (k : Int) + 1 by omega, zvis_d t _ _ (by omega), dk k _ (by omega), dk k _ (by omega), ih (by omega) (fun a ha => h a (by omega))]
    exact decide_eq_true (h k (by omega))
theorem zdp_up (t : Int → Int) (row col : Int) (a : Nat) (h : (a : Int) < zdp t row col) : t (zno a row col) = 3 := by
  unfold zdp at h
  split at h
  · rename_i c0
    split at h
    · rename_i c1
      split at h
      · rename_i c2
        have h3 : a = 0 ∨ a = 1 ∨ a = 2 := by omega
        rcases h3 with rfl | rfl | rfl
        · exact c0
        · exact c1
        · exact c2
      · have h3 : a = 0 ∨ a = 1 := by omega
        rcases h3 with rfl | rfl
        · exact c0
        · exact c1
    · have h3 : a = 0 := by omega
      rw [h3]
      exact c0
  · omega
theorem zvk_le {t : Int → Int} {d r c : Int} {k : Nat} (h : zvk t d r c k = true) {a : Nat} (ha : a < k) : t (zmn a (r / zp2 (d - a)) (c / zp2 (d - a))) = 3 := (zvk_iff t d r c k).mp h a ha
theorem zdp_ge {t : Int → Int} {d r c : Int} (hd : 0 ≤ d ∧ d ≤ 3) (hr : 0 ≤ r ∧ r < zp2 d) (hc : 0 ≤ c ∧ c < zp2 d) (hv : zvis t d r c = true) : d ≤ zdp t (r * zsz d) (c * zsz d) := by
  have key : ∀ a : Nat, (a : Int) < d → t (zno a (r * zsz d) (c * zsz d)) = 3 := by
    intro a ha
    have h1 := zvk_le (k := d.toNat) hv (a := a) (by omega)
    have e : ∀ x : Int, 0 ≤ x → x * zsz d / zsz a = x / zp2 (d - a) := by
      intro x hx
      have h3 : d = 1 ∨ d = 2 ∨ d = 3 := by omega
      have h4 : a = 0 ∨ a = 1 ∨ a = 2 := by omega
      rcases h3 with rfl | rfl | rfl <;> rcases h4 with rfl | rfl | rfl <;> simp [zsz, zp2] at ha ⊢ <;> omega
    rw [zmn_no, e r hr.1, e c hc.1]
    exact h1
  unfold zdp
  have h3 : d = 0 ∨ d = 1 ∨ d = 2 ∨ d = 3 := by omega
  rcases h3 with rfl | rfl | rfl | rfl
  · split
    · split
      · split <;> decide
      · decide
    · decide
  · rw [if_pos (show t (zno 0 _ _) = 3 from key 0 (by decide))]
    split
    · split <;> decide
    · decide
  · rw [if_pos (show t (zno 0 _ _) = 3 from key 0 (by decide)), if_pos (show t (zno 1 _ _) = 3 from key 1 (by decide))]
    split <;> decide
  · rw [if_pos (show t (zno 0 _ _) = 3 from key 0 (by decide)), if_pos (show t (zno 1 _ _) = 3 from key 1 (by decide)), if_pos (show t (zno 2 _ _) = 3 from key 2 (by decide))]
    decide
theorem zmx_in (g : Int → Int) : ∀ k : Nat, (∀ a : Nat, a < k → g a ≤ zfo (fun m k => max m (g k)) 0 k) ∧ (zfo (fun m k => max m (g k)) 0 k = 0 ∨ ∃ a : Nat, a < k ∧ zfo (fun m k => max m (g k)) 0 k = g a)
  | 0 => ⟨fun a ha => absurd ha (by omega), Or.inl rfl⟩
  | k + 1 => by
    obtain ⟨h1, h2⟩ := zmx_in g k
    have e : zfo (fun m k => max m (g k)) 0 (k + 1) = max (zfo (fun m k => max m (g k)) 0 k) (g k) := rfl
    rw [e]
    refine ⟨fun a ha => ?_, ?_⟩
    · by_cases q : a < k
      · have := h1 a q
        omega
      · rw [show a = k by omega]
        omega
    · by_cases q : zfo (fun m k => max m (g k)) 0 k ≤ g k
      · exact Or.inr ⟨k, by omega, by omega⟩
      · rcases h2 with h2 | ⟨a, h3, h4⟩
        · exact Or.inl (by omega)
        · exact Or.inr ⟨a, by omega, by omega⟩
theorem zdeep_D (t : Int → Int) : zDm t (zfo (fun m k => max m (zdp t (k / 16) (k % 16))) 0 256) := by
  obtain ⟨h1, h2⟩ := zmx_in (fun k => zdp t (k / 16) (k % 16)) 256
  generalize zfo (fun m k => max m (zdp t (k / 16) (k % 16))) 0 256 = v at *
  have hup : ∀ d, d ≤ 3 → 0 ≤ d → zAt t d → d ≤ v := by
    intro d hd hd0 ⟨r, c, hr, hc, hv⟩
    have h3 := zdp_ge ⟨hd0, hd⟩ hr hc hv
    have b1 := zbl ⟨hd0, hd⟩ hr
    have b2 := zbl ⟨hd0, hd⟩ hc
    have hz := zsz_v ⟨hd0, hd⟩
    have h4 := h1 (r * zsz d * 16 + c * zsz d).toNat (by omega)
    rw [show (((r * zsz d * 16 + c * zsz d).toNat : Nat) : Int) = r * zsz d * 16 + c * zsz d by omega, show (r * zsz d * 16 + c * zsz d) / 16 = r * zsz d by omega, show (r * zsz d * 16 + c * zsz d) % 16 = c * zsz d by omega] at h4
    omega
  have hat : (0 ≤ v ∧ v ≤ 3) ∧ zAt t v := by
    rcases h2 with h2 | ⟨a, ha, h2⟩
    · rw [h2]
      exact ⟨by decide, zAt_0 t⟩
    · have h3 := zdp_in t ((a : Int) / 16) ((a : Int) % 16)
      have h2 : v = zdp t ((a : Int) / 16) ((a : Int) % 16) := h2
      rw [← h2] at h3
      refine ⟨h3, ?_⟩
      have h4 := zvis_p (t := t) (row := (a : Int) / 16) (col := (a : Int) % 16) v.toNat (by omega) (fun b hb => zdp_up t _ _ b (by omega))
      rw [show ((v.toNat : Nat) : Int) = v by omega] at h4
      exact ⟨_, _, zdvs h3 (by omega), zdvs h3 (by omega), h4⟩
  refine ⟨hat.1, hat.2, fun d h3 h4 h5 => ?_⟩
  have := hup d h4 (by omega) h5
  omega
theorem zSim.deep {t t2 : Int → Int} (h : zSim t t2) : zfo (fun m k => max m (zdp t (k / 16) (k % 16))) 0 256 = zobF t2 1 4 := by
  rw [zfo_cg (g := fun m k => max m (zdp t2 (k / 16) (k % 16))) 256 (fun x j hj => by rw [(h.dp (row := (j : Int) / 16) (col := (j : Int) % 16) (by omega) (by omega)).1])]
  exact zDm_one (zdeep_D t2) (zobF_D t2)
/-- one answer of of() -/
theorem zof_e {e t e2 t2 : Int → Int} (he : zEe e e2) (ht : zSim t t2) (hv : zVl t) (hb : zBe e2) {b : Bool} (hbb : b = true ↔ ∀ i j : Nat, j < i → i < 16 → e ((i : Int) * 16 + j) = e ((j : Int) * 16 + i)) (w : Int) : zofq e t b w = zof6 e2 t2 w := by
  unfold zofq zof6
  by_cases c0 : w = 0
  · rw [if_pos c0, if_pos c0, zroom_F hv, ht.room]
  rw [if_neg c0, if_neg c0]
  by_cases c1 : w = 1
  · subst c1
    rw [if_pos rfl, if_pos (by decide)]
    exact ht.deep
  rw [if_neg c1]
  by_cases c2 : w = 2
  · subst c2
    rw [if_pos rfl, if_pos (by decide)]
    exact ht.cnt (w := 2) (by decide)
  rw [if_neg c2]
  by_cases c3 : w = 3
  · subst c3
    rw [if_pos rfl, if_pos (by decide)]
    exact ht.cnt (w := 3) (by decide)
  rw [if_neg c3]
  by_cases c4 : w = 4
  · subst c4
    rw [if_pos rfl, if_pos (by decide)]
    exact ht.cnt (w := 4) (by decide)
  rw [if_neg c4]
  by_cases c5 : w = 5
  · subst c5
    rw [if_pos rfl, if_pos (by decide)]
    exact ht.cnt (w := 5) (by decide)
  rw [if_neg c5, if_neg (show ¬ (1 ≤ w ∧ w ≤ 5) by omega)]
  have b0 := hb 0 (by decide) (by decide)
  by_cases c6 : w = 6
  · subst c6
    rw [if_pos rfl, if_neg (by decide), if_pos (by decide)]
    exact he.fil
  rw [if_neg c6]
  by_cases c7 : w = 7
  · subst c7
    rw [if_pos rfl, if_pos rfl, he.tr]
  rw [if_neg c7, if_neg c7]
  by_cases c8 : w = 8
  · subst c8
    rw [if_pos rfl, if_pos (by decide)]
    unfold zoeq
    rw [if_neg (by decide), if_pos rfl, zmos_e b0.1 255, zfo_cg (g := fun m k => max m (e2 (1 + k))) 255 (fun x j hj => by rw [he (1 + (j : Int)) (by omega) (by omega)]), he 0 (by decide) (by decide)]
  rw [if_neg c8]
  by_cases c9 : w = 9
  · subst c9
    rw [if_pos rfl, if_pos (by decide)]
    unfold zoeq
    rw [if_neg (by decide), if_neg (by decide), if_pos rfl, zlea_e b0.2 255, zfo_cg (g := fun m k => min m (e2 (1 + k))) 255 (fun x j hj => by rw [he (1 + (j : Int)) (by omega) (by omega)]), he 0 (by decide) (by decide)]
  rw [if_neg c9]
  by_cases c10 : w = 10
  · subst c10
    rw [if_pos rfl, if_pos (by decide)]
    unfold zoeq
    rw [if_neg (by decide), if_neg (by decide), if_neg (by decide), zow_b he hbb]
  rw [if_neg c10, if_neg (by omega)]
theorem zbq_e {t t2 : Int → Int} (ht : zSim t t2) (hv : zVl t2) {row col : Int} (hr : 0 ≤ row ∧ row < 16) (hc : 0 ≤ col ∧ col < 16) (w : Int) : zbq t row col w = zbm6 t2 row col w := by
  obtain ⟨h1, h2⟩ := ht.dp hr hc
  have h3 : t2 (zno (zdp t2 row col) row col) ≠ 3 := by
    have hin := zdp_in t2 row col
    intro z
    by_cases q : zdp t2 row col = 3
    · rw [q] at z
      have hq : (3 : Int).toNat = 3 := rfl
      have h4 := zvis_p (t := t2) (row := row) (col := col) 3 (by decide) (fun b hb => zdp_up t2 _ _ b (by omega))
      exact hv _ _ (zdvs (k := 3) (by decide) hr) (zdvs (k := 3) (by decide) hc) h4 z
    · have h5 : ∀ a : Nat, (a : Int) < zdp t2 row col → t2 (zno a row col) = 3 := fun a ha => zdp_up t2 row col a ha
      have hk : ∀ k : Nat, k ≤ 2 → zdp t2 row col = k → t2 (zno k row col) = 3 → False := by
        intro k hk e z2
        have h6 : k = 0 ∨ k = 1 ∨ k = 2 := by omega
        rcases h6 with rfl | rfl | rfl
        · unfold zdp at e
          rw [if_pos (show t2 (zno 0 row col) = 3 from z2)] at e
          split at e
          · split at e <;> omega
          · omega
        · have a0 := h5 0 (by omega)
          unfold zdp at e
          rw [if_pos (show t2 (zno 0 row col) = 3 from a0), if_pos (show t2 (zno 1 row col) = 3 from z2)] at e
          split at e <;> omega
        · have a0 := h5 0 (by omega)
          have a1 := h5 1 (by omega)
          unfold zdp at e
          rw [if_pos (show t2 (zno 0 row col) = 3 from a0), if_pos (show t2 (zno 1 row col) = 3 from a1), if_pos (show t2 (zno 2 row col) = 3 from z2)] at e
          omega
      refine hk (zdp t2 row col).toNat (by omega) (by omega) ?_
      rw [show (((zdp t2 row col).toNat : Nat) : Int) = zdp t2 row col by omega]
      exact z
  unfold zbq zbm6
  rw [h1, h2]
  unfold zrm zrk
  rw [if_neg h3]
