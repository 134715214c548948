/-- a change is counted, and the state before it kept -/
def zcn (S : Int → Int) : Int → Int := zu S 1364 (S 1364 + 1)
def zM4 (σ : zS) (O : zC) (S U : Int → Int) : zS := zsu (zsu (zsu σ 148 (zA 8190 U)) 145 O) 146 (zA 1365 S)
theorem zM4_s (σ : zS) (O : zC) (S U T : Int → Int) : zsu (zM4 σ O S U) 146 (zA 1365 T) = zM4 σ O T U := zsu_u _ _ _ _
theorem zM4_o (σ : zS) (O : zC) (S U : Int → Int) {k : Int} (h : k ≠ 145 ∧ k ≠ 146 ∧ k ≠ 148) : zM4 σ O S U k = σ k := by
  unfold zM4
  rw [zsu_n _ _ h.2.1, zsu_n _ _ h.1, zsu_n _ _ h.2.2]
theorem zM4_m (σ : zS) (O : zC) (S U : Int → Int) : zM4 σ O S U 145 = O := by
  unfold zM4
  rw [zsu_n _ _ (by decide), zsu_s]
theorem zM4_U (σ : zS) (O : zC) (S U : Int → Int) : zM4 σ O S U 148 = zA 8190 U := by
  unfold zM4
  rw [zsu_n _ _ (by decide), zsu_n _ _ (by decide), zsu_s]
theorem zM4_mo {σ : zS} {n : Nat} {S U : Int → Int} {um L p lv br bc : Int} {wl : Bool} (hn : 144 ≤ n) : isMo (zM4 σ (zMO um L p wl lv br bc) S U) n S :=
  ⟨⟨um, L, p, wl, lv, br, bc, zM4_m _ _ _ _⟩, zsu_s _ _ _, hn⟩
theorem zsT_cn (S : Int → Int) {m k : Int} (hm : 0 ≤ m ∧ m < 4) (hk : 0 ≤ k ∧ k < 85) : zsT (zcn S) m k = zsT S m k := by
  unfold zsT zcn zu
  rw [if_neg (by omega)]
theorem zsE_cn (S : Int → Int) {m j : Int} (hm : 0 ≤ m ∧ m < 4) (hj : 0 ≤ j ∧ j < 256) : zsE (zcn S) m j = zsE S m j := by
  unfold zsE zcn zu
  rw [if_neg (by omega)]
theorem isSo.cn {S : Int → Int} (h : isSo S) : isSo (zcn S) := fun m k h1 h2 h3 h4 => by
  rw [zsT_cn S ⟨h1, h2⟩ ⟨h3, h4⟩]
  exact h m k h1 h2 h3 h4
theorem zEn.cn {S : Int → Int} (h : zEn S) : zEn (zcn S) := fun m hm j h1 h2 => by
  rw [zsE_cn S hm ⟨h1, h2⟩]
  exact h m hm j h1 h2
theorem zVl.cn {S : Int → Int} {m : Int} (hm : 0 ≤ m ∧ m < 4) (h : zVl (zsT S m)) : zVl (zsT (zcn S) m) := h.mono (fun x h1 h2 h3 => by
  rw [zsT_cn S hm ⟨h1, h2⟩] at h3
  exact h3)
theorem zmct_so {S : Int → Int} (h : isSo S) {m d r c : Int} (hm : 0 ≤ m ∧ m < 4) (hd : 0 ≤ d ∧ d ≤ 2) (hr : 0 ≤ r ∧ r < zp2 d) (hc : 0 ≤ c ∧ c < zp2 d) : isSo (zmct S m d r c) := by
  have hz := zmn_in (by omega) hr hc
  have hs := h.m hm (by omega) hr hc
  unfold zmct
  split
  · exact h
  · have key : ∀ k : Nat, k ≤ 4 → isSo (zfo (fun T k => zu T (341 * m + zmn (d + 1) (2 * r + k / 2) (2 * c + k % 2)) (zsT S m (zmn d r c))) (zu S (341 * m + zmn d r c) 3) k) := by
      intro k
      induction k with
      | zero => exact fun _ => h.t hm hz (by decide)
      | succ k ih =>
        intro hk
        have q1 := zpq (k := k) hd hr (by omega)
        have q2 := zpq (k := k) hd hc (by omega)
        have q3 := zmn_in (d := d + 1) (by omega) q1.1 q2.2
        exact (ih (by omega)).t hm q3 hs
    exact key 4 (by decide)
theorem zmct_en {S : Int → Int} (h : zEn S) {m d r c : Int} (hm : 0 ≤ m ∧ m < 4) (hd : 0 ≤ d ∧ d ≤ 2) (hr : 0 ≤ r ∧ r < zp2 d) (hc : 0 ≤ c ∧ c < zp2 d) : zEn (zmct S m d r c) := by
  have hz := zmn_in (by omega) hr hc
  unfold zmct
  split
  · exact h
  · have key : ∀ k : Nat, k ≤ 4 → zEn (zfo (fun T k => zu T (341 * m + zmn (d + 1) (2 * r + k / 2) (2 * c + k % 2)) (zsT S m (zmn d r c))) (zu S (341 * m + zmn d r c) 3) k) := by
      intro k
      induction k with
      | zero => exact fun _ => h.t _ hm hz
      | succ k ih =>
        intro hk
        have q1 := zpq (k := k) hd hr (by omega)
        have q2 := zpq (k := k) hd hc (by omega)
        have q3 := zmn_in (d := d + 1) (by omega) q1.1 q2.2
        exact (ih (by omega)).t _ hm q3
    exact key 4 (by decide)
theorem zlv_ok {S : Int → Int} {m d : Int} (h : okM m S) (hm : 0 ≤ m ∧ m < 4) (hd : 0 ≤ d ∧ d ≤ 3) : ∀ k : Nat, k ≤ (zp2 d * zp2 d).toNat → okM m (zlv m d (zp2 d) S k)
  | 0, _ => h
  | k + 1, hk => by
    have ih := zlv_ok h hm hd k (by omega)
    obtain ⟨N, hN, hN2⟩ := zp2N hd
    have hk2 : k < N * N := by
      rw [hN, show ((N : Int) * N).toNat = N * N by rw [← Int.natCast_mul]; rfl] at hk
      omega
    have hq := zdm hk2
    exact zlvs_ok ih hm hd (by rw [hN]; exact hq.1) (by rw [hN]; exact hq.2)
theorem zsh_ok {S : Int → Int} {m : Int} (hm : 0 ≤ m ∧ m < 4) (h : okM m S) : ∀ j : Nat, j ≤ 4 → okM m (zsh m S j)
  | 0, _ => h
  | j + 1, hj => zlv_ok (zsh_ok hm h j (by omega)) hm (by omega) _ (Nat.le_refl _)
def zets (m row col : Int) (S : Int → Int) : Nat → Int → Int := zfo (fun T j => zmct T m j (row / zsz j) (col / zsz j)) S
def zet (S : Int → Int) (m row col : Int) : Int → Int := zu (zets m row col S 3) (341 * m + zmn 3 (row / 2) (col / 2)) 1
theorem zets_so {S : Int → Int} (h : isSo S) (h2 : zEn S) {m row col : Int} (hm : 0 ≤ m ∧ m < 4) (hr : 0 ≤ row ∧ row < 16) (hc : 0 ≤ col ∧ col < 16) : ∀ k : Nat, k ≤ 3 → isSo (zets m row col S k) ∧ zEn (zets m row col S k)
  | 0, _ => ⟨h, h2⟩
  | k + 1, hk => by
    have ih := zets_so h h2 hm hr hc k (by omega)
    have q1 := zdvs (k := k) (by omega) hr
    have q2 := zdvs (k := k) (by omega) hc
    exact ⟨zmct_so ih.1 hm (by omega) q1 q2, zmct_en ih.2 hm (by omega) q1 q2⟩
section
variable {n : Nat} {σ : zS} {S U : Int → Int} {um L p lv br bc : Int} {wl : Bool}
/-- so much of a matrix is copied -/
def zcm (S : Int → Int) (m q k : Int) : Int → Int := fun j => if 341 * m ≤ j ∧ j < 341 * m + k then S (j - 341 * m + 341 * q) else S j
theorem zcm_0 (S : Int → Int) (m q : Int) : zcm S m q 0 = S := funext fun j => if_neg (by omega)
theorem zcm_s (S : Int → Int) {m q k : Int} (hm : (0 ≤ m ∧ m < 4)) (hq : (0 ≤ q ∧ q < 4)) (hne : m ≠ q) (hk : 0 ≤ k ∧ k < 341) : zu (zcm S m q k) (341 * m + k) (zcm S m q k (341 * q + k)) = zcm S m q (k + 1) := by
  have e : zcm S m q k (341 * q + k) = S (341 * q + k) := if_neg (by omega)
  rw [e]
  funext j
  unfold zu zcm
  by_cases c : j = 341 * m + k
  · rw [if_pos c, if_pos (by omega), show j - 341 * m + 341 * q = 341 * q + k by omega]
  · rw [if_neg c]
    by_cases c2 : 341 * m ≤ j ∧ j < 341 * m + k
    · rw [if_pos c2, if_pos (by omega)]
    · rw [if_neg c2, if_neg (by omega)]
theorem zcm_so {S : Int → Int} (h : isSo S) {m q : Int} (hm : (0 ≤ m ∧ m < 4)) (hq : (0 ≤ q ∧ q < 4)) : isSo (zcm S m q 341) := by
  intro m2 k h1 h2 h3 h4
  unfold zsT zcm
  split
  · rw [show 341 * m2 + k - 341 * m + 341 * q = 341 * q + k by omega]
    exact h q k hq.1 hq.2 h3 h4
  · exact h m2 k h1 h2 h3 h4
/-- a square gets zeros -/
def zclr (m row col z : Int) (S : Int → Int) : Nat → Int → Int := zfo (fun T k => zu T (341 * m + 85 + ((row / z * z + k / z) * 16 + (col / z * z + k % z))) 0) S
end
