/-! sums over the entries of a matrix, and over its blocks -/
theorem zVS_pl (F G : Int → Int → Int → Int) (d r c : Int) : zVS (fun d r c => F d r c + G d r c) d r c = zVS F d r c + zVS G d r c := by
  refine Eq.trans (zsm_cg _ (fun j _ => ?_)) (zsm_pl (zVI F d r c) (zVI G d r c) _)
  exact zsm_pl (fun k => F (d + (j : Int)) (r * zp2 j + k / zp2 j) (c * zp2 j + k % zp2 j)) (fun k => G (d + (j : Int)) (r * zp2 j + k / zp2 j) (c * zp2 j + k % zp2 j)) _
/-- of the blocks that are there and not cut -/
def zLf (t : Int → Int) (G : Int → Int → Int → Int) (d r c : Int) : Int := if zvis t d r c = true ∧ t (zmn d r c) ≠ 3 then G d r c else 0
theorem zLf_0 {t : Int → Int} {G : Int → Int → Int → Int} {d r c : Int} (h : zvis t d r c = false) : zLf t G d r c = 0 := if_neg (fun z => by rw [h] at z; cases z.1)
/-- a block that is not cut is all that counts in it -/
theorem zVS_lf {t : Int → Int} {F : Int → Int → Int → Int} (hF : ∀ d r c, zvis t d r c = false → F d r c = 0) : ∀ (g : Nat) (d r c : Int), d = 3 - g → 0 ≤ d → t (zmn d r c) ≠ 3 → zVS F d r c = F d r c
  | 0, d, r, c, e, hd, h3 => by
    rw [show d = 3 by omega, zVS_3]
  | g + 1, d, r, c, e, hd, h3 => by
    rw [zVS_s F r c (by omega), zsm_z 4 (fun q hq => ?_)]
    · omega
    · refine zVS_0 hF g (d + 1) _ _ (by omega) (by omega) ?_
      rw [zvis_s t (by omega) (by omega), decide_eq_false h3, Bool.and_false]
/-- what an entry counts: the first one of its block counts for it -/
def zcf (t : Int → Int) (G : Int → Int → Int → Int) (row col : Int) : Int := if row / zsz (zdp t row col) * zsz (zdp t row col) = row ∧ col / zsz (zdp t row col) * zsz (zdp t row col) = col then G (zdp t row col) (row / zsz (zdp t row col)) (col / zsz (zdp t row col)) else 0
theorem zdp_is {t : Int → Int} {row col d : Int} (hd : 0 ≤ d ∧ d ≤ 3) (hr : 0 ≤ row ∧ row < 16) (hc : 0 ≤ col ∧ col < 16) (hv : zvis t d (row / zsz d) (col / zsz d) = true) (hn : t (zno d row col) ≠ 3) : zdp t row col = d := by
  obtain ⟨h1, h2⟩ := zvis_dp hd hr hc hv
  have h3 : ¬ d < zdp t row col := fun q => hn (h2 q)
  omega
theorem zcf_lf {t : Int → Int} (G : Int → Int → Int → Int) {d r c : Int} {N : Nat} (hd : 0 ≤ d ∧ d ≤ 3) (hr : 0 ≤ r ∧ r < zp2 d) (hc : 0 ≤ c ∧ c < zp2 d) (hN : zsz d = N) (hv : zvis t d r c = true) (hn : t (zmn d r c) ≠ 3) : zsm (fun k => zcf t G (r * N + k / N) (c * N + k % N)) (N * N) = G d r c := by
  have hz := zsz_v hd
  have b1 := zbl hd hr
  have b2 := zbl hd hc
  rw [hN] at b1 b2
  have hN0 : 0 < N := by omega
  have key : ∀ k : Nat, k < N * N → zcf t G (r * N + (k : Int) / N) (c * N + (k : Int) % N) = if (k : Int) = 0 then G d r c else 0 := by
    intro k hk
    have k1 : (0 : Int) ≤ (k : Int) / N ∧ (k : Int) / N < N := ⟨Int.ediv_nonneg (by omega) (by omega), Int.ediv_lt_of_lt_mul (by omega) (by rw [← Int.natCast_mul]; omega)⟩
    have k2 : (0 : Int) ≤ (k : Int) % N ∧ (k : Int) % N < N := ⟨Int.emod_nonneg _ (by omega), Int.emod_lt_of_pos _ (by omega)⟩
    have e1 : (r * N + (k : Int) / N) / N = r := by
      rw [Int.add_comm, Int.add_mul_ediv_right _ _ (by omega), Int.ediv_eq_zero_of_lt k1.1 k1.2]
      omega
    have e2 : (c * N + (k : Int) % N) / N = c := by
      rw [Int.add_comm, Int.add_mul_ediv_right _ _ (by omega), Int.ediv_eq_zero_of_lt k2.1 k2.2]
      omega
    have hdp : zdp t (r * N + (k : Int) / N) (c * N + (k : Int) % N) = d := zdp_is hd (by omega) (by omega) (by rw [hN, e1, e2]; exact hv) (by rw [zmn_no, hN, e1, e2]; exact hn)
    have h7 := Int.mul_ediv_add_emod (k : Int) N
    unfold zcf
    rw [hdp, hN, e1, e2]
    by_cases q : (k : Int) = 0
    · rw [if_pos q, if_pos]
      rw [q, Int.zero_ediv, Int.zero_emod]
      omega
    · rw [if_neg q, if_neg (fun z => q ?_)]
      have h5 : (k : Int) / N = 0 := by omega
      have h6 : (k : Int) % N = 0 := by omega
      rw [h5, h6] at h7
      omega
  have hNN : N * N = 1 + (N * N - 1) := by
    have : 0 < N * N := Nat.mul_pos hN0 hN0
    omega
  refine (zsm_cg (h := fun j : Int => if j = 0 then G d r c else 0) (N * N) key).trans ?_
  rw [hNN, zsm_sp, zsm_z (N * N - 1) (fun j _ => ?_)]
  · show 0 + (if ((0 : Nat) : Int) = 0 then G d r c else 0) + 0 = G d r c
    rw [if_pos (show ((0 : Nat) : Int) = 0 from rfl)]
    omega
  · exact if_neg (by omega)
/-- the sum over the entries is the one over the blocks -/
theorem zcf_VS {t : Int → Int} (hvl : zVl t) (G : Int → Int → Int → Int) : ∀ (g : Nat) (d r c : Int) (N : Nat), d = 3 - g → 0 ≤ d → (0 ≤ r ∧ r < zp2 d) → (0 ≤ c ∧ c < zp2 d) → zsz d = N → zvis t d r c = true → zsm (fun k => zcf t G (r * N + k / N) (c * N + k % N)) (N * N) = zVS (zLf t G) d r c
  | 0, d, r, c, N, e, hd, hr, hc, hN, hv => by
    have hn : t (zmn d r c) ≠ 3 := by
      rw [show d = 3 by omega] at hr hc hv ⊢
      exact hvl r c hr hc hv
    rw [zcf_lf G (by omega) hr hc hN hv hn, zVS_lf (fun a b e h => zLf_0 h) 0 d r c e hd hn]
    exact (if_pos ⟨hv, hn⟩).symm
  | g + 1, d, r, c, N, e, hd, hr, hc, hN, hv => by
    by_cases h3 : t (zmn d r c) = 3
    · obtain ⟨n, hn, hn2⟩ := zszN (d := d + 1) (by omega)
      have h2 : zsz d = 2 * zsz (d + 1) := by
        have h3 : d = 0 ∨ d = 1 ∨ d = 2 := by omega
        rcases h3 with rfl | rfl | rfl <;> decide
      have eN : N = 2 * n := by omega
      subst eN
      rw [zVS_s _ r c (by omega), show zLf t G d r c = 0 from if_neg (fun z => z.2 h3), Int.zero_add, zsm_4 (fun i j => zcf t G (r * ((2 * n : Nat) : Int) + i) (c * ((2 * n : Nat) : Int) + j)) n]
      refine zsm_cg 4 (fun q hq => ?_)
      have q1 := zpq (k := q) (d := d) (by omega) hr (by omega)
      have q2 := zpq (k := q) (d := d) (by omega) hc (by omega)
      have ih := zcf_VS hvl G g (d + 1) _ _ n (by omega) (by omega) q1.1 q2.2 hn (by rw [zvis_s t (by omega) (by omega), hv, h3]; rfl)
      rw [← ih]
      refine zsm_cg _ (fun k _ => ?_)
      have em : ∀ x : Int, x * ((2 * n : Nat) : Int) = 2 * x * n := fun x => by
        rw [Int.natCast_mul, ← Int.mul_assoc, Int.mul_comm x]
        rfl
      rw [em, em, Int.add_mul, Int.add_mul, Int.add_assoc (2 * r * n), Int.add_assoc (2 * c * n)]
    · rw [zcf_lf G (by omega) hr hc hN hv h3, zVS_lf (fun a b e h => zLf_0 h) (g + 1) d r c e hd h3]
      exact (if_pos ⟨hv, h3⟩).symm
theorem zcf_0 {t : Int → Int} (hvl : zVl t) (G : Int → Int → Int → Int) : zsm (fun k => zcf t G (k / 16) (k % 16)) 256 = zVS (zLf t G) 0 0 0 := by
  have h := zcf_VS hvl G 3 0 0 0 16 (by decide) (by decide) (by decide) (by decide) rfl rfl
  refine Eq.trans (zsm_cg 256 (fun k _ => ?_)) h
  show zcf t G ((k : Int) / 16) ((k : Int) % 16) = zcf t G (0 * ((16 : Nat) : Int) + (k : Int) / ((16 : Nat) : Int)) (0 * ((16 : Nat) : Int) + (k : Int) % ((16 : Nat) : Int))
  rw [Int.zero_mul, Int.zero_add, Int.zero_add]
  rfl
/-- each entry stands in just one block -/
theorem zLf_sq {t : Int → Int} (hvl : zVl t) : ∀ (g : Nat) (d r c : Int), d = 3 - g → 0 ≤ d → (0 ≤ r ∧ r < zp2 d) → (0 ≤ c ∧ c < zp2 d) → zvis t d r c = true → zVS (zLf t (fun d _ _ => zsz d * zsz d)) d r c = zsz d * zsz d
  | 0, d, r, c, e, hd, hr, hc, hv => by
    have hn : t (zmn d r c) ≠ 3 := by
      rw [show d = 3 by omega] at hr hc hv ⊢
      exact hvl r c hr hc hv
    rw [zVS_lf (fun a b e h => zLf_0 h) 0 d r c e hd hn]
    exact if_pos ⟨hv, hn⟩
  | g + 1, d, r, c, e, hd, hr, hc, hv => by
    by_cases h3 : t (zmn d r c) = 3
    · rw [zVS_s _ r c (by omega), show zLf t (fun d _ _ => zsz d * zsz d) d r c = 0 from if_neg (fun z => z.2 h3), Int.zero_add]
      refine (zsm_cg (h := fun _ => zsz (d + 1) * zsz (d + 1)) 4 (fun q hq => ?_)).trans ?_
      · have q1 := zpq (k := q) (d := d) (by omega) hr (by omega)
        have q2 := zpq (k := q) (d := d) (by omega) hc (by omega)
        exact zLf_sq hvl g (d + 1) _ _ (by omega) (by omega) q1.1 q2.2 (by rw [zvis_s t (by omega) (by omega), hv, h3]; rfl)
      · have h3 : d = 0 ∨ d = 1 ∨ d = 2 := by omega
        rcases h3 with rfl | rfl | rfl <;> decide
    · rw [zVS_lf (fun a b e h => zLf_0 h) (g + 1) d r c e hd h3]
      exact if_pos ⟨hv, h3⟩
theorem zsm_13 (C : Int → Int) : zsm (fun q => 1 + 3 * C q) 4 = 4 + 3 * zsm C 4 := by
  show 0 + (1 + 3 * C ((0 : Nat) : Int)) + (1 + 3 * C ((1 : Nat) : Int)) + (1 + 3 * C ((2 : Nat) : Int)) + (1 + 3 * C ((3 : Nat) : Int)) = 4 + 3 * (0 + C ((0 : Nat) : Int) + C ((1 : Nat) : Int) + C ((2 : Nat) : Int) + C ((3 : Nat) : Int))
  omega
/-- each cut makes three blocks more -/
theorem zLf_one {t : Int → Int} (hvl : zVl t) : ∀ (g : Nat) (d r c : Int), d = 3 - g → 0 ≤ d → (0 ≤ r ∧ r < zp2 d) → (0 ≤ c ∧ c < zp2 d) → zvis t d r c = true → zVS (zLf t (fun _ _ _ => 1)) d r c = 1 + 3 * zVS (zFc t 3) d r c
  | 0, d, r, c, e, hd, hr, hc, hv => by
    have hn : t (zmn d r c) ≠ 3 := by
      rw [show d = 3 by omega] at hr hc hv ⊢
      exact hvl r c hr hc hv
    rw [zVS_lf (fun a b e h => zLf_0 h) 0 d r c e hd hn, zVS_lf (t := t) zFc_0 0 d r c e hd hn]
    rw [show zLf t (fun _ _ _ => 1) d r c = 1 from if_pos ⟨hv, hn⟩, show zFc t 3 d r c = 0 from if_neg (fun z => hn z.2)]
    rfl
  | g + 1, d, r, c, e, hd, hr, hc, hv => by
    by_cases h3 : t (zmn d r c) = 3
    · rw [zVS_s _ r c (by omega), zVS_s (zFc t 3) r c (by omega), show zLf t (fun _ _ _ => 1) d r c = 0 from if_neg (fun z => z.2 h3), show zFc t 3 d r c = 1 from if_pos ⟨hv, h3⟩]
      have e4 := zsm_cg (g := fun q => zVS (zLf t (fun _ _ _ => 1)) (d + 1) (2 * r + q / 2) (2 * c + q % 2)) (h := fun q => 1 + 3 * zVS (zFc t 3) (d + 1) (2 * r + q / 2) (2 * c + q % 2)) 4 (fun q hq => by
        have q1 := zpq (k := q) (d := d) (by omega) hr (by omega)
        have q2 := zpq (k := q) (d := d) (by omega) hc (by omega)
        exact zLf_one hvl g (d + 1) _ _ (by omega) (by omega) q1.1 q2.2 (by rw [zvis_s t (by omega) (by omega), hv, h3]; rfl))
      rw [e4, zsm_13 (fun q => zVS (zFc t 3) (d + 1) (2 * r + q / 2) (2 * c + q % 2))]
      omega
    · rw [zVS_lf (fun a b e h => zLf_0 h) (g + 1) d r c e hd h3, zVS_lf (t := t) zFc_0 (g + 1) d r c e hd h3]
      rw [show zLf t (fun _ _ _ => 1) d r c = 1 from if_pos ⟨hv, h3⟩, show zFc t 3 d r c = 0 from if_neg (fun z => h3 z.2)]
      rfl
/-- the room is that of the blocks that are not cut, and one for each cut -/
theorem zLf_rm (t : Int → Int) : zVS (zFr t) 0 0 0 = zVS (zLf t (fun d r c => zrm (t (zmn d r c)) (zsz d))) 0 0 0 + zVS (zFc t 3) 0 0 0 := by
  rw [← zVS_pl]
  refine congrArg (fun F => zVS F 0 0 0) (funext fun d => funext fun r => funext fun c => ?_)
  by_cases hv : zvis t d r c = true
  · by_cases h3 : t (zmn d r c) = 3
    · rw [show zLf t (fun d r c => zrm (t (zmn d r c)) (zsz d)) d r c = 0 from if_neg (fun z => z.2 h3), show zFc t 3 d r c = 1 from if_pos ⟨hv, h3⟩, show zFr t d r c = zrk (t (zmn d r c)) (zsz d) from if_pos hv, h3]
      rfl
    · rw [show zLf t (fun d r c => zrm (t (zmn d r c)) (zsz d)) d r c = zrm (t (zmn d r c)) (zsz d) from if_pos ⟨hv, h3⟩, show zFc t 3 d r c = 0 from if_neg (fun z => h3 z.2), show zFr t d r c = zrk (t (zmn d r c)) (zsz d) from if_pos hv]
      unfold zrm zrk
      rw [if_neg h3, Int.add_zero]
  · rw [show zLf t (fun d r c => zrm (t (zmn d r c)) (zsz d)) d r c = 0 from if_neg (fun z => hv z.1), show zFc t 3 d r c = 0 from if_neg (fun z => hv z.1), show zFr t d r c = 0 from if_neg hv]
    rfl
/-- the blocks that are not cut are of three sorts -/
theorem zLf_cn {t : Int → Int} (ht : zSt t) : zVS (zLf t (fun _ _ _ => 1)) 0 0 0 = zVS (zFc t 0) 0 0 0 + zVS (zFc t 1) 0 0 0 + zVS (zFc t 2) 0 0 0 := by
  rw [← zVS_pl, ← zVS_pl]
  refine congrArg (fun F => zVS F 0 0 0) (funext fun d => funext fun r => funext fun c => ?_)
  have hs := ht (zmn d r c)
  unfold zLf zFc
  by_cases hv : zvis t d r c = true
  · have h4 : t (zmn d r c) = 0 ∨ t (zmn d r c) = 1 ∨ t (zmn d r c) = 2 ∨ t (zmn d r c) = 3 := by omega
    rcases h4 with h | h | h | h <;> simp [hv, h]
  · simp [hv]
theorem zsn_le {one z s rm : Int} (hr : 0 ≤ rm) (hz : 0 ≤ z) : 0 ≤ (zsn one z s rm).2 ∧ (zsn one z s rm).2 ≤ rm := by
  unfold zsn
  by_cases c : one = 2
  · rw [if_pos c]
    exact ⟨Int.le_refl 0, hr⟩
  · rw [if_neg c]
    by_cases c2 : one = 1 ∧ 2 * z ≤ rm
    · rw [if_pos c2]
      exact ⟨by show 0 ≤ 2 * z; omega, c2.2⟩
    · rw [if_neg c2]
      exact ⟨hr, Int.le_refl rm⟩
theorem zsm_le {g h : Int → Int} : ∀ k : Nat, (∀ j : Nat, j < k → 0 ≤ g j ∧ g j ≤ h j) → 0 ≤ zsm g k ∧ zsm g k ≤ zsm h k
  | 0, _ => ⟨Int.le_refl 0, Int.le_refl 0⟩
  | k + 1, hk => by
    have h1 := zsm_le k (fun j hj => hk j (by omega))
    have h2 := hk k (by omega)
    show 0 ≤ zsm g k + g k ∧ zsm g k + g k ≤ zsm h k + h k
    omega
/-- made smaller, a block takes no more room -/
theorem znw_le {e t : Int → Int} : ∀ (g : Nat) (d r c : Int), d = 3 - g → 0 ≤ d → 0 ≤ (znw e t g d r c).2 ∧ (znw e t g d r c).2 ≤ zroom t g (r * zsz d) (c * zsz d)
  | 0, d, r, c, e0, hd => by
    rw [show d = 3 by omega]
    show _ ∧ _ ≤ zrm (t (zno 3 (r * zsz 3) (c * zsz 3))) 2
    rw [zno_b (by decide)]
    exact zsn_le (zrm_in _ _ (by decide)).1 (by decide)
  | g + 1, d, r, c, e0, hd => by
    have e2 : (2 - g : Int) = d := by omega
    have e3 : (3 - g : Int) = d + 1 := by omega
    have hz := zsz_v (d := d) (by omega)
    have h2 : zsz d = 2 * zsz (d + 1) := by
      have h3 : d = 0 ∨ d = 1 ∨ d = 2 := by omega
      rcases h3 with rfl | rfl | rfl <;> decide
    rw [znw_s]
    show _ ∧ _ ≤ (if t (zno (2 - g) (r * zsz d) (c * zsz d)) = 3 then 1 + zsm (fun p => zroom t g (r * zsz d + p / 2 * zsz (3 - g)) (c * zsz d + p % 2 * zsz (3 - g))) 4 else zrm (t (zno (2 - g) (r * zsz d) (c * zsz d))) (zsz (2 - g)))
    rw [e2, e3, zno_b (by omega)]
    by_cases h3 : t (zmn d r c) = 3
    · rw [if_pos h3, if_pos h3]
      have hs := zsm_le (g := fun q => (znw e t g (d + 1) (2 * r + q / 2) (2 * c + q % 2)).2) (h := fun p => zroom t g (r * zsz d + p / 2 * zsz (d + 1)) (c * zsz d + p % 2 * zsz (d + 1))) 4 (fun q hq => by
        have ih := znw_le (e := e) (t := t) g (d + 1) (2 * r + (q : Int) / 2) (2 * c + (q : Int) % 2) (by omega) (by omega)
        have a1 : (2 * r + (q : Int) / 2) * zsz (d + 1) = r * zsz d + (q : Int) / 2 * zsz (d + 1) := by
          rw [h2, Int.add_mul, ← Int.mul_assoc, Int.mul_comm r 2]
        have a2 : (2 * c + (q : Int) % 2) * zsz (d + 1) = c * zsz d + (q : Int) % 2 * zsz (d + 1) := by
          rw [h2, Int.add_mul, ← Int.mul_assoc, Int.mul_comm c 2]
        rw [a1, a2] at ih
        exact ih)
      have hl := zsn_le (one := zone e (r * zsz d) (c * zsz d) (zsz d)) (z := zsz d) (s := t (zmn d r c)) (rm := 1 + zsm (fun q => (znw e t g (d + 1) (2 * r + q / 2) (2 * c + q % 2)).2) 4) (by omega) (by omega)
      exact ⟨hl.1, by omega⟩
    · rw [if_neg h3, if_neg h3]
      exact zsn_le (zrm_in _ _ (by omega)).1 (by omega)
theorem zshr_le (e t : Int → Int) : 0 ≤ (zshr e 3 t 0 0).2 ∧ (zshr e 3 t 0 0).2 ≤ zroom t 3 0 0 := by
  have h := (zshr_e (e := e) (t0 := t) 3 0 0 0 t (by decide) (by decide) (by decide) (by decide) rfl (fun _ _ _ _ _ _ _ => rfl)).1
  have k := znw_le (e := e) (t := t) 3 0 0 0 (by decide) (by decide)
  rw [show (0 : Int) * zsz 0 = 0 from rfl] at h k
  rw [h]
  exact k
