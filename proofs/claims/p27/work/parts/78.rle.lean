/-- a square of a row is turned, pair by pair -/
def zgs (m B N : Int) (T : Int → Int) (k : Int) : Int → Int := if k / N < k % N then zsw T m (B + (k / N * N + k % N)) (B + (k % N * N + k / N)) else T
def zky (N r c : Int) : Int := min r c * N + max r c
theorem zgs_e {m B : Int} {N : Nat} {S : Int → Int} : ∀ k : Nat, k ≤ N * N → (∀ r c : Int, (0 ≤ r ∧ r < N) → (0 ≤ c ∧ c < N) → zfo (zgs m B N) S k (341 * m + (B + (r * N + c))) = if zky N r c < k then S (341 * m + (B + (c * N + r))) else S (341 * m + (B + (r * N + c)))) ∧ ∀ i, (i < 341 * m + B ∨ 341 * m + B + N * N ≤ i) → zfo (zgs m B N) S k i = S i
  | 0, _ => ⟨fun r c hr hc => by
    have h1 : 0 ≤ min r c * (N : Int) := Int.mul_nonneg (by omega) (by omega)
    rw [if_neg (by unfold zky; omega)]
    rfl, fun _ _ => rfl⟩
  | k + 1, hk => by
    obtain ⟨g1, g2⟩ := zgs_e (m := m) (B := B) (N := N) (S := S) k (by omega)
    have hd := zdm (N := N) (k := k) (by omega)
    have hkk : (k : Int) / N * N + (k : Int) % N = k := Int.ediv_mul_add_emod _ _
    have e : zfo (zgs m B N) S (k + 1) = zgs m B N (zfo (zgs m B N) S k) k := rfl
    rw [e]
    generalize zfo (zgs m B N) S k = T at *
    have huniq : ∀ r c : Int, (0 ≤ r ∧ r < N) → (0 ≤ c ∧ c < N) → zky N r c = k → min r c = (k : Int) / N ∧ max r c = (k : Int) % N := by
      intro r c hr hc hq
      have h1 := zdq (q := N) (i := min r c) (j := max r c) (by omega)
      unfold zky at hq
      rw [hq] at h1
      exact ⟨h1.1.symm, h1.2.symm⟩
    have hlin : ∀ r c r2 c2 : Int, (0 ≤ r ∧ r < N) → (0 ≤ c ∧ c < N) → (0 ≤ r2 ∧ r2 < N) → (0 ≤ c2 ∧ c2 < N) → r * (N : Int) + c = r2 * N + c2 → r = r2 ∧ c = c2 := by
      intro r c r2 c2 hr hc hr2 hc2 hq
      have h1 := zdq (q := N) (i := r) hc
      have h2 := zdq (q := N) (i := r2) hc2
      rw [hq] at h1
      exact ⟨h1.1.symm.trans h2.1, h1.2.symm.trans h2.2⟩
    unfold zgs
    by_cases hab : (k : Int) / N < (k : Int) % N
    · rw [if_pos hab]
      unfold zsw
      generalize ha : (k : Int) / N = a at *
      generalize hb : (k : Int) % N = b at *
      have hka : zky N a b = k := by
        unfold zky
        rw [show min a b = a by omega, show max a b = b by omega]
        exact hkk
      have hkb : zky N b a = k := by
        unfold zky
        rw [show min b a = a by omega, show max b a = b by omega]
        exact hkk
      have hab2 := zrq (r := a) (P := N) (a := b) (N := N) hd.1 hd.2
      have hba2 := zrq (r := b) (P := N) (a := a) (N := N) hd.2 hd.1
      refine ⟨fun r c hr hc => ?_, fun i hi => ?_⟩
      · have hrc := zrq (r := r) (P := N) (a := c) (N := N) hr hc
        by_cases q1 : r = b ∧ c = a
        · rw [q1.1, q1.2, zu_s, g1 a b hd.1 hd.2, if_neg (by omega), if_pos (by omega)]
        · have n1 : r * (N : Int) + c ≠ b * N + a := fun z => q1 (hlin r c b a hr hc hd.2 hd.1 z)
          rw [zu_n _ _ (by omega)]
          by_cases q2 : r = a ∧ c = b
          · rw [q2.1, q2.2, zu_s, g1 b a hd.2 hd.1, if_neg (by omega), if_pos (by omega)]
          · have n2 : r * (N : Int) + c ≠ a * N + b := fun z => q2 (hlin r c a b hr hc hd.1 hd.2 z)
            rw [zu_n _ _ (by omega), g1 r c hr hc]
            have n3 : zky N r c ≠ k := fun z => by
              have h3 := huniq r c hr hc z
              omega
            by_cases q3 : zky N r c < k
            · rw [if_pos q3, if_pos (by omega)]
            · rw [if_neg q3, if_neg (by omega)]
      · rw [zu_n _ _ (by omega), zu_n _ _ (by omega)]
        exact g2 i hi
    · rw [if_neg hab]
      refine ⟨fun r c hr hc => ?_, g2⟩
      rw [g1 r c hr hc]
      by_cases q3 : zky N r c < k
      · rw [if_pos q3, if_pos (by omega)]
      · rw [if_neg q3]
        by_cases q4 : zky N r c = k
        · have h3 := huniq r c hr hc q4
          rw [if_pos (by omega), show r = c by omega]
        · rw [if_neg (by omega)]
theorem zgs_all {m B : Int} {N : Nat} {S : Int → Int} {r c : Int} (hr : 0 ≤ r ∧ r < N) (hc : 0 ≤ c ∧ c < N) : zfo (zgs m B N) S (N * N) (341 * m + (B + (r * N + c))) = S (341 * m + (B + (c * N + r))) := by
  rw [(zgs_e (N * N) (Nat.le_refl _)).1 r c hr hc, if_pos]
  have h := zrq (r := min r c) (P := N) (a := max r c) (N := N) (by omega) (by omega)
  unfold zky
  rw [Int.natCast_mul]
  exact h.2
def zF0 (d : Int) : Int := if d = 0 then 0 else if d = 1 then 1 else if d = 2 then 5 else 21
theorem zmn_F (d r c : Int) : zmn d r c = zF0 d + (r * zp2 d + c) := by
  show zF0 d + r * zp2 d + c = _
  omega
theorem ztnL_g (m d : Int) {N : Nat} (hN : zp2 d = N) (S : Int → Int) : ∀ k : Nat, ztnL m d N S k = zfo (zgs m (zF0 d) N) S k
  | 0 => rfl
  | k + 1 => by
    have ih := ztnL_g m d hN S k
    show ztnI m d N (ztnL m d N S k) k = zgs m (zF0 d) N (zfo (zgs m (zF0 d) N) S k) k
    rw [ih]
    unfold ztnI zgs
    rw [zmn_F, zmn_F, hN]
theorem ztnE_g (m : Int) (S : Int → Int) : ∀ k : Nat, ztnE m S k = zfo (zgs m 85 (16 : Nat)) S k
  | 0 => rfl
  | k + 1 => by
    have ih := ztnE_g m S k
    show ztnJ m (ztnE m S k) k = zgs m 85 (16 : Nat) (zfo (zgs m 85 (16 : Nat)) S k) k
    rw [ih]
    unfold ztnJ zgs
    show (if (k : Int) / 16 < (k : Int) % 16 then zsw _ m (85 + (k : Int)) (85 + 16 * ((k : Int) % 16) + (k : Int) / 16) else _) = if (k : Int) / 16 < (k : Int) % 16 then zsw _ m (85 + ((k : Int) / 16 * 16 + (k : Int) % 16)) (85 + ((k : Int) % 16 * 16 + (k : Int) / 16)) else _
    rw [show (k : Int) / 16 * 16 + (k : Int) % 16 = k by omega, show 85 + 16 * ((k : Int) % 16) + (k : Int) / 16 = 85 + ((k : Int) % 16 * 16 + (k : Int) / 16) by omega]
/-- the levels, one behind another -/
theorem ztnF_e {m : Int} {S : Int → Int} : ∀ j : Nat, j ≤ 4 → (∀ d r c : Int, (0 ≤ d ∧ d ≤ 3) → (0 ≤ r ∧ r < zp2 d) → (0 ≤ c ∧ c < zp2 d) → ztnF m S j (341 * m + zmn d r c) = if d < j then S (341 * m + zmn d c r) else S (341 * m + zmn d r c)) ∧ ∀ i, (i < 341 * m ∨ 341 * m + 85 ≤ i) → ztnF m S j i = S i
  | 0, _ => ⟨fun d r c hd _ _ => by
    rw [if_neg (by omega)]
    rfl, fun _ _ => rfl⟩
  | j + 1, hj => by
    obtain ⟨g1, g2⟩ := ztnF_e (m := m) (S := S) j (by omega)
    obtain ⟨N, hN, hN2⟩ := zp2N (d := (j : Int)) (by omega)
    have e : ztnF m S (j + 1) = zfo (zgs m (zF0 j) N) (ztnF m S j) (N * N) := by
      show ztnL m j (zp2 j) (ztnF m S j) (zp2 j * zp2 j).toNat = _
      rw [hN, show ((N : Int) * N).toNat = N * N by rw [← Int.natCast_mul]; rfl]
      exact ztnL_g m j hN _ _
    rw [e]
    have hF : 0 ≤ zF0 (j : Int) ∧ zF0 (j : Int) + N * N ≤ 85 := by
      have h3 : j = 0 ∨ j = 1 ∨ j = 2 ∨ j = 3 := by omega
      rcases h3 with rfl | rfl | rfl | rfl <;> simp [zp2, zF0] at hN ⊢ <;> rw [← hN] <;> decide
    have o := (zgs_e (m := m) (B := zF0 j) (N := N) (S := ztnF m S j) (N * N) (Nat.le_refl _)).2
    refine ⟨fun d r c hd hr hc => ?_, fun i hi => ?_⟩
    · by_cases q : d = j
      · rw [q] at hr hc ⊢
        rw [zmn_F, zmn_F, hN, zgs_all (by omega) (by omega), if_pos (by omega), ← hN, ← zmn_F, g1 j c r (by omega) hc hr, if_neg (by omega), zmn_F]
      · have hlt : zmn d r c < zF0 j ∨ zF0 j + N * N ≤ zmn d r c := by
          have h3 : j = 0 ∨ j = 1 ∨ j = 2 ∨ j = 3 := by omega
          have h4 : d = 0 ∨ d = 1 ∨ d = 2 ∨ d = 3 := by omega
          rcases h3 with rfl | rfl | rfl | rfl <;> rcases h4 with rfl | rfl | rfl | rfl <;> simp [zp2, zF0, zmn] at * <;> (try rw [← hN]) <;> omega
        rw [o _ (by omega), g1 d r c hd hr hc]
        by_cases q2 : d < j
        · rw [if_pos q2, if_pos (by omega)]
        · rw [if_neg q2, if_neg (by omega)]
    · rw [o _ (by omega)]
      exact g2 i hi
/-- the class's levels -/
theorem zts_e {t : Int → Int} {d r c : Int} (hd : 0 ≤ d ∧ d ≤ 3) (hr : 0 ≤ r ∧ r < zp2 d) (hc : 0 ≤ c ∧ c < zp2 d) : zfo (fun t d => zts d t) t 4 (zmn d r c) = t (zmn d c r) := by
  show ztq 21 8 (ztq 5 4 (ztq 1 2 (ztq 0 1 t 1 0) 2 0) 4 0) 8 0 (zmn d r c) = t (zmn d c r)
  have h4 : d = 0 ∨ d = 1 ∨ d = 2 ∨ d = 3 := by omega
  rcases h4 with rfl | rfl | rfl | rfl
  · have e1 : zmn 0 r c = 0 := by simp [zp2, zmn] at *; omega
    have e2 : zmn 0 c r = 0 := by simp [zp2, zmn] at *; omega
    rw [e1, e2]
    unfold ztq
    rw [if_neg (by omega), if_neg (by omega), if_neg (by omega), if_pos (by omega)]
    rfl
  · have e1 : zmn 1 r c = 1 + r * 2 + c := rfl
    have e2 : zmn 1 c r = 1 + c * 2 + r := rfl
    rw [e1, e2]
    simp [zp2] at hr hc
    unfold ztq
    rw [if_neg (by omega), if_neg (by omega), if_pos (by omega), if_neg (by omega)]
    congr 1
    omega
  · have e1 : zmn 2 r c = 5 + r * 4 + c := rfl
    have e2 : zmn 2 c r = 5 + c * 4 + r := rfl
    rw [e1, e2]
    simp [zp2] at hr hc
    unfold ztq
    rw [if_neg (by omega), if_pos (by omega), if_neg (by omega), if_neg (by omega)]
    congr 1
    omega
  · have e1 : zmn 3 r c = 21 + r * 8 + c := rfl
    have e2 : zmn 3 c r = 21 + c * 8 + r := rfl
    rw [e1, e2]
    simp [zp2] at hr hc
    unfold ztq
    rw [if_pos (by omega), if_neg (by omega), if_neg (by omega), if_neg (by omega)]
    congr 1
    omega
