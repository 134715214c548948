theorem zvl_pr {f : Int → Int} {L p : Int} (hL : L ≤ 80) (hp : p ≤ 80) (h : (zvl f L p).1 = true) : p + 1 ≤ (zvl f L p).2.1 := by
  have hpp := zpp_in (f := f) (L := L) 45 ⟨hp, hL⟩
  rw [zvl_nu] at h ⊢
  have h : (znu f L (zpp f L p 45)).1 = true := h
  show p + 1 ≤ (znu f L (zpp f L p 45)).2.1
  generalize zpp f L p 45 = q at *
  have hd := zdg_in f L q
  unfold znu at h ⊢
  by_cases c1 : zpk f L q 48 = true
  · rw [if_pos c1]
    show p + 1 ≤ q + 1
    omega
  · rw [if_neg c1] at h ⊢
    by_cases c2 : zdg f L q < 0
    · rw [if_pos c2] at h
      cases h
    · rw [if_neg c2] at h ⊢
      rw [zvd_s f L 79 q 0, if_pos (by omega), if_neg (by omega)] at h ⊢
      have h3 := (zvd_in (f := f) hL 79 (q + 1) (0 * 10 + zdg f L q) (by omega) (by omega)).1
      omega
theorem zmv_f (f : Int → Int) (L m : Int) (k : Nat) (p a : Int) (Va : Int → Int) : zmv f L m k false p a Va = (false, p, Va) := by
  cases k with
  | zero => rfl
  | succ k => exact if_neg (fun z => by cases z.1)
/-- the rows of both readings -/
theorem zmv_R {V : Int → Bool × Int × Int} {f : Int → Int} {L m : Int} (hV : V = zvl f L) (hL : L ≤ 80) (hm : 0 ≤ m) (c : Nat) : ∀ (k : Nat) (p a x fd : Int) (Va0 u : Int → Int), p ≤ 80 → 0 ≤ p → L ≤ p + k + 1 → 0 ≤ a → fd = min a m → (∀ j, 0 ≤ j → j < a → j < m → Va0 j = u j) → (zmv f L m (k + c) (zvl f L p).1 (zvl f L p).2.1 a (zfv Va0 a m (zvr f L true p))).1 = (zvw V f L m (k + 1) p x fd u).1 ∧ (zmv f L m (k + c) (zvl f L p).1 (zvl f L p).2.1 a (zfv Va0 a m (zvr f L true p))).2.1 = (zvw V f L m (k + 1) p x fd u).2.1 ∧ ((zvw V f L m (k + 1) p x fd u).1 = true → ∀ j, 0 ≤ j → j < m → (zmv f L m (k + c) (zvl f L p).1 (zvl f L p).2.1 a (zfv Va0 a m (zvr f L true p))).2.2 j = if (zvw V f L m (k + 1) p x fd u).2.2.2.1 ≤ j ∧ j < m then (zvw V f L m (k + 1) p x fd u).2.2.1 else (zvw V f L m (k + 1) p x fd u).2.2.2.2 j) := by
  intro k
  induction k with
  | zero =>
    intro p a x fd Va0 u hp hp0 hf ha hfd hu
    obtain ⟨g1, g2, -⟩ := zvl_in (f := f) (p := p) hL hp
    by_cases hok : (zvl f L p).1 = true
    · have hpr := zvl_pr hL hp hok
      have hk : zpk f L (zvl f L p).2.1 44 = false := decide_eq_false (by omega)
      have e1 : zvw V f L m (0 + 1) p x fd u = (true, (zvl f L p).2.1, (zvl f L p).2.2, (if fd < m then fd + 1 else fd), (if fd < m then zu u fd (zvl f L p).2.2 else u)) := by
        rw [hV]
        exact (if_pos hok).trans ((if_neg (by rw [hk]; decide)).trans (by rw [zpp_f hk]))
      have e2 : zmv f L m (0 + c) (zvl f L p).1 (zvl f L p).2.1 a (zfv Va0 a m (zvr f L true p)) = (true, (zvl f L p).2.1, zfv Va0 a m (zvl f L p).2.2) := by
        rw [hok, zvr_v hok]
        cases c with
        | zero => rfl
        | succ c =>
          refine if_neg (fun z => ?_)
          rw [zlr_k (by decide)] at hk
          exact of_decide_eq_false hk z.2
      rw [e1, e2]
      refine ⟨rfl, rfl, fun _ j j1 j2 => ?_⟩
      dsimp only
      have hu := hu j j1
      unfold zfv zu
      by_cases q1 : a < m
      · rw [if_pos (show fd < m by omega), if_pos (show fd < m by omega)]
        by_cases q2 : a ≤ j
        · rw [if_pos ⟨q2, j2⟩]
          by_cases q3 : fd + 1 ≤ j ∧ j < m
          · rw [if_pos q3]
          · rw [if_neg q3]
            exact (if_pos (by omega)).symm
        · rw [if_neg (by omega), if_neg (by omega)]
          exact (hu (by omega) j2).trans (if_neg (by omega)).symm
      · rw [if_neg (show ¬ fd < m by omega), if_neg (show ¬ fd < m by omega), if_neg (by omega), if_neg (by omega)]
        exact hu (by omega) j2
    · have hok0 : (zvl f L p).1 = false := by cases h : (zvl f L p).1; rfl; exact absurd h hok
      have e1 : zvw V f L m (0 + 1) p x fd u = (false, (zvl f L p).2.1, (zvl f L p).2.2, fd, u) := by
        rw [hV]
        exact if_neg (by rw [hok0]; decide)
      rw [e1, hok0, zmv_f]
      exact ⟨rfl, rfl, fun z => by cases z⟩
  | succ k ih =>
    intro p a x fd Va0 u hp hp0 hf ha hfd hu
    obtain ⟨g1, g2, -⟩ := zvl_in (f := f) (p := p) hL hp
    by_cases hok : (zvl f L p).1 = true
    · have hpr := zvl_pr hL hp hok
      by_cases hk : zpk f L (zvl f L p).2.1 44 = true
      · have hlt := zpk_in hk
        have e1 : zvw V f L m (k + 1 + 1) p x fd u = zvw V f L m (k + 1) ((zvl f L p).2.1 + 1) (zvl f L p).2.2 (if fd < m then fd + 1 else fd) (if fd < m then zu u fd (zvl f L p).2.2 else u) := by
          rw [hV]
          exact (if_pos hok).trans ((if_pos hk).trans (by rw [zpp_t hk]))
        have e2 : zmv f L m (k + 1 + c) (zvl f L p).1 (zvl f L p).2.1 a (zfv Va0 a m (zvr f L true p)) = zmv f L m (k + c) (zvl f L ((zvl f L p).2.1 + 1)).1 (zvl f L ((zvl f L p).2.1 + 1)).2.1 (a + 1) (zfv (zfv Va0 a m (zvr f L true p)) (a + 1) m (zvr f L true ((zvl f L p).2.1 + 1))) := by
          rw [show k + 1 + c = (k + c) + 1 by omega, hok]
          refine if_pos ⟨rfl, ?_⟩
          rw [zlr_k (by decide)] at hk
          exact of_decide_eq_true hk
        rw [e1, e2]
        refine ih _ _ _ _ _ _ (by omega) (by omega) (by omega) (by omega) (by split <;> omega) (fun j j1 j2 j3 => ?_)
        have hu := hu j j1
        rw [zvr_v hok]
        unfold zfv zu
        by_cases q2 : a ≤ j
        · rw [if_pos ⟨q2, j3⟩, if_pos (show fd < m by omega)]
          exact (if_pos (by omega)).symm
        · rw [if_neg (by omega)]
          by_cases q1 : fd < m
          · rw [if_pos q1]
            exact (hu (by omega) j3).trans (if_neg (by omega)).symm
          · rw [if_neg q1]
            exact hu (by omega) j3
      · have hk : zpk f L (zvl f L p).2.1 44 = false := by cases h : zpk f L (zvl f L p).2.1 44; rfl; exact absurd h hk
        have e1 : zvw V f L m (k + 1 + 1) p x fd u = (true, (zvl f L p).2.1, (zvl f L p).2.2, (if fd < m then fd + 1 else fd), (if fd < m then zu u fd (zvl f L p).2.2 else u)) := by
          rw [hV]
          exact (if_pos hok).trans ((if_neg (by rw [hk]; decide)).trans (by rw [zpp_f hk]))
        have e2 : zmv f L m (k + 1 + c) (zvl f L p).1 (zvl f L p).2.1 a (zfv Va0 a m (zvr f L true p)) = (true, (zvl f L p).2.1, zfv Va0 a m (zvl f L p).2.2) := by
          rw [show k + 1 + c = (k + c) + 1 by omega, hok, zvr_v hok]
          refine if_neg (fun z => ?_)
          rw [zlr_k (by decide)] at hk
          exact of_decide_eq_false hk z.2
        rw [e1, e2]
        refine ⟨rfl, rfl, fun _ j j1 j2 => ?_⟩
        dsimp only
        have hu := hu j j1
        unfold zfv zu
        by_cases q1 : a < m
        · rw [if_pos (show fd < m by omega), if_pos (show fd < m by omega)]
          by_cases q2 : a ≤ j
          · rw [if_pos ⟨q2, j2⟩]
            by_cases q3 : fd + 1 ≤ j ∧ j < m
            · rw [if_pos q3]
            · rw [if_neg q3]
              exact (if_pos (by omega)).symm
          · rw [if_neg (by omega), if_neg (by omega)]
            exact (hu (by omega) j2).trans (if_neg (by omega)).symm
        · rw [if_neg (show ¬ fd < m by omega), if_neg (show ¬ fd < m by omega), if_neg (by omega), if_neg (by omega)]
          exact hu (by omega) j2
    · have hok0 : (zvl f L p).1 = false := by cases h : (zvl f L p).1; rfl; exact absurd h hok
      have e1 : zvw V f L m (k + 1 + 1) p x fd u = (false, (zvl f L p).2.1, (zvl f L p).2.2, fd, u) := by
        rw [hV]
        exact if_neg (by rw [hok0]; decide)
      rw [e1, hok0, zmv_f]
      exact ⟨rfl, rfl, fun z => by cases z⟩
theorem zmvF_R {R : zRVs} {V : Int → Bool × Int × Int} {f : Int → Int} {L m p : Int} (h : isKT R V f L) (hL : 0 ≤ L ∧ L ≤ 80) (hm : 0 ≤ m) (hp : 0 ≤ p ∧ p ≤ 80) (x : Int) (Va u : Int → Int) : (zmvF f L m true p Va).1 = (R m p x u).1 ∧ (zmvF f L m true p Va).2.1 = (R m p x u).2.1 ∧ ((R m p x u).1 = true → ∀ j, 0 ≤ j → j < m → (zmvF f L m true p Va).2.2 j = (R m p x u).2.2.2 j) := by
  obtain ⟨hV, F, hF, hR⟩ := h
  obtain ⟨h1, h2, h3⟩ := zmv_R (c := 2) hV hL.2 hm 79 p 0 x 0 Va u hp.2 hp.1 (by omega) (by decide) (by omega) (fun j j1 j2 => absurd j2 (by omega))
  have e1 : zmvF f L m true p Va = zmv f L m (79 + 2) (zvl f L p).1 (zvl f L p).2.1 0 (zfv Va 0 m (zvr f L true p)) := by
    unfold zmvF
    rw [Bool.true_and, if_pos rfl]
  have e2 : R m p x u = zvx m (zvw V f L m (79 + 1) p x 0 u) := by
    rw [hR, hF]
    rfl
  rw [e1, e2]
  refine ⟨h1, h2, fun hok j j1 j2 => ?_⟩
  have hok : (zvw V f L m (79 + 1) p x 0 u).1 = true := hok
  rw [h3 hok j j1 j2]
  unfold zvx
  dsimp only
  rw [if_pos hok]
theorem zmvF_N (f : Int → Int) (L m p : Int) (Va : Int → Int) : (zmvF f L m false p Va).1 = false ∧ (zmvF f L m false p Va).2.1 = p := by
  unfold zmvF
  rw [Bool.false_and, if_neg (by decide), zmv_f]
  exact ⟨rfl, rfl⟩
/-- what is laid, entry by entry -/
theorem zlyF_e {s br bc : Int} {N : Nat} {Va Ot Rd : Int → Int} (h1 : 0 ≤ br * (N : Int) ∧ br * (N : Int) + N ≤ 16) (h2 : 0 ≤ bc * (N : Int) ∧ bc * (N : Int) + N ≤ 16) : ∀ k : Nat, k ≤ N * N → (∀ j, 0 ≤ j → j < 85 → zlyF s N br bc Va Ot Rd k j = Rd j) ∧ ∀ j, 0 ≤ j → j < 256 → zlyF s N br bc Va Ot Rd k (85 + j) = if ((br * N ≤ j / 16 ∧ j / 16 < br * N + N) ∧ bc * N ≤ j % 16 ∧ j % 16 < bc * N + N) ∧ (j / 16 - br * N) * N + (j % 16 - bc * N) < k then zlyv s N Va Ot ((j / 16 - br * N) * N + (j % 16 - bc * N)) else Rd (85 + j)
  | 0, _ => ⟨fun _ _ _ => rfl, fun j j1 j2 => by
    by_cases c : ((br * N ≤ j / 16 ∧ j / 16 < br * N + N) ∧ bc * N ≤ j % 16 ∧ j % 16 < bc * N + N)
    · have h3 : 0 ≤ (j / 16 - br * N) * (N : Int) := Int.mul_nonneg (by omega) (by omega)
      rw [if_neg (by omega)]
      rfl
    · rw [if_neg (fun z => c z.1)]
      rfl⟩
  | k + 1, hk => by
    obtain ⟨g1, g2⟩ := zlyF_e (s := s) (Va := Va) (Ot := Ot) (Rd := Rd) h1 h2 k (by omega)
    have hd := zdm (N := N) (k := k) (by omega)
    have e : zlyF s N br bc Va Ot Rd (k + 1) = zu (zlyF s N br bc Va Ot Rd k) (85 + ((br * N + k / N) * 16 + (bc * N + k % N))) (zlyv s N Va Ot k) := rfl
    rw [e]
    refine ⟨fun j j1 j2 => ?_, fun j j1 j2 => ?_⟩
    · rw [zu_n _ _ (by omega)]
      exact g1 j j1 j2
    · by_cases q : j = (br * N + k / N) * 16 + (bc * N + k % N)
      · have q1 : j / 16 = br * N + (k : Int) / N := by omega
        have q2 : j % 16 = bc * N + (k : Int) % N := by omega
        have q3 : (j / 16 - br * N) * N + (j % 16 - bc * N) = (k : Int) := by
          rw [q1, q2, show br * (N : Int) + (k : Int) / N - br * N = (k : Int) / N by omega, show bc * (N : Int) + (k : Int) % N - bc * N = (k : Int) % N by omega]
          exact Int.ediv_mul_add_emod _ _
        rw [if_pos (by omega), q3, ← q]
        exact zu_s _ _ _
      · rw [zu_n _ _ (by omega), g2 j j1 j2]
        by_cases c : ((br * N ≤ j / 16 ∧ j / 16 < br * N + N) ∧ bc * N ≤ j % 16 ∧ j % 16 < bc * N + N)
        · have q4 : (j / 16 - br * N) * (N : Int) + (j % 16 - bc * N) ≠ k := by
            intro z
            have z2 := zdq (q := N) (i := j / 16 - br * N) (j := j % 16 - bc * N) (by omega)
            rw [z] at z2
            omega
          by_cases c2 : (j / 16 - br * N) * (N : Int) + (j % 16 - bc * N) < k
          · rw [if_pos ⟨c, c2⟩, if_pos ⟨c, by omega⟩]
          · rw [if_neg (fun z => c2 z.2), if_neg (by omega)]
        · rw [if_neg (fun z => c z.1), if_neg (fun z => c z.1)]
