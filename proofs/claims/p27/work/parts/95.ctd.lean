def zhN (σ : zS) (n : Int) : zS := zhF (zsu σ (n + 1) (zO 0 [zn, zi 0, zi 0])) (n + 1)
def zpN (σ : zS) (n : Int) : zS := zpF (zsu σ (n + 1) (zO 2 [zn, zi 0, zn, zn, zn, zn, zi 0, zi 0])) (n + 1)
def zlN (σ : zS) (n : Int) : zS := zlF (zsu σ (n + 1) (zO 3 [zn, zi 0])) (n + 1)
theorem zhN_is (σ : zS) {n : Int} (hn : 0 ≤ n) {N : Nat} (hN : n + 86 ≤ N) : (zhN σ n (n + 1) = zO 0 [zr (n + 2), zi 0, zi 0] ∧ zhN σ n (n + 2) = zQ 4 6 (fun m => some (n + 3 + 14 * m)) ∧ ∀ m, 0 ≤ m → m < 6 → isSt (zhN σ n) N (n + 3 + 14 * m) zX0) ∧ zAg σ (zhN σ n) (n + 1) (n + 86) := by
  obtain ⟨⟨a, b, c⟩, d⟩ := zhF_is (zsu σ (n + 1) (zO 0 [zn, zi 0, zi 0])) (n := n + 1) (by omega) (N := N) (by omega)
  rw [show n + 1 + 1 = n + 2 by omega] at a b
  rw [show n + 1 + 2 = n + 3 by omega] at b c
  exact ⟨⟨a, b, c⟩, ((zAg.su σ (n + 1) _).wide (by omega)).trans (d.wide (by omega))⟩
theorem zpN_is (σ : zS) {n : Int} (hn : 0 ≤ n) {N : Nat} (hN : n + 8 ≤ N) : (zpN σ n (n + 1) = zO 2 [zr (n + 2), zi 0, zr (n + 3), zr (n + 6), zr (n + 7), zr (n + 8), zi 0, zi 0] ∧ zpN σ n (n + 2) = zP 2 80 (fun _ => 0) ∧ isM (zpN σ n) N (n + 3) (fun _ => 0) (fun _ => 0) ∧ zpN σ n (n + 6) = zA 16 (fun _ => 0) ∧ zpN σ n (n + 7) = zA 16 (fun _ => 0) ∧ zpN σ n (n + 8) = zA 256 (fun _ => 0)) ∧ zAg σ (zpN σ n) (n + 1) (n + 8) := by
  obtain ⟨a, d⟩ := zpF_is (zsu σ (n + 1) (zO 2 [zn, zi 0, zn, zn, zn, zn, zi 0, zi 0])) (n := n + 1) (by omega) (N := N) (by omega)
  rw [show n + 1 + 1 = n + 2 by omega, show n + 1 + 2 = n + 3 by omega, show n + 1 + 5 = n + 6 by omega, show n + 1 + 6 = n + 7 by omega, show n + 1 + 7 = n + 8 by omega] at a
  exact ⟨a, ((zAg.su σ (n + 1) _).wide (by omega)).trans (d.wide (by omega))⟩
theorem zlN_is (σ : zS) {n : Int} (hn : 0 ≤ n) {N : Nat} (hN : n + 15 ≤ N) : (zlN σ n (n + 1) = zO 3 [zr (n + 2), zi 0] ∧ isSt (zlN σ n) N (n + 2) zX0) ∧ zAg σ (zlN σ n) (n + 1) (n + 15) := by
  obtain ⟨a, b⟩ := zsG_is (zsu σ (n + 1) (zO 3 [zn, zi 0])) (n := n + 1) (by omega) (N := N) (by omega)
  have g := zAg.su (zsG (zsu σ (n + 1) (zO 3 [zn, zi 0])) (n + 1)) (n + 1) (zO 3 [zr (n + 1 + 1), zi 0])
  rw [show n + 1 + 1 = n + 2 by omega] at a g
  unfold zlN zlF
  rw [show n + 1 + 1 = n + 2 by omega]
  exact ⟨⟨zsu_s _ _ _, a.ag g (by omega)⟩, ((zAg.su σ (n + 1) _).wide (by omega)).trans ((b.wide (by omega)).trans (g.wide (by omega)))⟩
def zx3 (σ : zS) : zS := zsu (zsu (zsu (zhN (zsu (zsG σ 1) 1 (zO 5 [zr 2, zn, zn, zn, zn, zn])) 15) 1 (zO 5 [zr 2, zr 16, zn, zn, zn, zn])) 102 (zQ 5 2 (zqf 115 15 0))) 1 (zO 5 [zr 2, zr 16, zr 102, zn, zn, zn])
def zx6 (σ : zS) : zS := zsu (zsu (zsu (zmN (zsu (zpN (zx3 σ) 102) 1 (zO 5 [zr 2, zr 16, zr 102, zr 103, zn, zn])) 110) 1 (zO 5 [zr 2, zr 16, zr 102, zr 103, zr 111, zn])) 114 (zA 199 (fun _ => 0))) 1 (zO 5 [zr 2, zr 16, zr 102, zr 103, zr 111, zr 114])
def zxL (σ : zS) : Nat → zS := zfo (fun τ k => zsu (zlN τ (114 + 15 * k)) 102 (zQ 5 2 (zqf 115 15 (k + 1)))) (zx6 σ)
def zxF (σ : zS) : zS := zsu (zxL σ 2) 102 (zQ 5 2 (fun k => some (115 + 15 * k)))
theorem zx6_1 (σ : zS) : zx6 σ 1 = zO 5 [zr 2, zr 16, zr 102, zr 103, zr 111, zr 114] := by
  unfold zx6
  exact zsu_s _ _ _
theorem zx6_2 (σ : zS) : zx6 σ 102 = zQ 5 2 (zqf 115 15 0) := by
  unfold zx6
  rw [zsu_n _ _ (by decide), zsu_n _ _ (by decide), zsu_n _ _ (by decide), zmN_ag _ 110 102 (by decide), zsu_n _ _ (by decide), (zpN_is (zx3 σ) (n := 102) (by decide) (N := 144) (by decide)).2 102 (by decide)]
  unfold zx3
  rw [zsu_n _ _ (by decide), zsu_s]
theorem z0Bd : zBd (fun _ => 0) := fun _ => by
  show (-1000000 : Int) ≤ 0 ∧ (0 : Int) ≤ 1000000
  decide
theorem z0St : zSt (fun _ => 0) := fun _ => by
  show (0 : Int) ≤ 0 ∧ (0 : Int) ≤ 3
  decide
theorem zxL_is (σ : zS) : ∀ k : Nat, k ≤ 2 → zxL σ k 1 = zO 5 [zr 2, zr 16, zr 102, zr 103, zr 111, zr 114] ∧ zxL σ k 102 = zQ 5 2 (zqf 115 15 k) ∧ (∀ i, i < 115 → i ≠ 102 → zxL σ k i = zx6 σ i) ∧ ∀ j : Nat, j < k → zxL σ k (115 + 15 * j) = zO 3 [zr (116 + 15 * j), zi 0] ∧ isSt (zxL σ k) 144 (116 + 15 * j) zX0
  | 0, _ => ⟨zx6_1 σ, zx6_2 σ, fun _ _ _ => rfl, fun j hj => absurd hj (by omega)⟩
  | k + 1, hk => by
    obtain ⟨h1, h2, h3, h4⟩ := zxL_is σ k (by omega)
    have e : zxL σ (k + 1) = zsu (zlN (zxL σ k) (114 + 15 * k)) 102 (zQ 5 2 (zqf 115 15 (k + 1))) := rfl
    obtain ⟨⟨a, b⟩, g1⟩ := zlN_is (zxL σ k) (n := 114 + 15 * k) (by omega) (N := 144) (by omega)
    have g2 := zAg.su (zlN (zxL σ k) (114 + 15 * k)) 102 (zQ 5 2 (zqf 115 15 (k + 1)))
    rw [e]
    refine ⟨(g2 1 (by decide)).trans ((g1 1 (by omega)).trans h1), ?_, fun i hi hne => (g2 i (by omega)).trans ((g1 i (by omega)).trans (h3 i hi hne)), fun j hj => ?_⟩
    · rw [zsu_s]
      rfl
    · by_cases q : j = k
      · rw [show 114 + 15 * (k : Int) + 1 = 115 + 15 * j by omega, show 114 + 15 * (k : Int) + 2 = 116 + 15 * j by omega] at a
        rw [show 114 + 15 * (k : Int) + 2 = 116 + 15 * j by omega] at b
        exact ⟨(g2 _ (by omega)).trans a, b.ag g2 (by omega)⟩
      · obtain ⟨c, d⟩ := h4 j (by omega)
        exact ⟨(g2 _ (by omega)).trans ((g1 _ (by omega)).trans c), (d.ag g1 (by omega)).ag g2 (by omega)⟩
theorem zx6_is (σ : zS) : isSt (zx6 σ) 144 2 zX0 ∧ isHi (zx6 σ) 144 0 0 (fun _ => zX0) ∧ isPd (zx6 σ) 144 (fun _ => 0) 0 0 0 (fun _ => 0) (fun _ => 0) (fun _ => 0) (fun _ => 0) (fun _ => 0) ∧ isM (zx6 σ) 144 111 (fun _ => 0) (fun _ => 0) ∧ zx6 σ 114 = zA 199 (fun _ => 0) := by
  -- what comes after leaves what was before
  have hs := zsG_is σ (n := 1) (by decide) (N := 144) (by decide)
  have hh := zhN_is (zsu (zsG σ 1) 1 (zO 5 [zr 2, zn, zn, zn, zn, zn])) (n := 15) (by decide) (N := 144) (by decide)
  have hp := zpN_is (zx3 σ) (n := 102) (by decide) (N := 144) (by decide)
  have hm := zmN_is (zsu (zpN (zx3 σ) 102) 1 (zO 5 [zr 2, zr 16, zr 102, zr 103, zn, zn])) (n := 110) (N := 144) (by decide)
  have gm := zmN_ag (zsu (zpN (zx3 σ) 102) 1 (zO 5 [zr 2, zr 16, zr 102, zr 103, zn, zn])) 110
  have k6 : ∀ i, i ≠ 1 → i ≠ 114 → zx6 σ i = zmN (zsu (zpN (zx3 σ) 102) 1 (zO 5 [zr 2, zr 16, zr 102, zr 103, zn, zn])) 110 i := fun i h1 h2 => (zsu_n _ _ h1).trans ((zsu_n _ _ h2).trans (zsu_n _ _ h1))
  have k4 : ∀ i, i ≠ 1 → ¬ (111 ≤ i ∧ i ≤ 114) → zx6 σ i = zpN (zx3 σ) 102 i := fun i h1 h2 => (k6 i h1 (by omega)).trans ((gm i (by omega)).trans (zsu_n _ _ h1))
  have k3 : ∀ i, i ≠ 1 → ¬ (103 ≤ i ∧ i ≤ 114) → zx6 σ i = zx3 σ i := fun i h1 h2 => (k4 i h1 (by omega)).trans (hp.2 i (by omega))
  have k2 : ∀ i, i ≠ 1 → ¬ (102 ≤ i ∧ i ≤ 114) → zx6 σ i = zhN (zsu (zsG σ 1) 1 (zO 5 [zr 2, zn, zn, zn, zn, zn])) 15 i := fun i h1 h2 => (k3 i h1 (by omega)).trans ((zsu_n _ _ h1).trans ((zsu_n _ _ (by omega)).trans (zsu_n _ _ h1)))
  have k1 : ∀ i, i ≠ 1 → ¬ (16 ≤ i ∧ i ≤ 114) → zx6 σ i = zsG σ 1 i := fun i h1 h2 => (k2 i h1 (by omega)).trans ((hh.2 i (by omega)).trans (zsu_n _ _ h1))
  have mv : ∀ {τ : zS} {h : Int} {e t : Int → Int}, isM τ 144 h e t → (∀ i, h ≤ i → i ≤ h + 2 → zx6 σ i = τ i) → isM (zx6 σ) 144 h e t := fun {τ h e t} hm hk => ⟨(hk h (by omega) (by omega)).trans hm.1, (hk (h + 1) (by omega) (by omega)).trans hm.2.1, (hk (h + 2) (by omega) (by omega)).trans hm.2.2.1, hm.2.2.2⟩
  have sv : ∀ {τ : zS} {s : Int}, isSt τ 144 s zX0 → (∀ i, s ≤ i → i ≤ s + 13 → zx6 σ i = τ i) → isSt (zx6 σ) 144 s zX0 := fun {τ s} hm hk => ⟨(hk s (by omega) (by omega)).trans hm.1, (hk (s + 1) (by omega) (by omega)).trans hm.2.1, hm.2.2.1, fun m m1 m2 => mv (hm.2.2.2 m m1 m2) (fun i i1 i2 => hk i (by omega) (by omega))⟩
  refine ⟨sv hs.1 (fun i i1 i2 => k1 i (by omega) (by omega)), ⟨(k2 16 (by decide) (by decide)).trans hh.1.1, (k2 17 (by decide) (by decide)).trans hh.1.2.1, by decide, fun k q1 q2 => sv (hh.1.2.2 k q1 q2) (fun i i1 i2 => k2 i (by omega) (by omega))⟩, ⟨(k4 103 (by decide) (by decide)).trans hp.1.1, (k4 104 (by decide) (by decide)).trans hp.1.2.1, mv hp.1.2.2.1 (fun i i1 i2 => k4 i (by omega) (by omega)), ⟨(k4 108 (by decide) (by decide)).trans hp.1.2.2.2.1, (k4 109 (by decide) (by decide)).trans hp.1.2.2.2.2.1, (k4 110 (by decide) (by decide)).trans hp.1.2.2.2.2.2⟩, ⟨z0Bd, z0St⟩, by decide⟩, mv hm (fun i i1 i2 => k6 i (by omega) (by omega)), ?_⟩
  exact (zsu_n _ _ (by decide)).trans (zsu_s _ _ _)
/-- the object at its start -/
theorem zxF_is {σ τ : zS} (hg : ∀ i, 1 ≤ i → i ≤ 144 → τ i = zxF σ i) : RepC τ 144 zX0 0 0 (fun _ => zX0) (fun _ => (zX0, false)) (fun _ => 0) 0 := by
  obtain ⟨h1, h2, h3, h4⟩ := zxL_is σ 2 (by decide)
  obtain ⟨a1, a2, a3, a4, a5⟩ := zx6_is σ
  have k0 : ∀ i, 1 ≤ i → i ≤ 144 → i ≠ 102 → τ i = zxL σ 2 i := fun i i1 i2 h => (hg i i1 i2).trans (zsu_n _ _ h)
  have k6 : ∀ i, 1 ≤ i → i < 115 → i ≠ 102 → τ i = zx6 σ i := fun i i1 i2 h => (k0 i i1 (by omega) h).trans (h3 i i2 h)
  have mv : ∀ {ρ : zS} {h : Int} {e t : Int → Int}, isM ρ 144 h e t → (∀ i, h ≤ i → i ≤ h + 2 → τ i = ρ i) → isM τ 144 h e t := fun {ρ h e t} hm hk => ⟨(hk h (by omega) (by omega)).trans hm.1, (hk (h + 1) (by omega) (by omega)).trans hm.2.1, (hk (h + 2) (by omega) (by omega)).trans hm.2.2.1, hm.2.2.2⟩
  have sv : ∀ {ρ : zS} {s : Int}, isSt ρ 144 s zX0 → (∀ i, s ≤ i → i ≤ s + 13 → τ i = ρ i) → isSt τ 144 s zX0 := fun {ρ s} hm hk => ⟨(hk s (by omega) (by omega)).trans hm.1, (hk (s + 1) (by omega) (by omega)).trans hm.2.1, hm.2.2.1, fun m m1 m2 => mv (hm.2.2.2 m m1 m2) (fun i i1 i2 => hk i (by omega) (by omega))⟩
  have ok0 : okS zX0 := ⟨fun _ => z0Bd, fun _ => z0St⟩
  refine ⟨⟨(k0 1 (by decide) (by decide) (by decide)).trans h1, Nat.le_refl _⟩, ⟨sv a1 (fun i i1 i2 => k6 i (by omega) (by omega) (by omega)), ok0⟩, ⟨⟨(k6 16 (by decide) (by decide) (by decide)).trans a2.1, (k6 17 (by decide) (by decide) (by decide)).trans a2.2.1, a2.2.2.1, fun k q1 q2 => sv (a2.2.2.2 k q1 q2) (fun i i1 i2 => k6 i (by omega) (by omega) (by omega))⟩, fun _ => ok0⟩, ⟨⟨(hg 102 (by decide) (by decide)).trans (zsu_s _ _ _), fun k q1 q2 => ?_⟩, fun _ => ok0⟩, ?_, ⟨_, _, mv a4 (fun i i1 i2 => k6 i (by omega) (by omega) (by omega))⟩, ⟨_, (k6 114 (by decide) (by decide) (by decide)).trans a5⟩⟩
  · obtain ⟨c, d⟩ := h4 k.toNat (by omega)
    rw [Int.toNat_of_nonneg q1] at c d
    exact ⟨(k0 _ (by omega) (by omega) (by omega)).trans c, sv d (fun i i1 i2 => k0 i (by omega) (by omega) (by omega))⟩
  · obtain ⟨b1, b2, b3, b4, b5⟩ := a3
    exact ⟨0, 0, _, _, _, _, _, (k6 103 (by decide) (by decide) (by decide)).trans b1, (k6 104 (by decide) (by decide) (by decide)).trans b2, mv b3 (fun i i1 i2 => k6 i (by omega) (by omega) (by omega)), ⟨(k6 108 (by decide) (by decide) (by decide)).trans b4.1, (k6 109 (by decide) (by decide) (by decide)).trans b4.2.1, (k6 110 (by decide) (by decide) (by decide)).trans b4.2.2⟩, b5⟩
theorem zRl_0 : zRl zX0 (fun _ => 0) := ⟨fun m _ => ⟨fun _ _ _ => rfl, fun _ _ _ _ _ _ _ => rfl, fun _ _ _ _ _ => by show (0 : Int) ≠ 3; decide, fun _ _ _ _ _ _ _ _ _ _ _ _ _ _ => rfl⟩, rfl, fun _ _ _ _ _ _ => by show (0 : Int) ≤ 0 ∧ (0 : Int) ≤ 3; decide, fun _ _ _ _ _ => by show (-1000000 : Int) ≤ 0 ∧ (0 : Int) ≤ 1000000; decide⟩
