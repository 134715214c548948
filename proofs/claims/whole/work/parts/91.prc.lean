theorem zrms {X : zSV} {S : Int → Int} (h : zRl X S) : zsm (fun m => zroom (X.2.1 m) 3 0 0) 4 = zsm (fun m => zrmF (zsT S m) 0 0 0) 4 := zsm_cg 4 (fun m hm => by
  have hmm := h.1 m (by omega)
  rw [zroom_F (hmm.2.1.symm.Vl hmm.2.2.1), hmm.2.1.room])
theorem zsgn_ex (u : Int) : ∃ k : Nat, zsgn u k ∧ k ≤ 8 := by
  by_cases h : ∃ k : Nat, zsg u k
  · obtain ⟨k, hk⟩ := h
    exact ⟨k, Or.inl hk, hk.1.2⟩
  · exact ⟨0, Or.inr ⟨rfl, fun j hj => h ⟨j, hj⟩⟩, by decide⟩
/-- the reading of values, as the class does it -/
def zkR (f : Int → Int) (L : Int) : zRVs := fun m p x u => zrv 80 (zvl f L) f L m p x u
theorem zkt (f : Int → Int) (L : Int) : isKT (zkR f L) (zvl f L) f L := ⟨rfl, 80, rfl, rfl⟩
theorem zRk.rg {A B : Int → Int} (h : zRk A B) (hA : ∀ k, 0 ≤ k → k < 85 → 0 ≤ A k ∧ A k ≤ 3) : ∀ k, 0 ≤ k → k < 85 → 0 ≤ B k ∧ B k ≤ 3 := fun k k1 k2 => by
  rcases h k k1 k2 with a | a
  · exact a
  · rw [a]
    exact hA k k1 k2
section
variable {σ : zS} {um L um2 L2 p lv br bc : Int} {wl : Bool} {S U Z H P : Int → Int}
theorem RepM.oo (R : RepM σ um L S U Z H P) : RepM (zsu σ 145 (zMO um2 L2 p wl lv br bc)) um2 L2 S U Z H P ∧ zAg σ (zsu σ 145 (zMO um2 L2 p wl lv br bc)) 145 155 := by
  obtain ⟨-, h2, ⟨A, h3⟩, h4, h5, h6, h7, ⟨Rd, h8, h8b⟩, ⟨Va, h9⟩, ⟨Ot, h10⟩, O2, h11⟩ := R
  have hg : ∀ k, k ≠ 145 → zsu σ 145 (zMO um2 L2 p wl lv br bc) k = σ k := fun k hk => zsu_n _ _ hk
  exact ⟨⟨⟨p, wl, lv, br, bc, zsu_s _ _ _⟩, (hg _ (by decide)).trans h2, ⟨A, (hg _ (by decide)).trans h3⟩, (hg _ (by decide)).trans h4, (hg _ (by decide)).trans h5, (hg _ (by decide)).trans h6, (hg _ (by decide)).trans h7, ⟨Rd, (hg _ (by decide)).trans h8, h8b⟩, ⟨Va, (hg _ (by decide)).trans h9⟩, ⟨Ot, (hg _ (by decide)).trans h10⟩, O2, (hg _ (by decide)).trans h11⟩, zAg.q (by decide)⟩
theorem RepM.ss (R : RepM σ um L S U Z H P) (S2 : Int → Int) : RepM (zsu σ 146 (zA 1365 S2)) um L S2 U Z H P ∧ zAg σ (zsu σ 146 (zA 1365 S2)) 145 155 := by
  obtain ⟨⟨p, wl, lv, br, bc, h1⟩, h2, ⟨A, h3⟩, h4, h5, h6, h7, ⟨Rd, h8, h8b⟩, ⟨Va, h9⟩, ⟨Ot, h10⟩, O2, h11⟩ := R
  have hg : ∀ k, k ≠ 146 → zsu σ 146 (zA 1365 S2) k = σ k := fun k hk => zsu_n _ _ hk
  exact ⟨⟨⟨p, wl, lv, br, bc, (hg _ (by decide)).trans h1⟩, zsu_s _ _ _, ⟨A, (hg _ (by decide)).trans h3⟩, (hg _ (by decide)).trans h4, (hg _ (by decide)).trans h5, (hg _ (by decide)).trans h6, (hg _ (by decide)).trans h7, ⟨Rd, (hg _ (by decide)).trans h8, h8b⟩, ⟨Va, (hg _ (by decide)).trans h9⟩, ⟨Ot, (hg _ (by decide)).trans h10⟩, O2, (hg _ (by decide)).trans h11⟩, zAg.q (by decide)⟩
theorem RepM.uu (R : RepM σ um L S U Z H P) (U2 : Int → Int) : RepM (zsu σ 148 (zA 8190 U2)) um L S U2 Z H P ∧ zAg σ (zsu σ 148 (zA 8190 U2)) 145 155 := by
  obtain ⟨⟨p, wl, lv, br, bc, h1⟩, h2, ⟨A, h3⟩, h4, h5, h6, h7, ⟨Rd, h8, h8b⟩, ⟨Va, h9⟩, ⟨Ot, h10⟩, O2, h11⟩ := R
  have hg : ∀ k, k ≠ 148 → zsu σ 148 (zA 8190 U2) k = σ k := fun k hk => zsu_n _ _ hk
  exact ⟨⟨⟨p, wl, lv, br, bc, (hg _ (by decide)).trans h1⟩, (hg _ (by decide)).trans h2, ⟨A, (hg _ (by decide)).trans h3⟩, zsu_s _ _ _, (hg _ (by decide)).trans h5, (hg _ (by decide)).trans h6, (hg _ (by decide)).trans h7, ⟨Rd, (hg _ (by decide)).trans h8, h8b⟩, ⟨Va, (hg _ (by decide)).trans h9⟩, ⟨Ot, (hg _ (by decide)).trans h10⟩, O2, (hg _ (by decide)).trans h11⟩, zAg.q (by decide)⟩
theorem RepM.us (R : RepM σ um L S U Z H P) (S2 : Int → Int) : RepM (zsu (zsu σ 145 (zMO um2 L2 p wl lv br bc)) 146 (zA 1365 S2)) um2 L2 S2 U Z H P ∧ zAg σ (zsu (zsu σ 145 (zMO um2 L2 p wl lv br bc)) 146 (zA 1365 S2)) 145 155 := by
  obtain ⟨a, g⟩ := R.oo (um2 := um2) (L2 := L2) (p := p) (wl := wl) (lv := lv) (br := br) (bc := bc)
  obtain ⟨b, g2⟩ := a.ss S2
  exact ⟨b, g.trans g2⟩
theorem RepM.rs (R : RepM σ um L S U Z H P) (S2 U2 : Int → Int) : RepM (zsu (zsu (zsu σ 148 (zA 8190 U2)) 145 (zMO um2 L2 p wl lv br bc)) 146 (zA 1365 S2)) um2 L2 S2 U2 Z H P ∧ zAg σ (zsu (zsu (zsu σ 148 (zA 8190 U2)) 145 (zMO um2 L2 p wl lv br bc)) 146 (zA 1365 S2)) 145 155 := by
  obtain ⟨a, g⟩ := R.uu U2
  obtain ⟨b, g2⟩ := a.us (um2 := um2) (L2 := L2) (p := p) (wl := wl) (lv := lv) (br := br) (bc := bc) S2
  exact ⟨b, g.trans g2⟩
theorem RepM.sv (R : RepM σ um L S U Z H P) (Z2 H2 : Int → Int) : RepM (zsu (zsu σ 149 (zA 2730 Z2)) 150 (zP 1 2 H2)) um L S U Z2 H2 P ∧ zAg σ (zsu (zsu σ 149 (zA 2730 Z2)) 150 (zP 1 2 H2)) 145 155 := by
  obtain ⟨⟨p, wl, lv, br, bc, h1⟩, h2, ⟨A, h3⟩, h4, h5, h6, h7, ⟨Rd, h8, h8b⟩, ⟨Va, h9⟩, ⟨Ot, h10⟩, O2, h11⟩ := R
  have hg : ∀ k, k ≠ 149 ∧ k ≠ 150 → zsu (zsu σ 149 (zA 2730 Z2)) 150 (zP 1 2 H2) k = σ k := fun k hk => (zsu_n _ _ hk.2).trans (zsu_n _ _ hk.1)
  exact ⟨⟨⟨p, wl, lv, br, bc, (hg _ (by decide)).trans h1⟩, (hg _ (by decide)).trans h2, ⟨A, (hg _ (by decide)).trans h3⟩, (hg _ (by decide)).trans h4, (zsu_n _ _ (by decide)).trans (zsu_s _ _ _), zsu_s _ _ _, (hg _ (by decide)).trans h7, ⟨Rd, (hg _ (by decide)).trans h8, h8b⟩, ⟨Va, (hg _ (by decide)).trans h9⟩, ⟨Ot, (hg _ (by decide)).trans h10⟩, O2, (hg _ (by decide)).trans h11⟩, (zAg.q (by decide)).trans (zAg.q (by decide))⟩
theorem RepM.pt (R : RepM σ um L S U Z H P) (P2 : Int → Int) : RepM (zsu (zsu σ 151 (zA 80 P2)) 145 (zMO um L2 p wl lv br bc)) um L2 S U Z H P2 ∧ zAg σ (zsu (zsu σ 151 (zA 80 P2)) 145 (zMO um L2 p wl lv br bc)) 145 155 := by
  obtain ⟨-, h2, ⟨A, h3⟩, h4, h5, h6, h7, ⟨Rd, h8, h8b⟩, ⟨Va, h9⟩, ⟨Ot, h10⟩, O2, h11⟩ := R
  have hg : ∀ k, k ≠ 151 ∧ k ≠ 145 → zsu (zsu σ 151 (zA 80 P2)) 145 (zMO um L2 p wl lv br bc) k = σ k := fun k hk => (zsu_n _ _ hk.2).trans (zsu_n _ _ hk.1)
  exact ⟨⟨⟨p, wl, lv, br, bc, zsu_s _ _ _⟩, (hg _ (by decide)).trans h2, ⟨A, (hg _ (by decide)).trans h3⟩, (hg _ (by decide)).trans h4, (hg _ (by decide)).trans h5, (hg _ (by decide)).trans h6, (zsu_n _ _ (by decide)).trans (zsu_s _ _ _), ⟨Rd, (hg _ (by decide)).trans h8, h8b⟩, ⟨Va, (hg _ (by decide)).trans h9⟩, ⟨Ot, (hg _ (by decide)).trans h10⟩, O2, (hg _ (by decide)).trans h11⟩, (zAg.q (by decide)).trans (zAg.q (by decide))⟩
theorem zAg.qm {Rd Va Ot : Int → Int} : zAg σ (zqm σ um L p wl lv br bc Rd Va Ot) 145 155 := fun k hk => zqm_o (by omega)
theorem RepM.rd (R : RepM σ um L S U Z H P) (Rd Va Ot : Int → Int) (hR : ∀ k, 0 ≤ k → k < 85 → 0 ≤ Rd k ∧ Rd k ≤ 3) : RepM (zqm σ um2 L2 p wl lv br bc Rd Va Ot) um2 L2 S U Z H P ∧ zAg σ (zqm σ um2 L2 p wl lv br bc Rd Va Ot) 145 155 := by
  obtain ⟨-, h2, ⟨A, h3⟩, h4, h5, h6, h7, -, -, -, O2, h11⟩ := R
  exact ⟨⟨⟨p, wl, lv, br, bc, zqm_M⟩, (zqm_o (by decide)).trans h2, ⟨A, (zqm_o (by decide)).trans h3⟩, (zqm_o (by decide)).trans h4, (zqm_o (by decide)).trans h5, (zqm_o (by decide)).trans h6, (zqm_o (by decide)).trans h7, ⟨Rd, zqm_R, hR⟩, ⟨Va, zqm_V⟩, ⟨Ot, zqm_O⟩, O2, (zqm_o (by decide)).trans h11⟩, zAg.qm⟩
theorem RepM.ct (R : RepM σ um L S U Z H P) (O : zC) (S2 S3 U2 : Int → Int) : RepM (zsu (zsu (zM4 σ O S2 U2) 145 (zMO um2 L2 p wl lv br bc)) 146 (zA 1365 S3)) um2 L2 S3 U2 Z H P ∧ zAg σ (zsu (zsu (zM4 σ O S2 U2) 145 (zMO um2 L2 p wl lv br bc)) 146 (zA 1365 S3)) 145 155 := by
  obtain ⟨-, h2, ⟨A, h3⟩, h4, h5, h6, h7, ⟨Rd, h8, h8b⟩, ⟨Va, h9⟩, ⟨Ot, h10⟩, O2, h11⟩ := R
  have hg : ∀ k, k ≠ 145 ∧ k ≠ 146 ∧ k ≠ 148 → zsu (zsu (zM4 σ O S2 U2) 145 (zMO um2 L2 p wl lv br bc)) 146 (zA 1365 S3) k = σ k := fun k hk => (zsu_n _ _ hk.2.1).trans ((zsu_n _ _ hk.1).trans (zM4_o _ _ _ _ hk))
  exact ⟨⟨⟨p, wl, lv, br, bc, (zsu_n _ _ (by decide)).trans (zsu_s _ _ _)⟩, zsu_s _ _ _, ⟨A, (hg _ (by decide)).trans h3⟩, (zsu_n _ _ (by decide)).trans ((zsu_n _ _ (by decide)).trans (zM4_U _ _ _ _)), (hg _ (by decide)).trans h5, (hg _ (by decide)).trans h6, (hg _ (by decide)).trans h7, ⟨Rd, (hg _ (by decide)).trans h8, h8b⟩, ⟨Va, (hg _ (by decide)).trans h9⟩, ⟨Ot, (hg _ (by decide)).trans h10⟩, O2, (hg _ (by decide)).trans h11⟩, fun k hk => hg k (by omega)⟩
end
theorem pr_undo {n : Nat} {σ : zS} (R : zAll σ n) : ∃ (h1 h2 : Nat) (r : Int) (σ1 σ2 : zS), ((h1 ≤ 18 ∧ h2 ≤ 18) ∧ ∃ vs, σ1 145 = zO 6 vs) ∧ zCt h1 0 0 yX5_undo cX5_undo 1 (some .int) [zr 1] n σ (some (zi r)) n σ1 ∧ zCt h2 0 0 yX6_undo cX6_undo 2 (some .int) [zr 145] n σ1 (some (zi r)) n σ2 ∧ zAll σ2 n := by
  obtain ⟨X, o, l, Hs, Sl, f, L, S, U, Z, H, P, RC, RM, Pu⟩ := id R
  have hn := RC.nn
  have hlb := RC.b
  by_cases hv : 0 < l
  · have h5 := ctX5_undo RC hv
    obtain ⟨RC2, g⟩ := RC.un hv
    have RM2 := RM.cl g
    obtain ⟨p, wl, lv, br, bc, hM⟩ := RM2.1
    have h6 := ctX6_undo hM RM2.2.1 RM2.2.2.2.1 hn ⟨hv, hlb.2.2⟩
    obtain ⟨RM3, g3⟩ := RM2.us (um2 := l - 1) (L2 := L) (p := p) (wl := wl) (lv := lv) (br := br) (bc := bc) (zcpy S (fun j => U (1365 * (l - 1) + j)) 1365)
    exact ⟨4, 13, _, _, _, ⟨by decide, RM2.vs⟩, h5, h6, _, _, _, _, _, _, _, _, _, _, _, _, RC2.md g3, RM3, Pu.un hv S⟩
  · obtain ⟨p, wl, lv, br, bc, hM⟩ := RM.1
    exact ⟨4, 13, -5, σ, σ, ⟨by decide, RM.vs⟩, ctX5_undoE RC (by omega), ctX6_undoE hM hn (by omega), R⟩
theorem pr_save {n : Nat} {σ : zS} (R : zAll σ n) (k : Int) (bk : -2147483648 ≤ k ∧ k < 2147483648) : ∃ (h1 h2 : Nat) (r : Int) (σ1 σ2 : zS), ((h1 ≤ 18 ∧ h2 ≤ 18) ∧ ∃ vs, σ1 145 = zO 6 vs) ∧ zCt h1 0 0 yX5_save cX5_save 2 (some .int) [zr 1, zi k] n σ (some (zi r)) n σ1 ∧ zCt h2 0 0 yX6_save cX6_save 3 (some .int) [zr 145, zi k] n σ1 (some (zi r)) n σ2 ∧ zAll σ2 n := by
  obtain ⟨X, o, l, Hs, Sl, f, L, S, U, Z, H, P, RC, RM, Pu⟩ := id R
  have hn := RC.nn
  have hlb := RC.b
  obtain ⟨p0, wl0, lv0, br0, bc0, hM0⟩ := RM.1
  by_cases hv : 0 ≤ k ∧ k < 2
  rotate_left
  · exact ⟨10, 13, -2, σ, σ, ⟨by decide, RM.vs⟩, ctX5_saveE k bk hv, ctX6_saveE hM0 hn k bk ⟨rfl, hv⟩, R⟩
  have h5 := ctX5_save RC k hv
  obtain ⟨RC2, g⟩ := RC.sv hv
  have RM2 := RM.cl g
  have h6 := ctX6_save (RM2.mo hn) Pu.1.2.2.1 RM2.2.2.2.2.1 RM2.2.2.2.2.2.1 k hv
  rw [← zrms Pu.1] at h6
  obtain ⟨RM3, g3⟩ := RM2.sv (zseg Z S (1365 * k) 1365) (zu H k 1)
  exact ⟨10, 13, _, _, _, ⟨by decide, RM2.vs⟩, h5, h6, _, _, _, _, _, _, _, _, _, _, _, _, RC2.md g3, RM3, Pu.sv hv⟩
theorem pr_restore {n : Nat} {σ : zS} (R : zAll σ n) (k : Int) (bk : -2147483648 ≤ k ∧ k < 2147483648) : ∃ (h1 h2 : Nat) (r : Int) (σ1 σ2 : zS), ((h1 ≤ 18 ∧ h2 ≤ 18) ∧ ∃ vs, σ1 145 = zO 6 vs) ∧ zCt h1 0 0 yX5_restore cX5_restore 2 (some .int) [zr 1, zi k] n σ (some (zi r)) n σ1 ∧ zCt h2 0 0 yX6_restore cX6_restore 3 (some .int) [zr 145, zi k] n σ1 (some (zi r)) n σ2 ∧ zAll σ2 n := by
  obtain ⟨X, o, l, Hs, Sl, f, L, S, U, Z, H, P, RC, RM, Pu⟩ := id R
  have hn := RC.nn
  have hlb := RC.b
  obtain ⟨p0, wl0, lv0, br0, bc0, hM0⟩ := RM.1
  by_cases hv : 0 ≤ k ∧ k < 2
  rotate_left
  · exact ⟨10, 13, -2, σ, σ, ⟨by decide, RM.vs⟩, ctX5_restoreE k bk hv, ctX6_restoreE hM0 hn k bk ⟨rfl, hv⟩, R⟩
  have hs2 := Pu.2.2.1 k hv.1 hv.2
  cases hs : (Sl k).2
  · rw [hs] at hs2
    exact ⟨10, 13, -5, σ, σ, ⟨by decide, RM.vs⟩, ctX5_restoreN RC k hv hs, ctX6_restoreN hM0 hn RM.2.2.2.2.2.1 k hv hs2.1, R⟩
  · rw [hs] at hs2
    have h5 := ctX5_restore RC k hv hs
    obtain ⟨RC2, g⟩ := RC.rs hv
    have RM2 := RM.cl g
    obtain ⟨p, wl, lv, br, bc, hM⟩ := RM2.1
    have rel := Pu.rs hv hs S
    have h6 := ctX6_restore hM RM2.2.1 RM2.2.2.2.1 hn hlb.2 RM2.2.2.2.2.1 RM2.2.2.2.2.2.1 k hv hs2.1 rel.2.2.1
    rw [← zrms rel] at h6
    obtain ⟨RM3, g3⟩ := RM2.rs (um2 := zu1 l + 1) (L2 := L) (p := p) (wl := wl) (lv := lv) (br := br) (bc := bc) (zcpy S (fun j => Z (1365 * k + j)) 1365) (zU2 l U S)
    rw [← zkL_u hlb.2] at RM3 g3 h6
    exact ⟨10, 13, _, _, _, ⟨by decide, RM2.vs⟩, h5, h6, _, _, _, _, _, _, _, _, _, _, _, _, RC2.md g3, RM3, Pu.ch hlb rel⟩
theorem pr_wipe {n : Nat} {σ : zS} (R : zAll σ n) : ∃ (h1 h2 : Nat) (r : Int) (σ1 σ2 : zS), ((h1 ≤ 18 ∧ h2 ≤ 18) ∧ ∃ vs, σ1 145 = zO 6 vs) ∧ zCt h1 0 0 yX5_wipe cX5_wipe 2 (some .int) [zr 1] n σ (some (zi r)) n σ1 ∧ zCt h2 0 0 yX6_wipe cX6_wipe 2 (some .int) [zr 145] n σ1 (some (zi r)) n σ2 ∧ zAll σ2 n := by
  obtain ⟨X, o, l, Hs, Sl, f, L, S, U, Z, H, P, RC, RM, Pu⟩ := id R
  have hn := RC.nn
  have hlb := RC.b
  obtain ⟨p0, x0, hP0, -⟩ := RC.p0
  have h5 := ctX5_wipe RC.1 hP0
  obtain ⟨RC2, g⟩ := RC.wp p0 x0
  have RM2 := RM.cl g
  obtain ⟨p, wl, lv, br, bc, hM⟩ := RM2.1
  have h6 := ctX6_wipe hM hn
  obtain ⟨RM3, g3⟩ := RM2.oo (L2 := 0) (p := p) (wl := wl) (lv := lv) (br := br) (bc := bc)
  exact ⟨1, 13, _, _, _, ⟨by decide, RM2.vs⟩, h5, h6, _, _, _, _, _, _, _, _, _, _, _, _, RC2.md g3, RM3, Pu.wp⟩
theorem pr_put {n : Nat} {σ : zS} (R : zAll σ n) (z : Int) (bz : -9223372036854775808 ≤ z ∧ z < 9223372036854775808) : ∃ (h1 h2 : Nat) (r : Int) (σ1 σ2 : zS), ((h1 ≤ 18 ∧ h2 ≤ 18) ∧ ∃ vs, σ1 145 = zO 6 vs) ∧ zCt h1 0 0 yX5_put cX5_put 5 (some .int) [zr 1, zl z] n σ (some (zi r)) n σ1 ∧ zCt h2 0 0 yX6_put cX6_put 8 (some .int) [zr 145, zl z] n σ1 (some (zi r)) n σ2 ∧ zAll σ2 n := by
  obtain ⟨X, o, l, Hs, Sl, f, L, S, U, Z, H, P, RC, RM, Pu⟩ := id R
  have hn := RC.nn
  obtain ⟨k, hk, hk8⟩ := zsgn_ex (z % 18446744073709551616)
  obtain ⟨p0, x0, hP0, hP1, hL⟩ := RC.p0
  obtain ⟨p1, wl1, lv1, br1, bc1, hM1⟩ := RM.1
  by_cases hk0 : k = 0
  · exact ⟨3, 13, -2, σ, σ, ⟨by decide, RM.vs⟩, ctX5_putE bz hk RC.1 hP0 hL hk8 (Or.inl ⟨rfl, hk0⟩), ctX6_put hM1 RM.2.2.2.2.2.2.1 hn hL bz hk (Or.inl ⟨rfl, hk0, rfl⟩), R⟩
  by_cases hkL : L + k ≤ 80
  · have h5 := ctX5_put bz hk RC.1 hP0 hP1 ⟨hL.1, hkL⟩ ⟨by omega, hk8⟩
    obtain ⟨RC2, g⟩ := RC.pt (L2 := L + k) (by omega) (fun j => if L ≤ j ∧ j < L + k then z % 18446744073709551616 / 256 ^ (L + k - 1 - j).toNat % 256 else f j) p0 x0
    have RM2 := RM.cl g
    obtain ⟨p, wl, lv, br, bc, hM⟩ := RM2.1
    have h6 := ctX6_put hM RM2.2.2.2.2.2.2.1 hn hL bz hk (Or.inr (Or.inr ⟨rfl, ⟨by omega, hk8⟩, hkL, rfl⟩))
    obtain ⟨RM3, g3⟩ := RM2.pt (L2 := L + k) (p := p) (wl := wl) (lv := lv) (br := br) (bc := bc) (fun j => if L ≤ j ∧ j < L + k then z % 18446744073709551616 / 256 ^ (L + k - 1 - j).toNat % 256 else P j)
    exact ⟨3, 13, _, _, _, ⟨by decide, RM2.vs⟩, h5, h6, _, _, _, _, _, _, _, _, _, _, _, _, RC2.md g3, RM3, Pu.pt hkL (fun j => z % 18446744073709551616 / 256 ^ (L + k - 1 - j).toNat % 256) (fun j => by omega)⟩
  · exact ⟨3, 13, -4, σ, σ, ⟨by decide, RM.vs⟩, ctX5_putE bz hk RC.1 hP0 hL hk8 (Or.inr ⟨rfl, hk0, by omega⟩), ctX6_put hM1 RM.2.2.2.2.2.2.1 hn hL bz hk (Or.inr (Or.inl ⟨rfl, hk0, by omega, rfl⟩)), R⟩
theorem pr_fault {n : Nat} {σ : zS} (R : zAll σ n) : ∃ (h1 h2 : Nat) (r : Int) (σ1 σ2 : zS), ((h1 ≤ 18 ∧ h2 ≤ 18) ∧ ∃ vs, σ1 145 = zO 6 vs) ∧ zCt h1 0 0 yX5_fault cX5_fault 1 (some .int) [zr 1] n σ (some (zi r)) n σ1 ∧ zCt h2 0 0 yX6_fault cX6_fault 1 (some .int) [zr 145] n σ1 (some (zi r)) n σ2 ∧ zAll σ2 n := by
  obtain ⟨X, o, l, Hs, Sl, f, L, S, U, Z, H, P, RC, RM, Pu⟩ := id R
  have hn := RC.nn
  have hlb := RC.b
  obtain ⟨px, xx, te, tt, u, v, w, hPd⟩ := RC.2.2.2.2.1
  have hT0 : zBd (zps px xx te tt u v w).e ∧ zSt (zps px xx te tt u v w).t := hPd.2.2.2.2.1
  have hf := Pu.2.2.2.2.2
  have hL := Pu.2.2.2.1
  have hKT := zkt f L
  have hPb := isPb.of hPd hf hn
  have hrd := zrd_is hKT hPb hT0
  have hPd2 := zpm_Pd hPb hrd
  have h5 := ctX5_fault RC hKT (S := zps px xx te tt u v w) hPd hT0 hf
  have RC2 := RC.pad (zpm_ag σ L _) ⟨_, _, _, _, _, _, _, hPd2⟩
  have g : zAg σ (zpm σ L (zrd (zkR f L) (zvl f L) f L (zps px xx te tt u v w)).2) 1 144 := (zpm_ag σ L _).wide (by decide)
  have RM2 := RM.cl g
  obtain ⟨p, wl, lv, br, bc, hM⟩ := RM2.1
  obtain ⟨Rd, hR, hRb⟩ := RM2.2.2.2.2.2.2.2.1
  obtain ⟨Va, hV⟩ := RM2.2.2.2.2.2.2.2.2.1
  obtain ⟨Ot, hO⟩ := RM2.2.2.2.2.2.2.2.2.2.1
  have hMt : zMt Rd (zps 0 0 (fun j => Rd (85 + j)) Rd u v w) := ⟨fun _ _ _ => rfl, fun _ _ _ => rfl⟩
  obtain ⟨p2, w2, l2, br2, bc2, Rd2, Va2, Ot2, h6, hk⟩ := ctX6_fault hKT hM RM2.2.2.2.2.2.2.1 hR hV hO hn Pu.2.2.2 (zps 0 0 (fun j => Rd (85 + j)) Rd u v w) hMt
  rw [← zwl_pe hKT hL (zps px xx te tt u v w), ← (zrd_pe hKT hL (zps px xx te tt u v w) (zps 0 0 (fun j => Rd (85 + j)) Rd u v w)).2.1] at h6
  obtain ⟨RM3, g3⟩ := RM2.rd (um2 := l) (L2 := L) (p := p2) (wl := w2) (lv := l2) (br := br2) (bc := bc2) Rd2 Va2 Ot2 (hk.rg hRb)
  exact ⟨13, 13, _, _, _, ⟨by decide, RM2.vs⟩, h5, h6, _, _, _, _, _, _, _, _, _, _, _, _, RC2.md g3, RM3, Pu⟩
theorem pr_tell {n : Nat} {σ : zS} (R : zAll σ n) (m : Int) (bm : -2147483648 ≤ m ∧ m < 2147483648) : ∃ (h1 h2 : Nat) (r : Int) (σ1 σ2 : zS), ((h1 ≤ 18 ∧ h2 ≤ 18) ∧ ∃ vs, σ1 145 = zO 6 vs) ∧ zCt h1 0 0 yX5_tell cX5_tell 2 (some .int) [zr 1, zi m] n σ (some (zi r)) n σ1 ∧ zCt h2 0 0 yX6_tell cX6_tell 3 (some .int) [zr 145, zi m] n σ1 (some (zi r)) n σ2 ∧ zAll σ2 n := by
  obtain ⟨X, o, l, Hs, Sl, f, L, S, U, Z, H, P, RC, RM, Pu⟩ := id R
  have hn := RC.nn
  have hlb := RC.b
  obtain ⟨p0, wl0, lv0, br0, bc0, hM0⟩ := RM.1
  by_cases hv : (0 ≤ m ∧ m < 4)
  rotate_left
  · exact ⟨13, 18, -1, σ, σ, ⟨by decide, RM.vs⟩, ctX5_tellE m bm ⟨rfl, hv⟩, ctX6_tellE hM0 hn m bm ⟨rfl, hv⟩, R⟩
  obtain ⟨px, xx, te, tt, u, v, w, hPd⟩ := RC.2.2.2.2.1
  have hT0 : zBd (zps px xx te tt u v w).e ∧ zSt (zps px xx te tt u v w).t := hPd.2.2.2.2.1
  have hf := Pu.2.2.2.2.2
  have hL := Pu.2.2.2.1
  have hKT := zkt f L
  have hPb := isPb.of hPd hf hn
  have hrd := zrd_is hKT hPb hT0
  have hPd2 := zpm_Pd hPb hrd
  have RC2 := RC.pad (zpm_ag σ L _) ⟨_, _, _, _, _, _, _, hPd2⟩
  cases hw : zwl L (zrd (zkR f L) (zvl f L) f L (zps px xx te tt u v w))
  · have h5 := ctX5_tellF RC hKT (S := zps px xx te tt u v w) hPd hT0 hf m hv hw
    have g : zAg σ (zpm σ L (zrd (zkR f L) (zvl f L) f L (zps px xx te tt u v w)).2) 1 144 := (zpm_ag σ L _).wide (by decide)
    have RM2 := RM.cl g
    obtain ⟨p, wl, lv, br, bc, hM⟩ := RM2.1
    obtain ⟨Rd, hR, hRb⟩ := RM2.2.2.2.2.2.2.2.1
    obtain ⟨Va, hV⟩ := RM2.2.2.2.2.2.2.2.2.1
    obtain ⟨Ot, hO⟩ := RM2.2.2.2.2.2.2.2.2.2.1
    have hMt : zMt Rd (zps 0 0 (fun j => Rd (85 + j)) Rd u v w) := ⟨fun _ _ _ => rfl, fun _ _ _ => rfl⟩
    have hpe := zrd_pe hKT hL (zps px xx te tt u v w) (zps 0 0 (fun j => Rd (85 + j)) Rd u v w)
    rw [zwl_pe hKT hL (zps px xx te tt u v w) (zps 0 0 (fun j => Rd (85 + j)) Rd u v w)] at hw
    obtain ⟨p2, w2, l2, br2, bc2, Rd2, Va2, Ot2, h6, hk⟩ := ctX6_tellF hKT hM RM2.2.2.2.2.2.2.1 hR hV hO hn Pu.2.2.2 (zps 0 0 (fun j => Rd (85 + j)) Rd u v w) hMt m hv hw (by rw [← hpe.2.1]; exact hpe.2.2.1)
    obtain ⟨RM3, g3⟩ := RM2.rd (um2 := l) (L2 := L) (p := p2) (wl := w2) (lv := l2) (br := br2) (bc := bc2) Rd2 Va2 Ot2 (hk.rg hRb)
    exact ⟨13, 13, _, _, _, ⟨by decide, RM2.vs⟩, h5, h6, _, _, _, _, _, _, _, _, _, _, _, _, RC2.md g3, RM3, Pu⟩
  · have h5 := ctX5_tell RC hKT (S := zps px xx te tt u v w) hPd hT0 hf m hv hw
    have hw2 := (zwl_pe hKT hL (zps px xx te tt u v w) (zps 0 0 (fun j => 0) (fun j => 0) u v w)).symm.trans hw
    have hw1 : (zrd (zkR f L) (zvl f L) f L (zps px xx te tt u v w)).1 = true := by
      unfold zwl at hw
      rw [Bool.and_eq_true] at hw
      exact hw.1
    have hpe := fun S2 => (zrd_pe hKT hL (zps px xx te tt u v w) S2).2.2.2 hw1
    have hwe := fun S2 => (zwl_pe hKT hL (zps px xx te tt u v w) S2).symm.trans hw
    generalize (zrd (zkR f L) (zvl f L) f L (zps px xx te tt u v w)).2 = T at *
    obtain ⟨RC3, g⟩ := RC2.chg hv hrd.2.1 hrd.2.2
    obtain ⟨RC4, g4⟩ := RC3.wp T.p T.x
    have g9 : zAg σ (zsu (sM (zbc (zpm σ L T) X o l) (2 + 2 + 3 * m) T.e T.t) 103 (zPO 0 T.p T.x)) 1 144 := ((zpm_ag σ L T).wide (by decide)).trans ((g.wide (by decide)).trans g4)
    have RM2 := RM.cl g9
    obtain ⟨p, wl, lv, br, bc, hM⟩ := RM2.1
    obtain ⟨Rd, hR, hRb⟩ := RM2.2.2.2.2.2.2.2.1
    obtain ⟨Va, hV⟩ := RM2.2.2.2.2.2.2.2.2.1
    obtain ⟨Ot, hO⟩ := RM2.2.2.2.2.2.2.2.2.2.1
    have hMt : zMt Rd (zps 0 0 (fun j => Rd (85 + j)) Rd u v w) := ⟨fun _ _ _ => rfl, fun _ _ _ => rfl⟩
    obtain ⟨p2, w2, l2, br2, bc2, Rd2, Va2, Ot2, hMt2, hk, h6⟩ := ctX6_tell hKT hM RM2.2.1 RM2.2.2.2.1 RM2.2.2.2.2.2.2.1 hR hV hO hn hlb.2 Pu.1.2.2.1 Pu.2.2.2 (zps 0 0 (fun j => Rd (85 + j)) Rd u v w) hMt m hv (hwe _) hRb
    have rel := ztl_rl Pu.1 hv (hpe (zps 0 0 (fun j => Rd (85 + j)) Rd u v w)) hMt2 hrd.2.1 (hk.rg hRb)
    rw [← rel.2] at h6
    obtain ⟨RM3, g3⟩ := RM2.rd (um2 := l) (L2 := L) (p := p2) (wl := w2) (lv := l2) (br := br2) (bc := bc2) Rd2 Va2 Ot2 (hk.rg hRb)
    obtain ⟨RM4, g5⟩ := RM3.ct (um2 := zu1 l + 1) (L2 := 0) (p := p2) (wl := w2) (lv := l2) (br := br2) (bc := bc2) (zMO (zu1 l + 1) L p2 w2 l2 br2 bc2) (zcn S) (zseg (zcn S) Rd2 (341 * m) 341) (zU2 l U S)
    rw [← zkL_u hlb.2] at RM4 g5 h6
    exact ⟨13, 13, _, _, _, ⟨by decide, RM2.vs⟩, h5, h6, _, _, _, _, _, _, _, _, _, _, _, _, RC4.md (g3.trans g5), RM4, (Pu.ch hlb rel.1).wp⟩
