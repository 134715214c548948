theorem zBd_u {e : Int → Int} (h : zBd e) (k : Int) {v : Int} (hv : -1000000 ≤ v ∧ v ≤ 1000000) : zBd (zu e k v) := fun j => by
  unfold zu
  split
  · exact hv
  · exact h j
theorem ztp_Bd {e : Int → Int} (h : zBd e) (i k : Int) : zBd (ztp e i k) := fun j => by
  unfold ztp
  split
  · exact h _
  · exact h j
theorem ztq_St {t : Int → Int} (h : zSt t) (F w i k : Int) : zSt (ztq F w t i k) := fun j => by
  unfold ztq
  split
  · exact h _
  · exact h j
theorem zts_St {t : Int → Int} (h : zSt t) : ∀ k : Nat, zSt (zfo (fun t d => zts d t) t k)
  | 0 => h
  | k + 1 => by
    have ih := zts_St h k
    show zSt (zts k (zfo (fun t d => zts d t) t k))
    unfold zts
    split
    · exact ztq_St ih _ _ _ _
    split
    · exact ztq_St ih _ _ _ _
    split
    · exact ztq_St ih _ _ _ _
    · exact ztq_St ih _ _ _ _
theorem zsm_0 {g : Int → Int} (h : ∀ j, 0 ≤ g j) : ∀ k : Nat, 0 ≤ zsm g k
  | 0 => Int.le_refl _
  | k + 1 => Int.add_nonneg (zsm_0 h k) (h k)
theorem zzr_0 (e f : Int → Int) (x : Int) (k : Nat) : 0 ≤ zzr e f x k := zsm_0 (fun j => by split <;> decide) k
theorem zco_e {X : zSV} {S : Int → Int} (h : zRl X S) (L l w : Int) : zcoq X L l w = zco6 S L l w := by
  have h0 : ∀ m : Nat, m < 4 → X.2.1 m 0 = zsT S m 0 := fun m hm => (h.1 m (by omega)).2.1 0 0 0 (by decide) (by decide) (by decide) rfl
  have h1 : zsm (fun m => zroom (X.2.1 m) 3 0 0) 4 = zsm (fun m => zrmF (zsT S m) 0 0 0) 4 := zsm_cg 4 (fun m hm => by
    have hmm := h.1 m (by omega)
    rw [zroom_F (hmm.2.1.symm.Vl hmm.2.2.1), hmm.2.1.room])
  have h2 : zempt X.2.1 4 = zempt (fun m => zsT S m) 4 := zfo_cg 4 (fun a m hm => by rw [h0 m hm])
  unfold zcoq zco6
  rw [h1, h2, h.2.1]
section
variable {σ : zS} {um L : Int} {S U Z H P : Int → Int}
theorem RepM.op (R : RepM σ um L S U Z H P) (O : Int → Int) : RepM (zsu σ 155 (zP 1 85 O)) um L S U Z H P ∧ zAg σ (zsu σ 155 (zP 1 85 O)) 145 155 := by
  obtain ⟨⟨p, wl, lv, br, bc, h1⟩, h2, ⟨A, h3⟩, h4, h5, h6, h7, ⟨Rd, h8, h8b⟩, ⟨Va, h9⟩, ⟨Ot, h10⟩, O2, h11⟩ := R
  have hg : ∀ k, k ≠ 155 → zsu σ 155 (zP 1 85 O) k = σ k := fun k hk => zsu_n _ _ hk
  exact ⟨⟨⟨p, wl, lv, br, bc, (hg _ (by decide)).trans h1⟩, (hg _ (by decide)).trans h2, ⟨A, (hg _ (by decide)).trans h3⟩, (hg _ (by decide)).trans h4, (hg _ (by decide)).trans h5, (hg _ (by decide)).trans h6, (hg _ (by decide)).trans h7, ⟨Rd, (hg _ (by decide)).trans h8, h8b⟩, ⟨Va, (hg _ (by decide)).trans h9⟩, ⟨Ot, (hg _ (by decide)).trans h10⟩, O, zsu_s _ _ _⟩, zAg.q (by decide)⟩
theorem RepM.as (R : RepM σ um L S U Z H P) (A S2 : Int → Int) : RepM (zsu (zsu σ 147 (zA 1365 A)) 146 (zA 1365 S2)) um L S2 U Z H P ∧ zAg σ (zsu (zsu σ 147 (zA 1365 A)) 146 (zA 1365 S2)) 145 155 := by
  obtain ⟨⟨p, wl, lv, br, bc, h1⟩, h2, ⟨A2, h3⟩, h4, h5, h6, h7, ⟨Rd, h8, h8b⟩, ⟨Va, h9⟩, ⟨Ot, h10⟩, O2, h11⟩ := R
  have hg : ∀ k, k ≠ 147 ∧ k ≠ 146 → zsu (zsu σ 147 (zA 1365 A)) 146 (zA 1365 S2) k = σ k := fun k hk => (zsu_n _ _ hk.2).trans (zsu_n _ _ hk.1)
  exact ⟨⟨⟨p, wl, lv, br, bc, (hg _ (by decide)).trans h1⟩, zsu_s _ _ _, ⟨A, (zsu_n _ _ (by decide)).trans (zsu_s _ _ _)⟩, (hg _ (by decide)).trans h4, (hg _ (by decide)).trans h5, (hg _ (by decide)).trans h6, (hg _ (by decide)).trans h7, ⟨Rd, (hg _ (by decide)).trans h8, h8b⟩, ⟨Va, (hg _ (by decide)).trans h9⟩, ⟨Ot, (hg _ (by decide)).trans h10⟩, O2, (hg _ (by decide)).trans h11⟩, (zAg.q (by decide)).trans (zAg.q (by decide))⟩
end
theorem pr_entry {n : Nat} {σ : zS} (R : zAll σ n) (m row col v : Int) (bm : -2147483648 ≤ m ∧ m < 2147483648) (brow : -2147483648 ≤ row ∧ row < 2147483648) (bcol : -2147483648 ≤ col ∧ col < 2147483648) (bv : -2147483648 ≤ v ∧ v < 2147483648) : ∃ (h1 h2 : Nat) (r : Int) (σ1 σ2 : zS), ((h1 ≤ 18 ∧ h2 ≤ 18) ∧ ∃ vs, σ1 145 = zO 6 vs) ∧ zCt h1 0 0 yX5_entry cX5_entry 6 (some .int) [zr 1, zi m, zi row, zi col, zi v] n σ (some (zi r)) n σ1 ∧ zCt h2 0 0 yX6_entry cX6_entry 6 (some .int) [zr 145, zi m, zi row, zi col, zi v] n σ1 (some (zi r)) n σ2 ∧ zAll σ2 n := by
  obtain ⟨X, o, l, Hs, Sl, f, L, S, U, Z, H, P, RC, RM, Pu⟩ := id R
  have hn := RC.nn
  have hlb := RC.b
  obtain ⟨p0, wl0, lv0, br0, bc0, hM0⟩ := RM.1
  by_cases hv : (0 ≤ m ∧ m < 4) ∧ (0 ≤ row ∧ row < 16) ∧ 0 ≤ col ∧ col < 16
  rotate_left
  · exact ⟨6, 13, -1, σ, σ, ⟨by decide, RM.vs⟩, ctX5_entryE m row col v bm brow bcol bv (Or.inl ⟨rfl, hv⟩), ctX6_entryE hM0 hn m row col v bm brow bcol bv (Or.inl ⟨rfl, hv⟩), R⟩
  by_cases hv2 : -1000000 ≤ v ∧ v ≤ 1000000
  rotate_left
  · exact ⟨6, 13, -2, σ, σ, ⟨by decide, RM.vs⟩, ctX5_entryE m row col v bm brow bcol bv (Or.inr ⟨rfl, hv, hv2⟩), ctX6_entryE hM0 hn m row col v bm brow bcol bv (Or.inr ⟨rfl, hv, hv2⟩), R⟩
  have hok := RC.2.1.2
  have h5 := ctX5_entry RC m row col v hv.1 hv.2.1 hv.2.2 hv2
  obtain ⟨RC2, g⟩ := RC.chg hv.1 (e := zu (X.1 m) (row * 16 + col) v) (t := zu (zcuts (X.2.1 m) row col 3) (zno 3 row col) 1) (zBd_u (hok.1 m) _ hv2) ((zcuts_St (hok.2 m) row col 3).u _ (by decide))
  have RM2 := RM.cl (g.wide (by decide))
  obtain ⟨p, wl, lv, br, bc, hM⟩ := RM2.1
  have h6 := ctX6_entry hM RM2.2.1 RM2.2.2.2.1 hn hlb.2 Pu.1.2.2.1 Pu.1.2.2.2 m row col v hv.1 hv.2.1 hv.2.2 hv2
  have rel := zet_rl Pu.1 hv.1 hv.2.1 hv.2.2 hv2
  obtain ⟨RM3, g3⟩ := RM2.ch (um2 := zu1 l + 1) (L2 := L) (p := p) (wl := wl) (lv := lv) (br := br) (bc := bc) (zcn S) (zu (zet (zcn S) m row col) (341 * m + 85 + (row * 16 + col)) v) (zU2 l U S)
  rw [← zkL_u hlb.2] at RM3 g3 h6
  rw [rel.2] at h6
  exact ⟨6, 13, _, _, _, ⟨by decide, RM2.vs⟩, h5, h6, _, _, _, _, _, _, _, _, _, _, _, _, RC2.md g3, RM3, Pu.ch hlb rel.1⟩
theorem pr_shrink {n : Nat} {σ : zS} (R : zAll σ n) (m : Int) (bm : -2147483648 ≤ m ∧ m < 2147483648) : ∃ (h1 h2 : Nat) (r : Int) (σ1 σ2 : zS), ((h1 ≤ 18 ∧ h2 ≤ 18) ∧ ∃ vs, σ1 145 = zO 6 vs) ∧ zCt h1 0 0 yX5_shrink cX5_shrink 3 (some .int) [zr 1, zi m] n σ (some (zi r)) n σ1 ∧ zCt h2 0 0 yX6_shrink cX6_shrink 3 (some .int) [zr 145, zi m] n σ1 (some (zi r)) n σ2 ∧ zAll σ2 n := by
  obtain ⟨X, o, l, Hs, Sl, f, L, S, U, Z, H, P, RC, RM, Pu⟩ := id R
  have hn := RC.nn
  have hlb := RC.b
  obtain ⟨p0, wl0, lv0, br0, bc0, hM0⟩ := RM.1
  by_cases hv : (0 ≤ m ∧ m < 4)
  rotate_left
  · exact ⟨12, 13, -1, σ, σ, ⟨by decide, RM.vs⟩, ctX5_shrinkE m bm ⟨rfl, hv⟩, ctX6_shrinkE hM0 hn m bm ⟨rfl, hv⟩, R⟩
  have hok := RC.2.1.2
  have h5 := ctX5_shrink RC m hv
  obtain ⟨RC2, g⟩ := RC.chg hv (e := X.1 m) (t := (zshr (X.1 m) 3 (X.2.1 m) 0 0).1) (hok.1 m) (zshr_St _ 3 _ 0 0 (hok.2 m))
  have RM2 := RM.cl (g.wide (by decide))
  obtain ⟨p, wl, lv, br, bc, hM⟩ := RM2.1
  have h6 := ctX6_shrink hM RM2.2.1 RM2.2.2.2.1 hn hlb.2 Pu.1.2.2.1 Pu.1.2.2.2 m hv (Pu.1.1 m hv).2.2.1
  have rel := zsh_rl Pu.1 hv
  obtain ⟨RM3, g3⟩ := RM2.ch (um2 := zu1 l + 1) (L2 := L) (p := p) (wl := wl) (lv := lv) (br := br) (bc := bc) (zcn S) (zsh m (zcn S) 4) (zU2 l U S)
  rw [← zkL_u hlb.2] at RM3 g3 h6
  rw [← rel.2] at h6
  exact ⟨12, 13, _, _, _, ⟨by decide, RM2.vs⟩, h5, h6, _, _, _, _, _, _, _, _, _, _, _, _, RC2.md g3, RM3, Pu.ch hlb rel.1⟩
theorem pr_turn {n : Nat} {σ : zS} (R : zAll σ n) (m : Int) (bm : -2147483648 ≤ m ∧ m < 2147483648) : ∃ (h1 h2 : Nat) (r : Int) (σ1 σ2 : zS), ((h1 ≤ 18 ∧ h2 ≤ 18) ∧ ∃ vs, σ1 145 = zO 6 vs) ∧ zCt h1 0 0 yX5_turn cX5_turn 2 (some .int) [zr 1, zi m] n σ (some (zi r)) n σ1 ∧ zCt h2 0 0 yX6_turn cX6_turn 5 (some .int) [zr 145, zi m] n σ1 (some (zi r)) n σ2 ∧ zAll σ2 n := by
  obtain ⟨X, o, l, Hs, Sl, f, L, S, U, Z, H, P, RC, RM, Pu⟩ := id R
  have hn := RC.nn
  have hlb := RC.b
  obtain ⟨p0, wl0, lv0, br0, bc0, hM0⟩ := RM.1
  by_cases hv : (0 ≤ m ∧ m < 4)
  rotate_left
  · exact ⟨5, 13, -1, σ, σ, ⟨by decide, RM.vs⟩, ctX5_turnE m bm ⟨rfl, hv⟩, ctX6_turnE hM0 hn m bm ⟨rfl, hv⟩, R⟩
  have hok := RC.2.1.2
  have h5 := ctX5_turn RC m hv
  obtain ⟨RC2, g⟩ := RC.chg hv (e := ztp (X.1 m) 16 0) (t := zfo (fun t d => zts d t) (X.2.1 m) 4) (ztp_Bd (hok.1 m) 16 0) (zts_St (hok.2 m) 4)
  have RM2 := RM.cl (g.wide (by decide))
  obtain ⟨p, wl, lv, br, bc, hM⟩ := RM2.1
  have h6 := ctX6_turn hM RM2.2.1 RM2.2.2.2.1 hn hlb.2 Pu.1.2.2.1 Pu.1.2.2.2 m hv
  have rel := ztn_rl Pu.1 hv
  obtain ⟨RM3, g3⟩ := RM2.ch (um2 := zu1 l + 1) (L2 := L) (p := p) (wl := wl) (lv := lv) (br := br) (bc := bc) (zcn S) (ztnE m (ztnF m (zcn S) 4) 256) (zU2 l U S)
  rw [← zkL_u hlb.2] at RM3 g3 h6
  rw [← rel.2] at h6
  exact ⟨5, 13, _, _, _, ⟨by decide, RM2.vs⟩, h5, h6, _, _, _, _, _, _, _, _, _, _, _, _, RC2.md g3, RM3, Pu.ch hlb rel.1⟩
theorem pr_copy {n : Nat} {σ : zS} (R : zAll σ n) (m q : Int) (bm : -2147483648 ≤ m ∧ m < 2147483648) (bq : -2147483648 ≤ q ∧ q < 2147483648) : ∃ (h1 h2 : Nat) (r : Int) (σ1 σ2 : zS), ((h1 ≤ 18 ∧ h2 ≤ 18) ∧ ∃ vs, σ1 145 = zO 6 vs) ∧ zCt h1 0 0 yX5_copy cX5_copy 3 (some .int) [zr 1, zi m, zi q] n σ (some (zi r)) n σ1 ∧ zCt h2 0 0 yX6_copy cX6_copy 4 (some .int) [zr 145, zi m, zi q] n σ1 (some (zi r)) n σ2 ∧ zAll σ2 n := by
  obtain ⟨X, o, l, Hs, Sl, f, L, S, U, Z, H, P, RC, RM, Pu⟩ := id R
  have hn := RC.nn
  have hlb := RC.b
  obtain ⟨p0, wl0, lv0, br0, bc0, hM0⟩ := RM.1
  by_cases hv : (0 ≤ m ∧ m < 4) ∧ (0 ≤ q ∧ q < 4)
  rotate_left
  · exact ⟨9, 13, -1, σ, σ, ⟨by decide, RM.vs⟩, ctX5_copyE m q bm bq (Or.inl ⟨rfl, hv⟩), ctX6_copyE hM0 hn m q bm bq (Or.inl ⟨rfl, hv⟩), R⟩
  by_cases hv2 : m ≠ q
  rotate_left
  · exact ⟨9, 13, -2, σ, σ, ⟨by decide, RM.vs⟩, ctX5_copyE m q bm bq (Or.inr ⟨rfl, hv.1, hv.2, Decidable.not_not.mp hv2⟩), ctX6_copyE hM0 hn m q bm bq (Or.inr ⟨rfl, hv.1, hv.2, Decidable.not_not.mp hv2⟩), R⟩
  have hok := RC.2.1.2
  have h5 := ctX5_copy RC m q hv.1 hv.2 hv2
  obtain ⟨RC2, g⟩ := RC.chg hv.1 (e := X.1 q) (t := X.2.1 q) (hok.1 q) (hok.2 q)
  have RM2 := RM.cl (g.wide (by decide))
  obtain ⟨p, wl, lv, br, bc, hM⟩ := RM2.1
  have h6 := ctX6_copy hM RM2.2.1 RM2.2.2.2.1 hn hlb.2 Pu.1.2.2.1 Pu.1.2.2.2 m q hv.1 hv.2 hv2
  have rel := zcm_rl Pu.1 hv.1 hv.2
  obtain ⟨RM3, g3⟩ := RM2.ch (um2 := zu1 l + 1) (L2 := L) (p := p) (wl := wl) (lv := lv) (br := br) (bc := bc) (zcn S) (zcm (zcn S) m q 341) (zU2 l U S)
  rw [← zkL_u hlb.2] at RM3 g3 h6
  have hmm := rel.1 m hv.1
  have e1 : (zsm1 (zch X (X.2.2 + 1)) m (X.1 q) (X.2.1 q)).2.1 m = X.2.1 q := if_pos rfl
  rw [e1] at hmm
  rw [← hmm.2.1.room, ← zroom_F (hmm.2.1.symm.Vl hmm.2.2.1)] at h6
  exact ⟨9, 13, _, _, _, ⟨by decide, RM2.vs⟩, h5, h6, _, _, _, _, _, _, _, _, _, _, _, _, RC2.md g3, RM3, Pu.ch hlb rel⟩
theorem pr_clear {n : Nat} {σ : zS} (R : zAll σ n) (m row col : Int) (bm : -2147483648 ≤ m ∧ m < 2147483648) (brow : -2147483648 ≤ row ∧ row < 2147483648) (bcol : -2147483648 ≤ col ∧ col < 2147483648) : ∃ (h1 h2 : Nat) (r : Int) (σ1 σ2 : zS), ((h1 ≤ 18 ∧ h2 ≤ 18) ∧ ∃ vs, σ1 145 = zO 6 vs) ∧ zCt h1 0 0 yX5_clear cX5_clear 4 (some .int) [zr 1, zi m, zi row, zi col] n σ (some (zi r)) n σ1 ∧ zCt h2 0 0 yX6_clear cX6_clear 7 (some .int) [zr 145, zi m, zi row, zi col] n σ1 (some (zi r)) n σ2 ∧ zAll σ2 n := by
  obtain ⟨X, o, l, Hs, Sl, f, L, S, U, Z, H, P, RC, RM, Pu⟩ := id R
  have hn := RC.nn
  have hlb := RC.b
  obtain ⟨p0, wl0, lv0, br0, bc0, hM0⟩ := RM.1
  by_cases hv : (0 ≤ m ∧ m < 4) ∧ (0 ≤ row ∧ row < 16) ∧ 0 ≤ col ∧ col < 16
  rotate_left
  · exact ⟨6, 13, -1, σ, σ, ⟨by decide, RM.vs⟩, ctX5_clearE m row col bm brow bcol ⟨rfl, hv⟩, ctX6_clearE hM0 hn m row col bm brow bcol ⟨rfl, hv⟩, R⟩
  have hok := RC.2.1.2
  have h5 := ctX5_clear RC m row col hv.1 hv.2.1 hv.2.2
  obtain ⟨RC2, g⟩ := RC.chg hv.1 (e := zsq (X.1 m) (row / zsz (zdp (X.2.1 m) row col) * zsz (zdp (X.2.1 m) row col)) (col / zsz (zdp (X.2.1 m) row col) * zsz (zdp (X.2.1 m) row col)) (zsz (zdp (X.2.1 m) row col)) (fun _ => 0)) (t := zu (X.2.1 m) (zno (zdp (X.2.1 m) row col) (row / zsz (zdp (X.2.1 m) row col) * zsz (zdp (X.2.1 m) row col)) (col / zsz (zdp (X.2.1 m) row col) * zsz (zdp (X.2.1 m) row col))) 0) (zsq_Bd2 (hok.1 m) (fun j _ => by decide)) ((hok.2 m).u _ (by decide))
  have RM2 := RM.cl (g.wide (by decide))
  obtain ⟨p, wl, lv, br, bc, hM⟩ := RM2.1
  have h6 := ctX6_clear hM RM2.2.1 RM2.2.2.2.1 hn hlb.2 Pu.1.2.2.1 Pu.1.2.2.2 m row col hv.1 hv.2.1 hv.2.2 (zdp_3 hv.2.1 hv.2.2 (Pu.1.1 m hv.1).2.2.1)
  have ed : zdp (zsT (zcn S) m) row col = zdp (X.2.1 m) row col := by
    have h1 := ((Pu.1.1 m hv.1).2.1.dp hv.2.1 hv.2.2).1
    rw [h1]
    exact (zSim.of (t := zsT (zcn S) m) (t2 := zsT S m) (fun k k1 k2 => zu_n _ _ (by omega))).dp hv.2.1 hv.2.2 |>.1
  rw [ed] at h6
  have rel := zclr_rl Pu.1 hv.1 hv.2.1 hv.2.2 rfl rfl
  obtain ⟨RM3, g3⟩ := RM2.ch (um2 := zu1 l + 1) (L2 := L) (p := p) (wl := wl) (lv := lv) (br := br) (bc := bc) (zcn S) (zclr m row col (zsz (zdp (X.2.1 m) row col)) (zu (zcn S) (341 * m + zmn (zdp (X.2.1 m) row col) (row / zsz (zdp (X.2.1 m) row col)) (col / zsz (zdp (X.2.1 m) row col))) 0) (zsz (zdp (X.2.1 m) row col) * zsz (zdp (X.2.1 m) row col)).toNat) (zU2 l U S)
  rw [← zkL_u hlb.2] at RM3 g3 h6
  exact ⟨6, 13, _, _, _, ⟨by decide, RM2.vs⟩, h5, h6, _, _, _, _, _, _, _, _, _, _, _, _, RC2.md g3, RM3, Pu.ch hlb rel⟩
theorem pr_add {n : Nat} {σ : zS} (R : zAll σ n) (m q x : Int) (bm : -2147483648 ≤ m ∧ m < 2147483648) (bq : -2147483648 ≤ q ∧ q < 2147483648) (bx : -2147483648 ≤ x ∧ x < 2147483648) : ∃ (h1 h2 : Nat) (r : Int) (σ1 σ2 : zS), ((h1 ≤ 18 ∧ h2 ≤ 18) ∧ ∃ vs, σ1 145 = zO 6 vs) ∧ zCt h1 0 0 yX5_add cX5_add 4 (some .int) [zr 1, zi m, zi q, zi x] n σ (some (zi r)) n σ1 ∧ zCt h2 0 0 yX6_add cX6_add 7 (some .int) [zr 145, zi m, zi q, zi x] n σ1 (some (zi r)) n σ2 ∧ zAll σ2 n := by
  obtain ⟨X, o, l, Hs, Sl, f, L, S, U, Z, H, P, RC, RM, Pu⟩ := id R
  have hn := RC.nn
  have hlb := RC.b
  obtain ⟨p0, wl0, lv0, br0, bc0, hM0⟩ := RM.1
  by_cases hv : (0 ≤ m ∧ m < 4) ∧ (0 ≤ q ∧ q < 4)
  rotate_left
  · exact ⟨9, 13, -1, σ, σ, ⟨by decide, RM.vs⟩, ctX5_addE m q x bm bq bx (Or.inl ⟨rfl, hv⟩), ctX6_addE hM0 hn m q x bm bq bx (Or.inl ⟨rfl, hv⟩), R⟩
  by_cases hv2 : x ≠ 0 ∧ (-99 ≤ x ∧ x ≤ 99) ∧ m ≠ q
  rotate_left
  · exact ⟨9, 13, -2, σ, σ, ⟨by decide, RM.vs⟩, ctX5_addE m q x bm bq bx (Or.inr ⟨rfl, hv.1, hv.2, by omega⟩), ctX6_addE hM0 hn m q x bm bq bx (Or.inr ⟨rfl, hv.1, hv.2, by omega⟩), R⟩
  have hok := RC.2.1.2
  have h5 := ctX5_add RC m q x hv.1 hv.2 hv2.2.1 hv2.1 hv2.2.2
  obtain ⟨RC2, g⟩ := RC.chg hv.1 (e := (zjn (X.1 q) (X.2.1 q) x 3 (X.1 m, X.2.1 m) 0 0).1) (t := (zjn (X.1 q) (X.2.1 q) x 3 (X.1 m, X.2.1 m) 0 0).2) (zjn_ok (X.1 q) (X.2.1 q) x 3 (X.1 m, X.2.1 m) 0 0 ⟨hok.1 m, hok.2 m⟩).1 (zjn_ok (X.1 q) (X.2.1 q) x 3 (X.1 m, X.2.1 m) 0 0 ⟨hok.1 m, hok.2 m⟩).2
  have RM2 := RM.cl (g.wide (by decide))
  obtain ⟨p, wl, lv, br, bc, hM⟩ := RM2.1
  obtain ⟨Oo, hO⟩ := RM2.2.2.2.2.2.2.2.2.2.2
  have h6 := ctX6_add hM RM2.2.1 RM2.2.2.2.1 hn hlb.2 Pu.1.2.2.1 Pu.1.2.2.2 hO m q x hv.1 hv.2 hv2.2.1 hv2.1 hv2.2.2 (Pu.1.1 q hv.2).2.2.1
  have rel := zad_rl (O := Oo) (x := x) Pu.1 hv.1 hv.2 hv2.2.2
  obtain ⟨RM3, g3⟩ := RM2.ch (um2 := zu1 l + 1) (L2 := L) (p := p) (wl := wl) (lv := lv) (br := br) (bc := bc) (zcn S) ((zadf m q x (zcn S, zop Oo 85) 4).1) (zU2 l U S)
  rw [← zkL_u hlb.2] at RM3 g3 h6
  obtain ⟨RM4, g4⟩ := RM3.op (zadf m q x (zcn S, zop Oo 85) 4).2
  have g4 := g3.trans g4
  rw [← rel.2] at h6
  exact ⟨9, 13, _, _, _, ⟨by decide, RM2.vs⟩, h5, h6, _, _, _, _, _, _, _, _, _, _, _, _, RC2.md g4, RM4, Pu.ch hlb rel.1⟩
theorem pr_wouldTake {n : Nat} {σ : zS} (R : zAll σ n) (m : Int) (bm : -2147483648 ≤ m ∧ m < 2147483648) : ∃ (h1 h2 : Nat) (r : Int) (σ1 σ2 : zS), ((h1 ≤ 18 ∧ h2 ≤ 18) ∧ ∃ vs, σ1 145 = zO 6 vs) ∧ zCt h1 0 0 yX5_wouldTake cX5_wouldTake 2 (some .int) [zr 1, zi m] n σ (some (zi r)) n σ1 ∧ zCt h2 0 0 yX6_wouldTake cX6_wouldTake 3 (some .int) [zr 145, zi m] n σ1 (some (zi r)) n σ2 ∧ zAll σ2 n := by
  obtain ⟨X, o, l, Hs, Sl, f, L, S, U, Z, H, P, RC, RM, Pu⟩ := id R
  have hn := RC.nn
  have hlb := RC.b
  obtain ⟨p, wl, lv, br, bc, hM⟩ := RM.1
  by_cases hv : (0 ≤ m ∧ m < 4)
  rotate_left
  · exact ⟨12, 13, -1, σ, σ, ⟨by decide, RM.vs⟩, ctX5_wouldTakeE m bm ⟨rfl, hv⟩, ctX6_wouldTakeE hM hn m bm ⟨rfl, hv⟩, R⟩
  have h5 := ctX5_wouldTake RC m hv
  obtain ⟨RC2, g⟩ := RC.dr (X.1 m) (zshr (X.1 m) 3 (X.2.1 m) 0 0).1
  have RM2 := RM.cl g
  obtain ⟨Ar, hA⟩ := RM2.2.2.1
  have h6 := ctX6_wouldTake (RM2.mo hn) hA Pu.1.2.2.1 Pu.1.2.2.2 m hv (Pu.1.1 m hv).2.2.1
  rw [← zwt_rl Pu.1 hv] at h6
  obtain ⟨RM3, g3⟩ := RM2.as (zcpy Ar S 1365) (zcpy (zsh m S 4) (zcpy Ar S 1365) 1365)
  exact ⟨12, 13, _, _, _, ⟨by decide, RM2.vs⟩, h5, h6, _, _, _, _, _, _, _, _, _, _, _, _, RC2.md g3, RM3, Pu.cg (fun k k1 k2 => (if_pos ⟨k1, k2⟩).trans (if_pos ⟨k1, k2⟩))⟩
theorem pr_bestTimes {n : Nat} {σ : zS} (R : zAll σ n) (m q w : Int) (bm : -2147483648 ≤ m ∧ m < 2147483648) (bq : -2147483648 ≤ q ∧ q < 2147483648) (bw : -2147483648 ≤ w ∧ w < 2147483648) : ∃ (h1 h2 : Nat) (r : Int) (σ1 σ2 : zS), ((h1 ≤ 18 ∧ h2 ≤ 18) ∧ ∃ vs, σ1 145 = zO 6 vs) ∧ zCt h1 0 0 yX5_bestTimes cX5_bestTimes 6 (some .int) [zr 1, zi m, zi q, zi w] n σ (some (zi r)) n σ1 ∧ zCt h2 0 0 yX6_bestTimes cX6_bestTimes 8 (some .int) [zr 145, zi m, zi q, zi w] n σ1 (some (zi r)) n σ2 ∧ zAll σ2 n := by
  obtain ⟨X, o, l, Hs, Sl, f, L, S, U, Z, H, P, RC, RM, Pu⟩ := id R
  have hn := RC.nn
  have hlb := RC.b
  obtain ⟨p, wl, lv, br, bc, hM⟩ := RM.1
  by_cases hv : (0 ≤ m ∧ m < 4) ∧ (0 ≤ q ∧ q < 4)
  rotate_left
  · exact ⟨3, 13, -1, σ, σ, ⟨by decide, RM.vs⟩, ctX5_bestTimesE m q w bm bq bw (Or.inl ⟨rfl, hv⟩), ctX6_bestTimesE hM hn m q w bm bq bw (Or.inl ⟨rfl, hv⟩), R⟩
  by_cases hv2 : (w = 0 ∨ w = 1) ∧ m ≠ q
  rotate_left
  · exact ⟨3, 13, -2, σ, σ, ⟨by decide, RM.vs⟩, ctX5_bestTimesE m q w bm bq bw (Or.inr ⟨rfl, hv.1, hv.2, by omega⟩), ctX6_bestTimesE hM hn m q w bm bq bw (Or.inr ⟨rfl, hv.1, hv.2, by omega⟩), R⟩
  obtain ⟨z, hz⟩ := RC.2.2.2.2.2.2
  have h5 := ctX5_bestTimes RC hz m q w hv.1 hv.2 hv2.1 hv2.2
  obtain ⟨RC2, g⟩ := RC.zz (fun k => if 0 ≤ k ∧ k < 199 then zzr (X.1 m) (X.1 q) (k - 99) 256 else z k)
  have RM2 := RM.cl g
  have h6 := ctX6_bestTimes (RM2.mo hn) m q w hv.1 hv.2 (Pu.1.2.2.2 m hv.1) (Pu.1.2.2.2 q hv.2) hv2.1 hv2.2
  have eg : (fun x => zzr (zsE S m) (zsE S q) x 256) = fun x => zzr (X.1 m) (X.1 q) x 256 := funext fun x => ((Pu.1.1 m hv.1).1.zr (Pu.1.1 q hv.2).1 x).symm
  rw [eg] at h6
  obtain ⟨e1, e2⟩ := zbt6_e (g := fun x => zzr (X.1 m) (X.1 q) x 256) (fun x => zzr_0 _ _ _ 256) 198
  rw [e1, e2] at h6
  have h5 : zCt 3 0 0 yX5_bestTimes cX5_bestTimes 6 (some .int) [zr 1, zi m, zi q, zi w] n σ (some (zi (if w = 0 then zbst (fun x => zzr (X.1 m) (X.1 q) x 256) (198 + 1) + 100 else zzr (X.1 m) (X.1 q) (zbst (fun x => zzr (X.1 m) (X.1 q) x 256) (198 + 1)) 256))) n (zsu σ 114 (zA 199 (fun k => if 0 ≤ k ∧ k < 199 then zzr (X.1 m) (X.1 q) (k - 99) 256 else z k))) := by
    rw [show (zbst (fun x => zzr (X.1 m) (X.1 q) x 256) (198 + 1) + 100 : Int) = zbst (fun x => zzr (X.1 m) (X.1 q) x 256) 199 + 99 + 1 by rw [Int.add_assoc]; rfl]
    exact h5
  exact ⟨3, 13, _, _, _, ⟨by decide, RM2.vs⟩, h5, h6, _, _, _, _, _, _, _, _, _, _, _, _, RC2, RM2, Pu⟩
theorem pr_count {n : Nat} {σ : zS} (R : zAll σ n) (w : Int) (bw : -2147483648 ≤ w ∧ w < 2147483648) : ∃ (h1 h2 : Nat) (r : Int) (σ1 σ2 : zS), ((h1 ≤ 18 ∧ h2 ≤ 18) ∧ ∃ vs, σ1 145 = zO 6 vs) ∧ zCt h1 0 0 yX5_count cX5_count 2 (some .int) [zr 1, zi w] n σ (some (zi r)) n σ1 ∧ zCt h2 0 0 yX6_count cX6_count 2 (some .int) [zr 145, zi w] n σ1 (some (zi r)) n σ2 ∧ zAll σ2 n := by
  obtain ⟨X, o, l, Hs, Sl, f, L, S, U, Z, H, P, RC, RM, Pu⟩ := id R
  have hn := RC.nn
  have hlb := RC.b
  obtain ⟨p, wl, lv, br, bc, hM⟩ := RM.1
  have h5 := ctX5_count RC w bw
  have h6 := ctX6_count hM RM.2.1 hn Pu.1.2.2.1 w bw
  rw [← zco_e Pu.1 L l w] at h6
  exact ⟨10, 13, _, σ, σ, ⟨by decide, RM.vs⟩, h5, h6, R⟩
