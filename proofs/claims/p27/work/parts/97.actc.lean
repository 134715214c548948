theorem zBd_u {e : Int → Int} (h : zBd e) (k : Int) {v : Int} (hv : -1000000 ≤ v ∧ v ≤ 1000000) : zBd (zu e k v) := fun j => by
  unfold zu
  split
  · exact hv
  · exact h j
theorem ztp_Bd {e : Int → Int} (h : zBd e) (i k : Int) : zBd (ztp e i k) := fun j => by
  unfold ztp
  split
  · exact h _
  · exact h j
theorem ztq_St {t : Int → Int} (h : zSt t) (F w i k : Int) : zSt (ztq F w t i k) := fun j => by
  unfold ztq
  split
  · exact h _
  · exact h j
theorem zts_St {t : Int → Int} (h : zSt t) : ∀ k : Nat, zSt (zfo (fun t d => zts d t) t k)
  | 0 => h
  | k + 1 => by
    have ih := zts_St h k
    show zSt (zts k (zfo (fun t d => zts d t) t k))
    unfold zts
    split
    · exact ztq_St ih _ _ _ _
    split
    · exact ztq_St ih _ _ _ _
    split
    · exact ztq_St ih _ _ _ _
    · exact ztq_St ih _ _ _ _
theorem zsm_bd {g : Int → Int} : ∀ k : Nat, (∀ j : Nat, j < k → -1000000 ≤ g j ∧ g j ≤ 1000000) → -(1000000 * (k : Int)) ≤ zsm g k ∧ zsm g k ≤ 1000000 * (k : Int)
  | 0, _ => by
    show -(1000000 * ((0 : Nat) : Int)) ≤ 0 ∧ 0 ≤ 1000000 * ((0 : Nat) : Int)
    omega
  | k + 1, hk => by
    have h1 := zsm_bd k (fun j hj => hk j (by omega))
    have h2 := hk k (by omega)
    show -(1000000 * ((k + 1 : Nat) : Int)) ≤ zsm g k + g k ∧ zsm g k + g k ≤ 1000000 * ((k + 1 : Nat) : Int)
    omega
theorem zsm_rm (T : Int → Int → Int) : 0 ≤ zsm (fun m => zroom (T m) 3 0 0) 4 ∧ zsm (fun m => zroom (T m) 3 0 0) 4 ≤ 4000000 := by
  have z3 : zmx 3 ≤ 1000000 := by decide
  have h0 := zroom_in (T ((0 : Nat) : Int)) 3 (by decide) 0 0
  have h1 := zroom_in (T ((1 : Nat) : Int)) 3 (by decide) 0 0
  have h2 := zroom_in (T ((2 : Nat) : Int)) 3 (by decide) 0 0
  have h3 := zroom_in (T ((3 : Nat) : Int)) 3 (by decide) 0 0
  show 0 ≤ 0 + zroom (T ((0 : Nat) : Int)) 3 0 0 + zroom (T ((1 : Nat) : Int)) 3 0 0 + zroom (T ((2 : Nat) : Int)) 3 0 0 + zroom (T ((3 : Nat) : Int)) 3 0 0 ∧ 0 + zroom (T ((0 : Nat) : Int)) 3 0 0 + zroom (T ((1 : Nat) : Int)) 3 0 0 + zroom (T ((2 : Nat) : Int)) 3 0 0 + zroom (T ((3 : Nat) : Int)) 3 0 0 ≤ 4000000
  omega
/-- what a call of the law's does: its answer, and what there is behind it, are told by what there was -/
def actR (X : zSV) (Sl : Int → zSV × Bool) (v w r : Int) (S2 : Int → Int) : Prop := ∀ (σ : zS) (o l : Int) (Hs : Int → zSV) (f : Int → Int) (L : Int), RepC σ 144 X o l Hs Sl f L → pdOk f → ∃ (X2 : zSV) (f2 : Int → Int) (L2 : Int) (σ2 : zS), zCt 14 0 0 yL_act cL_act 6 (some .int) [zr 1, zi v, zi w] 144 σ (some (zi r)) 144 σ2 ∧ pdOk f2 ∧ ((r < 0 ∧ RepC σ2 144 X o l Hs Sl f2 L2) ∨ (0 ≤ r ∧ zRl X2 S2 ∧ RepC σ2 144 X2 (zkO o l) (zkL l) (zhu Hs ((o + l) % 6) X) Sl f2 L2))
def actOK (X : zSV) (Sl : Int → zSV × Bool) (Z : Int → Int) (v w : Int) : Prop := ∃ (r : Int) (S2 : Int → Int), (-2147483648 ≤ r ∧ r < 2147483648) ∧ (0 ≤ r → v % 16 = 5 → S2 = Z) ∧ actR X Sl v w r S2
section
variable {X : zSV} {S : Int → Int} {Sl : Int → zSV × Bool} {Z : Int → Int} {v w r : Int} {S2 : Int → Int}
theorem actR.bad (hr : r < 0) (h : ∀ (σ : zS) (o l : Int) (Hs : Int → zSV) (f : Int → Int) (L : Int), RepC σ 144 X o l Hs Sl f L → zCt 14 0 0 yL_act cL_act 6 (some .int) [zr 1, zi v, zi w] 144 σ (some (zi r)) 144 σ) : actR X Sl v w r S2 :=
  fun σ o l Hs f L R hf => ⟨X, f, L, σ, h σ o l Hs f L R, hf, Or.inl ⟨hr, R⟩⟩
theorem actR.chg {m : Int} (hm : 0 ≤ m ∧ m < 4) {e t : Int → Int} (hS2 : zRl (zsm1 (zch X (X.2.2 + 1)) m e t) S2) (hr : 0 ≤ r) (h : ∀ (σ : zS) (o l : Int) (Hs : Int → zSV) (f : Int → Int) (L : Int), RepC σ 144 X o l Hs Sl f L → (zBd e ∧ zSt t) ∧ zCt 14 0 0 yL_act cL_act 6 (some .int) [zr 1, zi v, zi w] 144 σ (some (zi r)) 144 (sM (zbc σ X o l) (2 + 2 + 3 * m) e t)) : actR X Sl v w r S2 := fun σ o l Hs f L R hf => by
  obtain ⟨⟨h1, h2⟩, h3⟩ := h σ o l Hs f L R
  exact ⟨_, f, L, _, h3, hf, Or.inr ⟨hr, hS2, (R.chg hm h1 h2).1⟩⟩
theorem ok_shrink (hX : zRl X S) (hv : -2147483648 ≤ v ∧ v < 2147483648) (hq : v % 16 = 0) : actOK X Sl Z v w := by
  have hm := zaM_in v
  by_cases h : zaM v < 4
  · have hm4 : 0 ≤ zaM v ∧ zaM v < 4 := ⟨hm.1, h⟩
    have rel := zsh_rl hX hm4
    have le := zshr_le (X.1 (zaM v)) (X.2.1 (zaM v))
    have rm := zroom_in (X.2.1 (zaM v)) 3 (by decide) 0 0
    have z3 : zmx 3 ≤ 1000000 := by decide
    exact ⟨zroom (X.2.1 (zaM v)) 3 0 0 - (zshr (X.1 (zaM v)) 3 (X.2.1 (zaM v)) 0 0).2, _, by omega, fun _ q => absurd q (by omega), actR.chg hm4 rel.1 (by omega) (fun σ o l Hs f L R => ⟨⟨R.2.1.2.1 _, zshr_St _ 3 _ 0 0 (R.2.1.2.2 _)⟩, act0 hv hq R.1.1 (ctX5_shrink R _ hm4)⟩)⟩
  · exact ⟨-1, S, by decide, fun q => absurd q (by decide), actR.bad (by decide) (fun σ o l Hs f L R => act0 hv hq R.1.1 (ctX5_shrinkE _ (by omega) ⟨rfl, by omega⟩))⟩
theorem ok_clear (hX : zRl X S) (hv : -2147483648 ≤ v ∧ v < 2147483648) (hq : v % 16 = 1) : actOK X Sl Z v w := by
  have hm := zaM_in v
  have hrow := zaR_in v
  have hcol := zaC_in v
  by_cases h : zaM v < 4 ∧ zaR v < 16
  · have hm4 : 0 ≤ zaM v ∧ zaM v < 4 := ⟨hm.1, h.1⟩
    have hr : 0 ≤ zaR v ∧ zaR v < 16 := ⟨hrow.1, h.2⟩
    have hc : 0 ≤ zaC v ∧ zaC v < 16 := by omega
    have rel := zclr_rl hX hm4 hr hc rfl rfl
    have hz := zsz_v (zdp_in (X.2.1 (zaM v)) (zaR v) (zaC v))
    exact ⟨zsz (zdp (X.2.1 (zaM v)) (zaR v) (zaC v)), _, by omega, fun _ q => absurd q (by omega), actR.chg hm4 rel (by omega) (fun σ o l Hs f L R => ⟨⟨zsq_Bd2 (R.2.1.2.1 _) (fun j _ => by decide), (R.2.1.2.2 _).u _ (by decide)⟩, act1 hv hq R.1.1 (ctX5_clear R _ _ _ hm4 hr hc)⟩)⟩
  · exact ⟨-1, S, by decide, fun q => absurd q (by decide), actR.bad (by decide) (fun σ o l Hs f L R => act1 hv hq R.1.1 (ctX5_clearE _ _ _ (by omega) (by omega) (by omega) ⟨rfl, by omega⟩))⟩
theorem ok_turn (hX : zRl X S) (hv : -2147483648 ≤ v ∧ v < 2147483648) (hq : v % 16 = 2) : actOK X Sl Z v w := by
  have hm := zaM_in v
  by_cases h : zaM v < 4
  · have hm4 : 0 ≤ zaM v ∧ zaM v < 4 := ⟨hm.1, h⟩
    have rel := ztn_rl hX hm4
    have bd := zsm_bd (g := fun k => zsE (ztnE (zaM v) (ztnF (zaM v) (zcn S) 4) 256) (zaM v) (k * 16 + k)) 16 (fun j hj => rel.1.2.2.2 (zaM v) hm4 ((j : Int) * 16 + j) (by omega) (by omega))
    rw [← rel.2] at bd
    exact ⟨zsm (fun k => ztp (X.1 (zaM v)) 16 0 (k * 16 + k)) 16 + 100000000, _, by omega, fun _ q => absurd q (by omega), actR.chg hm4 rel.1 (by omega) (fun σ o l Hs f L R => ⟨⟨ztp_Bd (R.2.1.2.1 _) 16 0, zts_St (R.2.1.2.2 _) 4⟩, act2 hv hq R.1.1 (ctX5_turn R _ hm4)⟩)⟩
  · exact ⟨-1, S, by decide, fun q => absurd q (by decide), actR.bad (by decide) (fun σ o l Hs f L R => act2 hv hq R.1.1 (ctX5_turnE _ (by omega) ⟨rfl, by omega⟩))⟩
theorem ok_add (hX : zRl X S) (hv : -2147483648 ≤ v ∧ v < 2147483648) (hw : -2147483648 ≤ w ∧ w < 2147483648) (hq : v % 16 = 3) : actOK X Sl Z v w := by
  have hm := zaM_in v
  have h3 := zlow_in w (k := 3) (by decide)
  have hx := zlow_in (w / 2 ^ (2 : Int).toNat) (k := 201) (by decide)
  by_cases h : zaM v < 4
  · have hm4 : 0 ≤ zaM v ∧ zaM v < 4 := ⟨hm.1, h⟩
    have hq4 : 0 ≤ zlow w 3 ∧ zlow w 3 < 4 := by omega
    by_cases h2 : zlow (w / 2 ^ (2 : Int).toNat) 201 - 100 ≠ 0 ∧ (-99 ≤ zlow (w / 2 ^ (2 : Int).toNat) 201 - 100 ∧ zlow (w / 2 ^ (2 : Int).toNat) 201 - 100 ≤ 99) ∧ zaM v ≠ zlow w 3
    · have rel := zad_rl (O := fun _ => 0) (x := zlow (w / 2 ^ (2 : Int).toNat) 201 - 100) hX hm4 hq4 h2.2.2
      have rm := zroom_in (zjn (X.1 (zlow w 3)) (X.2.1 (zlow w 3)) (zlow (w / 2 ^ (2 : Int).toNat) 201 - 100) 3 (X.1 (zaM v), X.2.1 (zaM v)) 0 0).2 3 (by decide) 0 0
      have z3 : zmx 3 ≤ 1000000 := by decide
      exact ⟨zroom (zjn (X.1 (zlow w 3)) (X.2.1 (zlow w 3)) (zlow (w / 2 ^ (2 : Int).toNat) 201 - 100) 3 (X.1 (zaM v), X.2.1 (zaM v)) 0 0).2 3 0 0, _, by omega, fun _ q => absurd q (by omega), actR.chg hm4 rel.1 (by omega) (fun σ o l Hs f L R => ⟨zjn_ok _ _ _ 3 (_, _) 0 0 ⟨R.2.1.2.1 _, R.2.1.2.2 _⟩, act3 hv hw hq R.1.1 (ctX5_add R _ _ _ hm4 hq4 h2.2.1 h2.1 h2.2.2)⟩)⟩
    · exact ⟨-2, S, by decide, fun q => absurd q (by decide), actR.bad (by decide) (fun σ o l Hs f L R => act3 hv hw hq R.1.1 (ctX5_addE _ _ _ (by omega) (by omega) (by omega) (Or.inr ⟨rfl, hm4, hq4, by omega⟩)))⟩
  · exact ⟨-1, S, by decide, fun q => absurd q (by decide), actR.bad (by decide) (fun σ o l Hs f L R => act3 hv hw hq R.1.1 (ctX5_addE _ _ _ (by omega) (by omega) (by omega) (Or.inl ⟨rfl, by omega⟩)))⟩
theorem ok_copy (hX : zRl X S) (hv : -2147483648 ≤ v ∧ v < 2147483648) (hq : v % 16 = 4) : actOK X Sl Z v w := by
  have hm := zaM_in v
  have h3 := zlow_in w (k := 3) (by decide)
  by_cases h : zaM v < 4
  · have hm4 : 0 ≤ zaM v ∧ zaM v < 4 := ⟨hm.1, h⟩
    have hq4 : 0 ≤ zlow w 3 ∧ zlow w 3 < 4 := by omega
    by_cases h2 : zaM v ≠ zlow w 3
    · have rel := zcm_rl hX hm4 hq4
      have rm := zroom_in (X.2.1 (zlow w 3)) 3 (by decide) 0 0
      have z3 : zmx 3 ≤ 1000000 := by decide
      exact ⟨zroom (X.2.1 (zlow w 3)) 3 0 0, _, by omega, fun _ q => absurd q (by omega), actR.chg hm4 rel (by omega) (fun σ o l Hs f L R => ⟨⟨R.2.1.2.1 _, R.2.1.2.2 _⟩, act4 hv hq R.1.1 (ctX5_copy R _ _ hm4 hq4 h2)⟩)⟩
    · exact ⟨-2, S, by decide, fun q => absurd q (by decide), actR.bad (by decide) (fun σ o l Hs f L R => act4 hv hq R.1.1 (ctX5_copyE _ _ (by omega) (by omega) (Or.inr ⟨rfl, hm4, hq4, by omega⟩)))⟩
  · exact ⟨-1, S, by decide, fun q => absurd q (by decide), actR.bad (by decide) (fun σ o l Hs f L R => act4 hv hq R.1.1 (ctX5_copyE _ _ (by omega) (by omega) (Or.inl ⟨rfl, by omega⟩)))⟩
theorem ok_restore (h0 : (Sl 0).2 = true) (h1 : (Sl 1).2 = false) (hZ : zRl (Sl 0).1 Z) (hv : -2147483648 ≤ v ∧ v < 2147483648) (hq : v % 16 = 5) : actOK X Sl Z v w := by
  have hk : 0 ≤ w % 2 ∧ w % 2 < 2 := by omega
  by_cases q : w % 2 = 0
  · have e0 : Sl (w % 2) = Sl 0 := by rw [q]
    have hs : (Sl (w % 2)).2 = true := by rw [e0]; exact h0
    have hz : zRl (Sl (w % 2)).1 Z := by rw [e0]; exact hZ
    have hr := zsm_rm (Sl (w % 2)).1.2.1
    exact ⟨zsm (fun m => zroom ((Sl (w % 2)).1.2.1 m) 3 0 0) 4, Z, by omega, fun _ _ => rfl, fun σ o l Hs f L R hf => ⟨(Sl (w % 2)).1, f, L, _, act5 hv hq R.1.1 (ctX5_restore R (w % 2) hk hs), hf, Or.inr ⟨hr.1, hz, (R.rs hk).1⟩⟩⟩
  · have e1 : Sl (w % 2) = Sl 1 := by rw [show w % 2 = 1 by omega]
    have hs : (Sl (w % 2)).2 = false := by rw [e1]; exact h1
    exact ⟨-5, Z, by decide, fun _ _ => rfl, actR.bad (by decide) (fun σ o l Hs f L R => act5 hv hq R.1.1 (ctX5_restoreN R (w % 2) hk hs))⟩
theorem ok_entry (hX : zRl X S) (hv : -2147483648 ≤ v ∧ v < 2147483648) (hw : -2147483648 ≤ w ∧ w < 2147483648) (hq : 7 < v % 16) : actOK X Sl Z v w := by
  have hm := zaM_in v
  have hrow := zaR_in v
  have hcol := zaC_in v
  have hval := zaV_in w
  by_cases h : zaM v < 4 ∧ zaR v < 16
  · have hm4 : 0 ≤ zaM v ∧ zaM v < 4 := ⟨hm.1, h.1⟩
    have hr : 0 ≤ zaR v ∧ zaR v < 16 := ⟨hrow.1, h.2⟩
    have hc : 0 ≤ zaC v ∧ zaC v < 16 := by omega
    by_cases h2 : -1000000 ≤ zaV w ∧ zaV w ≤ 1000000
    · have rel := zet_rl hX hm4 hr hc h2
      have b1 := hX.2.2.2 _ hm4 (zaR v * 16 + zaC v) (by omega) (by omega)
      rw [← (hX.1 _ hm4).1 (zaR v * 16 + zaC v) (by omega) (by omega)] at b1
      exact ⟨X.1 (zaM v) (zaR v * 16 + zaC v) + 1000000, _, by omega, fun _ q => absurd q (by omega), actR.chg hm4 rel.1 (by omega) (fun σ o l Hs f L R => ⟨⟨zBd_u (R.2.1.2.1 _) _ h2, (zcuts_St (R.2.1.2.2 _) _ _ 3).u _ (by decide)⟩, act8 hv hw hq R.1.1 (ctX5_entry R _ _ _ _ hm4 hr hc h2)⟩)⟩
    · exact ⟨-2, S, by decide, fun q => absurd q (by decide), actR.bad (by decide) (fun σ o l Hs f L R => act8 hv hw hq R.1.1 (ctX5_entryE _ _ _ _ (by omega) (by omega) (by omega) (by omega) (Or.inr ⟨rfl, ⟨hm4, hr, hc⟩, h2⟩)))⟩
  · exact ⟨-1, S, by decide, fun q => absurd q (by decide), actR.bad (by decide) (fun σ o l Hs f L R => act8 hv hw hq R.1.1 (ctX5_entryE _ _ _ _ (by omega) (by omega) (by omega) (by omega) (Or.inl ⟨rfl, by omega⟩)))⟩
end
section
variable {σ : zS} {X : zSV} {S : Int → Int} {o l : Int} {Hs : Int → zSV} {Sl : Int → zSV × Bool} {Z : Int → Int} {f : Int → Int} {L v w : Int}
/-- a text of four characters is put -/
theorem text5 (R : RepC σ 144 X o l Hs Sl f L) (hf : pdOk f) (w : Int) : ∃ (f4 : Int → Int) (σa σb σc σd σe : zS) (L0 L1 L2 L3 L4 : Int), (zCt 1 0 0 yX5_wipe cX5_wipe 2 (some .int) [zr 1] 144 σ (some (zi L0)) 144 σa ∧ zCt 3 0 0 yX5_put cX5_put 5 (some .int) [zr 1, zl (zaD w)] 144 σa (some (zi L1)) 144 σb ∧ zCt 3 0 0 yX5_put cX5_put 5 (some .int) [zr 1, zl (49 + zaA w)] 144 σb (some (zi L2)) 144 σc ∧ zCt 3 0 0 yX5_put cX5_put 5 (some .int) [zr 1, zl 44] 144 σc (some (zi L3)) 144 σd ∧ zCt 3 0 0 yX5_put cX5_put 5 (some .int) [zr 1, zl (48 + zaB w)] 144 σd (some (zi L4)) 144 σe) ∧ (σa 1 = zO 5 [zr 2, zr 16, zr 102, zr 103, zr 111, zr 114] ∧ σb 1 = zO 5 [zr 2, zr 16, zr 102, zr 103, zr 111, zr 114] ∧ σc 1 = zO 5 [zr 2, zr 16, zr 102, zr 103, zr 111, zr 114] ∧ σd 1 = zO 5 [zr 2, zr 16, zr 102, zr 103, zr 111, zr 114] ∧ σe 1 = zO 5 [zr 2, zr 16, zr 102, zr 103, zr 111, zr 114]) ∧ RepC σe 144 X o l Hs Sl f4 4 ∧ pdOk f4 ∧ f4 0 = zaD w ∧ f4 1 = 49 + zaA w ∧ f4 2 = 44 ∧ f4 3 = 48 + zaB w := by
  have hA := zaA_in w
  have hB := zaB_in w
  obtain ⟨p, x, h1, h2, h3⟩ := R.p0
  have R0 := (R.wp p x).1
  have c0 := ctX5_wipe R.1 h1
  obtain ⟨fb, σb, c1, R1, hf1, a1, b1⟩ := put1 R0 hf (z := zaD w) (by unfold zaD; split <;> omega) (by decide)
  obtain ⟨fc, σc, c2, R2, hf2, a2, b2⟩ := put1 R1 hf1 (z := 49 + zaA w) (by omega) (by decide)
  obtain ⟨fd, σd, c3, R3, hf3, a3, b3⟩ := put1 R2 hf2 (z := 44) (by decide) (by decide)
  obtain ⟨fe, σe, c4, R4, hf4, a4, b4⟩ := put1 R3 hf3 (z := 48 + zaB w) (by omega) (by decide)
  exact ⟨fe, _, σb, σc, σd, σe, _, _, _, _, _, ⟨c0, c1, c2, c3, c4⟩, ⟨R0.1.1, R1.1.1, R2.1.1, R3.1.1, R4.1.1⟩, R4, hf4, (b4 0 (by decide)).trans ((b3 0 (by decide)).trans ((b2 0 (by decide)).trans a1)), (b4 1 (by decide)).trans ((b3 1 (by decide)).trans a2), (b4 2 (by decide)).trans a3, a4⟩
theorem ok_tell (hX : zRl X S) (hv : -2147483648 ≤ v ∧ v < 2147483648) (hw : -2147483648 ≤ w ∧ w < 2147483648) (hq : v % 16 = 6 ∨ v % 16 = 7) : actOK X Sl Z v w := by
  have hA := zaA_in w
  have hB := zaB_in w
  have hm := zaM_in v
  by_cases h4 : zaM v < 4
  · have hm4 : 0 ≤ zaM v ∧ zaM v < 4 := ⟨hm.1, h4⟩
    by_cases h : w % 2 = 0
    · refine ⟨-3, S, by decide, fun q => absurd q (by decide), fun σ o l Hs f L R hf => ?_⟩
      obtain ⟨f4, σa, σb, σc, σd, σe, L0, L1, L2, L3, L4, ⟨c0, c1, c2, c3, c4⟩, ⟨g1, g2, g3, g4, g5⟩, R4, hf4, f0, f1, f2, f3⟩ := text5 R hf w
      obtain ⟨px, xx, te, tt, u1, v1, w1, hPd⟩ := R4.2.2.2.2.1
      have hT0 : zBd (zps px xx te tt u1 v1 w1).e ∧ zSt (zps px xx te tt u1 v1 w1).t := hPd.2.2.2.2.1
      have hPb := isPb.of hPd hf4 (Nat.le_refl 144)
      have hrd := zrd_is (zkq_is f4 4) hPb hT0
      have hPd2 := zpm_Pd hPb hrd
      have RC2 := R4.pad (zpm_ag σe 4 _) ⟨_, _, _, _, _, _, _, hPd2⟩
      rw [show zaD w = 100 from if_pos h] at f0
      have h5 := ctX5_tellF R4 (zkq_is f4 4) (S := zps px xx te tt u1 v1 w1) hPd hT0 hf4 (zaM v) hm4 (rd_bad f0 f1 hA f2 (zps px xx te tt u1 v1 w1))
      exact ⟨X, f4, 4, _, act6 hv hw hq R.1.1 g1 g2 g3 g4 g5 c0 c1 c2 c3 c4 h5, hf4, Or.inl ⟨by decide, RC2⟩⟩
    · have hrn := zrmF_in (fun _ => 1) (d := 0) (by decide) 0 0
      refine ⟨zrmF (fun _ => 1) 0 0 0, ztS S (zaM v) (zaA w) (zaB w), by omega, fun _ q => absurd q (by omega), fun σ o l Hs f L R hf => ?_⟩
      obtain ⟨f4, σa, σb, σc, σd, σe, L0, L1, L2, L3, L4, ⟨c0, c1, c2, c3, c4⟩, ⟨g1, g2, g3, g4, g5⟩, R4, hf4, f0, f1, f2, f3⟩ := text5 R hf w
      obtain ⟨px, xx, te, tt, u1, v1, w1, hPd⟩ := R4.2.2.2.2.1
      have hT0 : zBd (zps px xx te tt u1 v1 w1).e ∧ zSt (zps px xx te tt u1 v1 w1).t := hPd.2.2.2.2.1
      have hPb := isPb.of hPd hf4 (Nat.le_refl 144)
      have hrd := zrd_is (zkq_is f4 4) hPb hT0
      have hPd2 := zpm_Pd hPb hrd
      have RC2 := R4.pad (zpm_ag σe 4 _) ⟨_, _, _, _, _, _, _, hPd2⟩
      rw [show zaD w = 102 from if_neg h] at f0
      obtain ⟨W, hW, hwl, he, ht⟩ := rd_ok f0 f1 hA f2 f3 hB (zps px xx te tt u1 v1 w1)
      have h5 := ctX5_tell R4 (zkq_is f4 4) (S := zps px xx te tt u1 v1 w1) hPd hT0 hf4 (zaM v) hm4 hwl
      generalize (zrd (zkQ f4 4) (zvl f4 4) f4 4 (zps px xx te tt u1 v1 w1)).2 = T at *
      have hM : zMm T.e T.t (fun j => if j = 0 then 1 + zaA w else zaB w) (fun _ => 1) := by
        rw [he, ht]
        exact tell_mm hW
      rw [show zroom T.t 3 0 0 = zrmF (fun _ => 1) 0 0 0 from (zroom_F (hM.2.1.symm.Vl hM.2.2.1)).trans hM.2.1.room] at h5
      have RC4 := ((RC2.chg hm4 hrd.2.1 hrd.2.2).1.wp T.p T.x).1
      exact ⟨_, f4, 0, _, act6 hv hw hq R.1.1 g1 g2 g3 g4 g5 c0 c1 c2 c3 c4 h5, hf4, Or.inr ⟨hrn.1, ztS_rl hX hm4 hA hB hM, RC4⟩⟩
  · refine ⟨-1, S, by decide, fun q => absurd q (by decide), fun σ o l Hs f L R hf => ?_⟩
    obtain ⟨f4, σa, σb, σc, σd, σe, L0, L1, L2, L3, L4, ⟨c0, c1, c2, c3, c4⟩, ⟨g1, g2, g3, g4, g5⟩, R4, hf4, -⟩ := text5 R hf w
    exact ⟨X, f4, 4, σe, act6 hv hw hq R.1.1 g1 g2 g3 g4 g5 c0 c1 c2 c3 c4 (ctX5_tellE _ (by omega) ⟨rfl, by omega⟩), hf4, Or.inl ⟨by decide, R4⟩⟩
/-- every call of the law's -/
theorem act_ok (hX : zRl X S) (h0 : (Sl 0).2 = true) (h1 : (Sl 1).2 = false) (hZ : zRl (Sl 0).1 Z) (hv : -2147483648 ≤ v ∧ v < 2147483648) (hw : -2147483648 ≤ w ∧ w < 2147483648) : actOK X Sl Z v w := by
  have h : v % 16 = 0 ∨ v % 16 = 1 ∨ v % 16 = 2 ∨ v % 16 = 3 ∨ v % 16 = 4 ∨ v % 16 = 5 ∨ (v % 16 = 6 ∨ v % 16 = 7) ∨ 7 < v % 16 := by omega
  rcases h with h | h | h | h | h | h | h | h
  · exact ok_shrink hX hv h
  · exact ok_clear hX hv h
  · exact ok_turn hX hv h
  · exact ok_add hX hv hw h
  · exact ok_copy hX hv h
  · exact ok_restore h0 h1 hZ hv h
  · exact ok_tell hX hv hw h
  · exact ok_entry hX hv hw h
end
