/-- a pad at its start: its object stands at n -/
def zpF (σ : zS) (n : Int) : zS := zsu (zsu (zsu (zsu (zsu (zsu (zsu (zmN (zsu (zsu σ (n + 1) (zP 2 80 (fun _ => 0))) n (zO 2 [zr (n + 1), zi 0, zn, zn, zn, zn, zi 0, zi 0])) (n + 1)) n (zO 2 [zr (n + 1), zi 0, zr (n + 2), zn, zn, zn, zi 0, zi 0])) (n + 5) (zA 16 (fun _ => 0))) n (zO 2 [zr (n + 1), zi 0, zr (n + 2), zr (n + 5), zn, zn, zi 0, zi 0])) (n + 6) (zA 16 (fun _ => 0))) n (zO 2 [zr (n + 1), zi 0, zr (n + 2), zr (n + 5), zr (n + 6), zn, zi 0, zi 0])) (n + 7) (zA 256 (fun _ => 0))) n (zO 2 [zr (n + 1), zi 0, zr (n + 2), zr (n + 5), zr (n + 6), zr (n + 7), zi 0, zi 0])
theorem zpF_is (σ : zS) {n : Int} (hn : 0 < n) {N : Nat} (hN : n + 7 ≤ N) : (zpF σ n n = zO 2 [zr (n + 1), zi 0, zr (n + 2), zr (n + 5), zr (n + 6), zr (n + 7), zi 0, zi 0] ∧ zpF σ n (n + 1) = zP 2 80 (fun _ => 0) ∧ isM (zpF σ n) N (n + 2) (fun _ => 0) (fun _ => 0) ∧ zpF σ n (n + 5) = zA 16 (fun _ => 0) ∧ zpF σ n (n + 6) = zA 16 (fun _ => 0) ∧ zpF σ n (n + 7) = zA 256 (fun _ => 0)) ∧ zAg σ (zpF σ n) n (n + 7) := by
  have g1 := zmN_ag (zsu (zsu σ (n + 1) (zP 2 80 (fun _ => 0))) n (zO 2 [zr (n + 1), zi 0, zn, zn, zn, zn, zi 0, zi 0])) (n + 1)
  have hm := zmN_is (zsu (zsu σ (n + 1) (zP 2 80 (fun _ => 0))) n (zO 2 [zr (n + 1), zi 0, zn, zn, zn, zn, zi 0, zi 0])) (n := n + 1) (N := N) (by omega)
  have h0 : zAg σ (zsu (zsu σ (n + 1) (zP 2 80 (fun _ => 0))) n (zO 2 [zr (n + 1), zi 0, zn, zn, zn, zn, zi 0, zi 0])) n (n + 1) := ((zAg.su σ (n + 1) _).wide (by omega)).trans ((zAg.su _ n _).wide (by omega))
  have h1 : zsu (zsu σ (n + 1) (zP 2 80 (fun _ => 0))) n (zO 2 [zr (n + 1), zi 0, zn, zn, zn, zn, zi 0, zi 0]) (n + 1) = zP 2 80 (fun _ => 0) := (zsu_n _ _ (by omega)).trans (zsu_s _ _ _)
  rw [show n + 1 + 1 = n + 2 by omega] at hm
  unfold zpF
  generalize zsu (zsu σ (n + 1) (zP 2 80 (fun _ => 0))) n (zO 2 [zr (n + 1), zi 0, zn, zn, zn, zn, zi 0, zi 0]) = τ0 at *
  generalize zmN τ0 (n + 1) = τ at *
  have hx : ∀ k, k ≠ n → k ≠ n + 5 → k ≠ n + 6 → k ≠ n + 7 → zsu (zsu (zsu (zsu (zsu (zsu (zsu τ n (zO 2 [zr (n + 1), zi 0, zr (n + 2), zn, zn, zn, zi 0, zi 0])) (n + 5) (zA 16 (fun _ => 0))) n (zO 2 [zr (n + 1), zi 0, zr (n + 2), zr (n + 5), zn, zn, zi 0, zi 0])) (n + 6) (zA 16 (fun _ => 0))) n (zO 2 [zr (n + 1), zi 0, zr (n + 2), zr (n + 5), zr (n + 6), zn, zi 0, zi 0])) (n + 7) (zA 256 (fun _ => 0))) n (zO 2 [zr (n + 1), zi 0, zr (n + 2), zr (n + 5), zr (n + 6), zr (n + 7), zi 0, zi 0]) k = τ k := fun k k1 k2 k3 k4 => by
    rw [zsu_n _ _ k1, zsu_n _ _ k4, zsu_n _ _ k1, zsu_n _ _ k3, zsu_n _ _ k1, zsu_n _ _ k2, zsu_n _ _ k1]
  refine ⟨⟨zsu_s _ _ _, ?_, ?_, ?_, ?_, ?_⟩, fun k hk => ?_⟩
  · rw [hx _ (by omega) (by omega) (by omega) (by omega), g1 _ (by omega)]
    exact h1
  · obtain ⟨m1, m2, m3, m4⟩ := hm
    exact ⟨(hx _ (by omega) (by omega) (by omega) (by omega)).trans m1, (hx _ (by omega) (by omega) (by omega) (by omega)).trans m2, (hx _ (by omega) (by omega) (by omega) (by omega)).trans m3, m4⟩
  · rw [zsu_n _ _ (by omega), zsu_n _ _ (by omega), zsu_n _ _ (by omega), zsu_n _ _ (by omega), zsu_n _ _ (by omega), zsu_s]
  · rw [zsu_n _ _ (by omega), zsu_n _ _ (by omega), zsu_n _ _ (by omega), zsu_s]
  · rw [zsu_n _ _ (by omega), zsu_s]
  · rw [hx _ (by omega) (by omega) (by omega) (by omega), g1 _ (by omega)]
    exact h0 k (by omega)
section
variable {n : Nat} {σ : zS}
theorem ctX2_init (hB : σ n = zO 2 [zn, zi 0, zn, zn, zn, zn, zi 0, zi 0]) (hn : 0 < n) : zCt 2 7 711 yX2_init cX2_init 1 none [zr n] n σ none (n + 7) (zpF σ n) := by
  refine zCt.of (by decide) rfl (Nat.le_of_ble_eq_true rfl) (fun K C => ?_)
  refine x_aload_n C dX2_init_0 rfl ?_
  refine x_objInit C dX2_init_1 loX2_3 (by decide) (Nat.le_of_ble_eq_true rfl) ?_
  refine x_aload_n C dX2_init_4 rfl ?_
  refine x_bipush C dX2_init_5 (by decide) ?_
  refine x_newa (t := 2) (L := 80) C dX2_init_7 rfl rfl (fun _ => rfl) (fun _ _ q => q) ka_char (by decide) (by omega) ?_
  refine x_nm (fun s7 e7 => ?_)
  have hB := (congrFun e7 (n : Int)).trans ((zsu_n _ _ (by omega)).trans hB)
  refine x_putFA C dX2_init_9 lfX2_9 lyX2_0 rfl (fun _ _ _ q => by cases q; rfl) hB (by omega) (Nat.le_of_ble_eq_true rfl) ?_
  refine x_nm (fun s9 e9 => ?_)
  have hB := (congrFun e9 (n:Int)).trans (zsu_s _ _ _)
  refine x_aload_n C dX2_init_12 rfl ?_
  refine x_iconst C dX2_init_13 ?_
  refine x_putI C dX2_init_14 lfX2_15 lyX2_1 hB (by omega) (Nat.le_of_ble_eq_true rfl) ?_
  refine x_nm (fun s14 e14 => ?_)
  have hB := (congrFun e14 (n:Int)).trans (zsu_s _ _ _)
  have hB9 := hB
  refine x_aload_n C dX2_init_17 rfl ?_
  refine x_new (ci := 1) C dX2_init_18 rfl ⟨klX2_19, kiX1.1, kiX1.2, inX1⟩ tyX1 tyX1_ok (fs := [zn, zn]) (fun g j hj => match j, hj with | 0, _ => rfl | 1, _ => rfl | _ + 2, h => absurd h (by omega)) (by omega) ?_
  refine x_nm (fun s18 e18 => ?_)
  have hB0 := (congrFun e18 (n : Int)).trans ((zsu_n _ _ (by omega)).trans hB)
  rw [show ((n + 1 : Nat) : Int) + 1 = (n : Int) + 2 by omega] at e18 ⊢
  have hQ := (congrFun e18 ((n : Int) + 2)).trans (zsu_s _ _ _)
  have e18b : zmI s18 ((n + 1 + 1 : Nat) : Int) ((n : Int) + 2) = zmN s14 ((n : Int) + 1) := by
    rw [e18, show ((n + 1 + 1 : Nat) : Int) = (n : Int) + 1 + 1 by omega, show (n : Int) + 2 = (n : Int) + 1 + 1 by omega]
    rfl
  refine x_dup C dX2_init_21 rfl ?_
  refine x_callIN C dX2_init_22 (ctX1_init (n := n + 1 + 1) hQ (by omega)) okX1_init nkX2_21 ⟨by decide, rfl, rfl, Nat.le_of_ble_eq_true rfl⟩ rfl (Or.inr (by omega)) ?_
  rw [e18b]
  refine x_nm (fun s22 e22 => ?_)
  have hgm := zmN_ag s14 ((n : Int) + 1)
  rw [← e22] at hgm
  have hB := (hgm (n : Int) (by omega)).trans hB9
  have hQ := (congrFun e22 ((n : Int) + 1 + 1)).trans ((zmN_is s14 (n := (n : Int) + 1) (N := n + 4) (by omega)).1)
  rw [show (n : Int) + 1 + 1 = (n : Int) + 2 by omega] at hQ
  refine x_putFO C dX2_init_25 lfX2_22 lyX2_2 rfl (fun _ _ _ q => by cases q; rfl) hB (by omega) (Nat.le_of_ble_eq_true rfl) ?_
  refine x_nm (fun s25 e25 => ?_)
  have hB := (congrFun e25 (n:Int)).trans (zsu_s _ _ _)
  have hQ := (congrFun e25 ((n:Int)+2)).trans ((zsu_n _ _ (by omega)).trans hQ)
  refine x_aload_n C dX2_init_28 rfl ?_
  refine x_bipush C dX2_init_29 (by decide) ?_
  refine x_newa (t := 0) (L := 16) C dX2_init_31 rfl rfl (fun _ => rfl) (fun _ _ q => q) ka_int (by decide) (by omega) ?_
  refine x_nm (fun s31 e31 => ?_)
  have hB := (congrFun e31 (n : Int)).trans ((zsu_n _ _ (by omega)).trans hB)
  refine x_putFA C dX2_init_33 lfX2_26 lyX2_3 rfl (fun _ _ _ q => by cases q; rfl) hB (by omega) (Nat.le_of_ble_eq_true rfl) ?_
  refine x_nm (fun s33 e33 => ?_)
  have hB := (congrFun e33 (n:Int)).trans (zsu_s _ _ _)
  refine x_aload_n C dX2_init_36 rfl ?_
  refine x_bipush C dX2_init_37 (by decide) ?_
  refine x_newa (t := 0) (L := 16) C dX2_init_39 rfl rfl (fun _ => rfl) (fun _ _ q => q) ka_int (by decide) (by omega) ?_
  refine x_nm (fun s39 e39 => ?_)
  have hB := (congrFun e39 (n : Int)).trans ((zsu_n _ _ (by omega)).trans hB)
  refine x_putFA C dX2_init_41 lfX2_30 lyX2_4 rfl (fun _ _ _ q => by cases q; rfl) hB (by omega) (Nat.le_of_ble_eq_true rfl) ?_
  refine x_nm (fun s41 e41 => ?_)
  have hB := (congrFun e41 (n:Int)).trans (zsu_s _ _ _)
  refine x_aload_n C dX2_init_44 rfl ?_
  refine x_sipush C dX2_init_45 (by decide) ?_
  refine x_newa (t := 0) (L := 256) C dX2_init_48 rfl rfl (fun _ => rfl) (fun _ _ q => q) ka_int (by decide) (by omega) ?_
  refine x_nm (fun s48 e48 => ?_)
  have hB := (congrFun e48 (n : Int)).trans ((zsu_n _ _ (by omega)).trans hB)
  refine x_putFA C dX2_init_50 lfX2_33 lyX2_5 rfl (fun _ _ _ q => by cases q; rfl) hB (by omega) (Nat.le_of_ble_eq_true rfl) ?_
  refine x_nm (fun s50 e50 => ?_)
  have hB := (congrFun e50 (n:Int)).trans (zsu_s _ _ _)
  refine x_aload_n C dX2_init_53 rfl ?_
  refine x_iconst C dX2_init_54 ?_
  refine x_putI C dX2_init_55 lfX2_36 lyX2_6 hB (by omega) (Nat.le_of_ble_eq_true rfl) ?_
  refine x_nm (fun s55 e55 => ?_)
  have hB := (congrFun e55 (n:Int)).trans (zsu_s _ _ _)
  refine x_aload_n C dX2_init_58 rfl ?_
  refine x_iconst C dX2_init_59 ?_
  refine x_putI C dX2_init_60 lfX2_39 lyX2_7 hB (by omega) (Nat.le_of_ble_eq_true rfl) ?_
  refine x_nm (fun s60 e60 => ?_)
  have hB := (congrFun e60 (n:Int)).trans (zsu_s _ _ _)
  exact x_vret (st := []) C dX2_init_63 rfl ⟨rfl, rfl, by rw [e60, e55, e50, e48, e41, e39, e33, e31, e25, e22, e14, e9, e7, zsu_u, zsu_u, zsu_u, show ((n + 1 + 1 + 2 : Nat) : Int) + 1 = (n : Int) + 5 by omega, show ((n + 1 + 1 + 2 + 1 : Nat) : Int) + 1 = (n : Int) + 6 by omega, show ((n + 1 + 1 + 2 + 1 + 1 : Nat) : Int) + 1 = (n : Int) + 7 by omega]; rfl, rfl⟩
end
section
variable {σ : zS}
end
