/-- a pad at its start: its object stands at n -/
def zpF (σ : zS) (n : Int) : zS := zsu (zsu (zsu (zsu (zsu (zsu (zsu (zmN (zsu (zsu σ (n + 1) (zP 2 80 (fun _ => 0))) n (zO 2 [zr (n + 1), zi 0, zn, zn, zn, zn, zi 0, zi 0])) (n + 1)) n (zO 2 [zr (n + 1), zi 0, zr (n + 2), zn, zn, zn, zi 0, zi 0])) (n + 5) (zA 16 (fun _ => 0))) n (zO 2 [zr (n + 1), zi 0, zr (n + 2), zr (n + 5), zn, zn, zi 0, zi 0])) (n + 6) (zA 16 (fun _ => 0))) n (zO 2 [zr (n + 1), zi 0, zr (n + 2), zr (n + 5), zr (n + 6), zn, zi 0, zi 0])) (n + 7) (zA 256 (fun _ => 0))) n (zO 2 [zr (n + 1), zi 0, zr (n + 2), zr (n + 5), zr (n + 6), zr (n + 7), zi 0, zi 0])
theorem zpF_is (σ : zS) {n : Int} (hn : 0 < n) {N : Nat} (hN : n + 7 ≤ N) : (zpF σ n n = zO 2 [zr (n + 1), zi 0, zr (n + 2), zr (n + 5), zr (n + 6), zr (n + 7), zi 0, zi 0] ∧ zpF σ n (n + 1) = zP 2 80 (fun _ => 0) ∧ isM (zpF σ n) N (n + 2) (fun _ => 0) (fun _ => 0) ∧ zpF σ n (n + 5) = zA 16 (fun _ => 0) ∧ zpF σ n (n + 6) = zA 16 (fun _ => 0) ∧ zpF σ n (n + 7) = zA 256 (fun _ => 0)) ∧ zAg σ (zpF σ n) n (n + 7) := by
  have g1 := zmN_ag (zsu (zsu σ (n + 1) (zP 2 80 (fun _ => 0))) n (zO 2 [zr (n + 1), zi 0, zn, zn, zn, zn, zi 0, zi 0])) (n + 1)
  have hm := zmN_is (zsu (zsu σ (n + 1) (zP 2 80 (fun _ => 0))) n (zO 2 [zr (n + 1), zi 0, zn, zn, zn, zn, zi 0, zi 0])) (n := n + 1) (N := N) (by omega)
  have h0 : zAg σ (zsu (zsu σ (n + 1) (zP 2 80 (fun _ => 0))) n (zO 2 [zr (n + 1), zi 0, zn, zn, zn, zn, zi 0, zi 0])) n (n + 1) := ((zAg.su σ (n + 1) _).wide (by omega)).trans ((zAg.su _ n _).wide (by omega))
  have h1 : zsu (zsu σ (n + 1) (zP 2 80 (fun _ => 0))) n (zO 2 [zr (n + 1), zi 0, zn, zn, zn, zn, zi 0, zi 0]) (n + 1) = zP 2 80 (fun _ => 0) := (zsu_n _ _ (by omega)).trans (zsu_s _ _ _)
  rw [show n + 1 + 1 = n + 2 by omega] at hm
  unfold zpF
  generalize zsu (zsu σ (n + 1) (zP 2 80 (fun _ => 0))) n (zO 2 [zr (n + 1), zi 0, zn, zn, zn, zn, zi 0, zi 0]) = τ0 at *
  generalize zmN τ0 (n + 1) = τ at *
  have hx : ∀ k, k ≠ n → k ≠ n + 5 → k ≠ n + 6 → k ≠ n + 7 → zsu (zsu (zsu (zsu (zsu (zsu (zsu τ n (zO 2 [zr (n + 1), zi 0, zr (n + 2), zn, zn, zn, zi 0, zi 0])) (n + 5) (zA 16 (fun _ => 0))) n (zO 2 [zr (n + 1), zi 0, zr (n + 2), zr (n + 5), zn, zn, zi 0, zi 0])) (n + 6) (zA 16 (fun _ => 0))) n (zO 2 [zr (n + 1), zi 0, zr (n + 2), zr (n + 5), zr (n + 6), zn, zi 0, zi 0])) (n + 7) (zA 256 (fun _ => 0))) n (zO 2 [zr (n + 1), zi 0, zr (n + 2), zr (n + 5), zr (n + 6), zr (n + 7), zi 0, zi 0]) k = τ k := fun k k1 k2 k3 k4 => by
    rw [zsu_n _ _ k1, zsu_n _ _ k4, zsu_n _ _ k1, zsu_n _ _ k3, zsu_n _ _ k1, zsu_n _ _ k2, zsu_n _ _ k1]
  refine ⟨⟨zsu_s _ _ _, ?_, ?_, ?_, ?_, ?_⟩, fun k hk => ?_⟩
  · rw [hx _ (by omega) (by omega) (by omega) (by omega), g1 _ (by omega)]
    exact h1
  · obtain ⟨m1, m2, m3, m4⟩ := hm
    exact ⟨(hx _ (by omega) (by omega) (by omega) (by omega)).trans m1, (hx _ (by omega) (by omega) (by omega) (by omega)).trans m2, (hx _ (by omega) (by omega) (by omega) (by omega)).trans m3, m4⟩
  · rw [zsu_n _ _ (by omega), zsu_n _ _ (by omega), zsu_n _ _ (by omega), zsu_n _ _ (by omega), zsu_n _ _ (by omega), zsu_s]
  · rw [zsu_n _ _ (by omega), zsu_n _ _ (by omega), zsu_n _ _ (by omega), zsu_s]
  · rw [zsu_n _ _ (by omega), zsu_s]
  · rw [hx _ (by omega) (by omega) (by omega) (by omega), g1 _ (by omega)]
    exact h0 k (by omega)
section
variable {n : Nat} {σ : zS}
theorem ctX2_init (hB : σ n = zO 2 [zn, zi 0, zn, zn, zn, zn, zi 0, zi 0]) (hn : 0 < n) : zCt 2 7 711 yX2_init cX2_init 1 none [zr n] n σ none (n + 7) (zpF σ n) := by
  refine zCt.of (by decide) rfl (Nat.le_of_ble_eq_true rfl) (fun K C => ?_)
  refine x_aload_n C dX2_init_0 rfl ?_
  refine x_objInit C dX2_init_1 loX2_3 (by decide) (Nat.le_of_ble_eq_true rfl) ?_
  refine x_aload_n C dX2_init_4 rfl ?_
  refine x_bipush C dX2_init_5 (by decide) ?_
  refine x_newa (t := 2) (L := 80) C dX2_init_7 rfl rfl (fun _ => rfl) (fun _ _ q => q) ka_char (by decide) (by omega) ?_
  refine x_nm (fun s7 e7 => ?_)
  have hB := (congrFun e7 (n : Int)).trans ((zsu_n _ _ (by omega)).trans hB)
  refine x_putFA C dX2_init_9 lfX2_9 lyX2_0 rfl (fun _ _ _ q => by cases q; rfl) hB (by omega) (Nat.le_of_ble_eq_true rfl) ?_
  refine x_nm (fun s9 e9 => ?_)
  have hB := (congrFun e9 (n:Int)).trans (zsu_s _ _ _)
  refine x_aload_n C dX2_init_12 rfl ?_
  refine x_iconst C dX2_init_13 ?_
  refine x_putI C dX2_init_14 lfX2_15 lyX2_1 hB (by omega) (Nat.le_of_ble_eq_true rfl) ?_
  refine x_nm (fun s14 e14 => ?_)
  have hB := (congrFun e14 (n:Int)).trans (zsu_s _ _ _)
  have hB9 := hB
  refine x_aload_n C dX2_init_17 rfl ?_
  refine x_new (ci := 1) C dX2_init_18 rfl ⟨klX2_19, kiX1.1, kiX1.2, inX1⟩ tyX1 tyX1_ok (fs := [zn, zn]) (fun g j hj => match j, hj with | 0, _ => rfl | 1, _ => rfl | _ + 2, h => absurd h (by omega)) (by omega) ?_
  refine x_nm (fun s18 e18 => ?_)
  have hB0 := (congrFun e18 (n : Int)).trans ((zsu_n _ _ (by omega)).trans hB)
  rw [show ((n + 1 : Nat) : Int) + 1 = (n : Int) + 2 by omega] at e18 ⊢
  have hQ := (congrFun e18 ((n : Int) + 2)).trans (zsu_s _ _ _)
  have e18b : zmI s18 ((n + 1 + 1 : Nat) : Int) ((n : Int) + 2) = zmN s14 ((n : Int) + 1) := by
    rw [e18, show ((n + 1 + 1 : Nat) : Int) = (n : Int) + 1 + 1 by omega, show (n : Int) + 2 = (n : Int) + 1 + 1 by omega]
    rfl
  refine x_dup C dX2_init_21 rfl ?_
  refine x_callIN C dX2_init_22 (ctX1_init (n := n + 1 + 1) hQ (by omega)) okX1_init nkX2_21 ⟨by decide, rfl, rfl, Nat.le_of_ble_eq_true rfl⟩ rfl (Or.inr (by omega)) ?_
  rw [e18b]
  refine x_nm (fun s22 e22 => ?_)
  have hgm := zmN_ag s14 ((n : Int) + 1)
  rw [← e22] at hgm
  have hB := (hgm (n : Int) (by omega)).trans hB9
  have hQ := (congrFun e22 ((n : Int) + 1 + 1)).trans ((zmN_is s14 (n := (n : Int) + 1) (N := n + 4) (by omega)).1)
  rw [show (n : Int) + 1 + 1 = (n : Int) + 2 by omega] at hQ
  refine x_putFO C dX2_init_25 lfX2_22 lyX2_2 rfl (fun _ _ _ q => by cases q; rfl) hB (by omega) (Nat.le_of_ble_eq_true rfl) ?_
  refine x_nm (fun s25 e25 => ?_)
  have hB := (congrFun e25 (n:Int)).trans (zsu_s _ _ _)
  have hQ := (congrFun e25 ((n:Int)+2)).trans ((zsu_n _ _ (by omega)).trans hQ)
  refine x_aload_n C dX2_init_28 rfl ?_
  refine x_bipush C dX2_init_29 (by decide) ?_
  refine x_newa (t := 0) (L := 16) C dX2_init_31 rfl rfl (fun _ => rfl) (fun _ _ q => q) ka_int (by decide) (by omega) ?_
  refine x_nm (fun s31 e31 => ?_)
  have hB := (congrFun e31 (n : Int)).trans ((zsu_n _ _ (by omega)).trans hB)
  refine x_putFA C dX2_init_33 lfX2_26 lyX2_3 rfl (fun _ _ _ q => by cases q; rfl) hB (by omega) (Nat.le_of_ble_eq_true rfl) ?_
  refine x_nm (fun s33 e33 => ?_)
  have hB := (congrFun e33 (n:Int)).trans (zsu_s _ _ _)
  refine x_aload_n C dX2_init_36 rfl ?_
  refine x_bipush C dX2_init_37 (by decide) ?_
  refine x_newa (t := 0) (L := 16) C dX2_init_39 rfl rfl (fun _ => rfl) (fun _ _ q => q) ka_int (by decide) (by omega) ?_
  refine x_nm (fun s39 e39 => ?_)
  have hB := (congrFun e39 (n : Int)).trans ((zsu_n _ _ (by omega)).trans hB)
  refine x_putFA C dX2_init_41 lfX2_30 lyX2_4 rfl (fun _ _ _ q => by cases q; rfl) hB (by omega) (Nat.le_of_ble_eq_true rfl) ?_
  refine x_nm (fun s41 e41 => ?_)
  have hB := (congrFun e41 (n:Int)).trans (zsu_s _ _ _)
  refine x_aload_n C dX2_init_44 rfl ?_
  refine x_sipush C dX2_init_45 (by decide) ?_
  refine x_newa (t := 0) (L := 256) C dX2_init_48 rfl rfl (fun _ => rfl) (fun _ _ q => q) ka_int (by decide) (by omega) ?_
  refine x_nm (fun s48 e48 => ?_)
  have hB := (congrFun e48 (n : Int)).trans ((zsu_n _ _ (by omega)).trans hB)
  refine x_putFA C dX2_init_50 lfX2_33 lyX2_5 rfl (fun _ _ _ q => by cases q; rfl) hB (by omega) (Nat.le_of_ble_eq_true rfl) ?_
  refine x_nm (fun s50 e50 => ?_)
  have hB := (congrFun e50 (n:Int)).trans (zsu_s _ _ _)
  refine x_aload_n C dX2_init_53 rfl ?_
  refine x_iconst C dX2_init_54 ?_
  refine x_putI C dX2_init_55 lfX2_36 lyX2_6 hB (by omega) (Nat.le_of_ble_eq_true rfl) ?_
  refine x_nm (fun s55 e55 => ?_)
  have hB := (congrFun e55 (n:Int)).trans (zsu_s _ _ _)
  refine x_aload_n C dX2_init_58 rfl ?_
  refine x_iconst C dX2_init_59 ?_
  refine x_putI C dX2_init_60 lfX2_39 lyX2_7 hB (by omega) (Nat.le_of_ble_eq_true rfl) ?_
  refine x_nm (fun s60 e60 => ?_)
  have hB := (congrFun e60 (n:Int)).trans (zsu_s _ _ _)
  exact x_vret (st := []) C dX2_init_63 rfl ⟨rfl, rfl, by rw [e60, e55, e50, e48, e41, e39, e33, e31, e25, e22, e14, e9, e7, zsu_u, zsu_u, zsu_u, show ((n + 1 + 1 + 2 : Nat) : Int) + 1 = (n : Int) + 5 by omega, show ((n + 1 + 1 + 2 + 1 : Nat) : Int) + 1 = (n : Int) + 6 by omega, show ((n + 1 + 1 + 2 + 1 + 1 : Nat) : Int) + 1 = (n : Int) + 7 by omega]; rfl, rfl⟩
end
/-- the model at its start -/
def zqI (σ : zS) : zS := zsu (zsu (zsu (zsu (zsu (zsu (zsu (zsu (zsu (zsu (zsu (zsu (zsu (zsu (zsu (zsu (zsu (zsu (zsu (zsu σ 146 (zP 0 1365 (fun _ => 0))) 145 (zO 6 [zi 0, zr 146, zn, zn, zi 0, zn, zn, zn, zi 0, zi 0, zi 0, zn, zn, zn, zi 0, zi 0, zi 0, zn])) 147 (zP 0 1365 (fun _ => 0))) 145 (zO 6 [zi 0, zr 146, zr 147, zn, zi 0, zn, zn, zn, zi 0, zi 0, zi 0, zn, zn, zn, zi 0, zi 0, zi 0, zn])) 148 (zP 0 8190 (fun _ => 0))) 145 (zO 6 [zi 0, zr 146, zr 147, zr 148, zi 0, zn, zn, zn, zi 0, zi 0, zi 0, zn, zn, zn, zi 0, zi 0, zi 0, zn])) 149 (zP 0 2730 (fun _ => 0))) 145 (zO 6 [zi 0, zr 146, zr 147, zr 148, zi 0, zr 149, zn, zn, zi 0, zi 0, zi 0, zn, zn, zn, zi 0, zi 0, zi 0, zn])) 150 (zP 1 2 (fun _ => 0))) 145 (zO 6 [zi 0, zr 146, zr 147, zr 148, zi 0, zr 149, zr 150, zn, zi 0, zi 0, zi 0, zn, zn, zn, zi 0, zi 0, zi 0, zn])) 151 (zP 0 80 (fun _ => 0))) 145 (zO 6 [zi 0, zr 146, zr 147, zr 148, zi 0, zr 149, zr 150, zr 151, zi 0, zi 0, zi 0, zn, zn, zn, zi 0, zi 0, zi 0, zn])) 152 (zP 0 341 (fun _ => 0))) 145 (zO 6 [zi 0, zr 146, zr 147, zr 148, zi 0, zr 149, zr 150, zr 151, zi 0, zi 0, zi 0, zr 152, zn, zn, zi 0, zi 0, zi 0, zn])) 153 (zP 0 256 (fun _ => 0))) 145 (zO 6 [zi 0, zr 146, zr 147, zr 148, zi 0, zr 149, zr 150, zr 151, zi 0, zi 0, zi 0, zr 152, zr 153, zn, zi 0, zi 0, zi 0, zn])) 154 (zP 0 16 (fun _ => 0))) 145 (zO 6 [zi 0, zr 146, zr 147, zr 148, zi 0, zr 149, zr 150, zr 151, zi 0, zi 0, zi 0, zr 152, zr 153, zr 154, zi 0, zi 0, zi 0, zn])) 155 (zP 1 85 (fun _ => 0))) 145 (zO 6 [zi 0, zr 146, zr 147, zr 148, zi 0, zr 149, zr 150, zr 151, zi 0, zi 0, zi 0, zr 152, zr 153, zr 154, zi 0, zi 0, zi 0, zr 155])
theorem zqI_is (σ : zS) : RepM (zqI σ) 0 0 (fun _ => 0) (fun _ => 0) (fun _ => 0) (fun _ => 0) (fun _ => 0) ∧ zAg σ (zqI σ) 145 155 := by
  refine ⟨⟨⟨0, false, 0, 0, 0, zsu_s _ _ _⟩, rfl, ⟨_, rfl⟩, rfl, rfl, rfl, rfl, ⟨_, rfl, fun _ _ _ => by decide⟩, ⟨_, rfl⟩, ⟨_, rfl⟩, ⟨_, rfl⟩⟩, fun k hk => ?_⟩
  unfold zqI
  rw [zsu_n _ _ (by omega), zsu_n _ _ (by omega), zsu_n _ _ (by omega), zsu_n _ _ (by omega), zsu_n _ _ (by omega), zsu_n _ _ (by omega), zsu_n _ _ (by omega), zsu_n _ _ (by omega), zsu_n _ _ (by omega), zsu_n _ _ (by omega), zsu_n _ _ (by omega), zsu_n _ _ (by omega), zsu_n _ _ (by omega), zsu_n _ _ (by omega), zsu_n _ _ (by omega), zsu_n _ _ (by omega), zsu_n _ _ (by omega), zsu_n _ _ (by omega), zsu_n _ _ (by omega), zsu_n _ _ (by omega)]
section
variable {σ : zS}
theorem ctX6_init (hB : σ 145 = zO 6 [zi 0, zn, zn, zn, zi 0, zn, zn, zn, zi 0, zi 0, zi 0, zn, zn, zn, zi 0, zi 0, zi 0, zn]) : zCt 1 10 14430 yX6_init cX6_init 1 none [zr 145] 145 σ none 155 (zqI σ) := by
  refine zCt.of (by decide) rfl (Nat.le_of_ble_eq_true rfl) (fun K C => ?_)
  refine x_aload_n C dX6_init_0 rfl ?_
  refine x_objInit C dX6_init_1 loX6_1 (by decide) (Nat.le_of_ble_eq_true rfl) ?_
  refine x_aload_n C dX6_init_4 rfl ?_
  refine x_sipush C dX6_init_5 (by decide) ?_
  refine x_newa (t := 0) (L := 1365) C dX6_init_8 rfl rfl (fun _ => rfl) (fun _ _ q => q) ka_int (by decide) (by omega) ?_
  refine x_nm (fun s8 e8 => ?_)
  rw [show ((145 : Nat) : Int) + 1 = 146 from rfl] at e8 ⊢
  have hB := (congrFun e8 145).trans ((zsu_n _ _ (by decide)).trans hB)
  refine x_putFA C dX6_init_10 lfX6_7 lyX6_1 rfl (fun _ _ _ q => by cases q; rfl) hB (by omega) (Nat.le_of_ble_eq_true rfl) ?_
  refine x_nm (fun s10 e10 => ?_)
  have hB := (congrFun e10 145).trans (zsu_s _ _ _)
  refine x_aload_n C dX6_init_13 rfl ?_
  refine x_sipush C dX6_init_14 (by decide) ?_
  refine x_newa (t := 0) (L := 1365) C dX6_init_17 rfl rfl (fun _ => rfl) (fun _ _ q => q) ka_int (by decide) (by omega) ?_
  refine x_nm (fun s17 e17 => ?_)
  rw [show ((145 + 1 : Nat) : Int) + 1 = 147 from rfl] at e17 ⊢
  have hB := (congrFun e17 145).trans ((zsu_n _ _ (by decide)).trans hB)
  refine x_putFA C dX6_init_19 lfX6_13 lyX6_2 rfl (fun _ _ _ q => by cases q; rfl) hB (by omega) (Nat.le_of_ble_eq_true rfl) ?_
  refine x_nm (fun s19 e19 => ?_)
  have hB := (congrFun e19 145).trans (zsu_s _ _ _)
  refine x_aload_n C dX6_init_22 rfl ?_
  refine x_sipush C dX6_init_23 (by decide) ?_
  refine x_newa (t := 0) (L := 8190) C dX6_init_26 rfl rfl (fun _ => rfl) (fun _ _ q => q) ka_int (by decide) (by omega) ?_
  refine x_nm (fun s26 e26 => ?_)
  rw [show ((145 + 1 + 1 : Nat) : Int) + 1 = 148 from rfl] at e26 ⊢
  have hB := (congrFun e26 145).trans ((zsu_n _ _ (by decide)).trans hB)
  refine x_putFA C dX6_init_28 lfX6_16 lyX6_3 rfl (fun _ _ _ q => by cases q; rfl) hB (by omega) (Nat.le_of_ble_eq_true rfl) ?_
  refine x_nm (fun s28 e28 => ?_)
  have hB := (congrFun e28 145).trans (zsu_s _ _ _)
  refine x_aload_n C dX6_init_31 rfl ?_
  refine x_sipush C dX6_init_32 (by decide) ?_
  refine x_newa (t := 0) (L := 2730) C dX6_init_35 rfl rfl (fun _ => rfl) (fun _ _ q => q) ka_int (by decide) (by omega) ?_
  refine x_nm (fun s35 e35 => ?_)
  rw [show ((145 + 1 + 1 + 1 : Nat) : Int) + 1 = 149 from rfl] at e35 ⊢
  have hB := (congrFun e35 145).trans ((zsu_n _ _ (by decide)).trans hB)
  refine x_putFA C dX6_init_37 lfX6_19 lyX6_5 rfl (fun _ _ _ q => by cases q; rfl) hB (by omega) (Nat.le_of_ble_eq_true rfl) ?_
  refine x_nm (fun s37 e37 => ?_)
  have hB := (congrFun e37 145).trans (zsu_s _ _ _)
  refine x_aload_n C dX6_init_40 rfl ?_
  refine x_iconst C dX6_init_41 ?_
  refine x_newa (t := 1) (L := 2) C dX6_init_42 rfl rfl (fun _ => rfl) (fun _ _ q => q) ka_boolean (by decide) (by omega) ?_
  refine x_nm (fun s42 e42 => ?_)
  rw [show ((145 + 1 + 1 + 1 + 1 : Nat) : Int) + 1 = 150 from rfl] at e42 ⊢
  have hB := (congrFun e42 145).trans ((zsu_n _ _ (by decide)).trans hB)
  refine x_putFA C dX6_init_44 lfX6_22 lyX6_6 rfl (fun _ _ _ q => by cases q; rfl) hB (by omega) (Nat.le_of_ble_eq_true rfl) ?_
  refine x_nm (fun s44 e44 => ?_)
  have hB := (congrFun e44 145).trans (zsu_s _ _ _)
  refine x_aload_n C dX6_init_47 rfl ?_
  refine x_bipush C dX6_init_48 (by decide) ?_
  refine x_newa (t := 0) (L := 80) C dX6_init_50 rfl rfl (fun _ => rfl) (fun _ _ q => q) ka_int (by decide) (by omega) ?_
  refine x_nm (fun s50 e50 => ?_)
  rw [show ((145 + 1 + 1 + 1 + 1 + 1 : Nat) : Int) + 1 = 151 from rfl] at e50 ⊢
  have hB := (congrFun e50 145).trans ((zsu_n _ _ (by decide)).trans hB)
  refine x_putFA C dX6_init_52 lfX6_26 lyX6_7 rfl (fun _ _ _ q => by cases q; rfl) hB (by omega) (Nat.le_of_ble_eq_true rfl) ?_
  refine x_nm (fun s52 e52 => ?_)
  have hB := (congrFun e52 145).trans (zsu_s _ _ _)
  refine x_aload_n C dX6_init_55 rfl ?_
  refine x_sipush C dX6_init_56 (by decide) ?_
  refine x_newa (t := 0) (L := 341) C dX6_init_59 rfl rfl (fun _ => rfl) (fun _ _ q => q) ka_int (by decide) (by omega) ?_
  refine x_nm (fun s59 e59 => ?_)
  rw [show ((145 + 1 + 1 + 1 + 1 + 1 + 1 : Nat) : Int) + 1 = 152 from rfl] at e59 ⊢
  have hB := (congrFun e59 145).trans ((zsu_n _ _ (by decide)).trans hB)
  refine x_putFA C dX6_init_61 lfX6_29 lyX6_11 rfl (fun _ _ _ q => by cases q; rfl) hB (by omega) (Nat.le_of_ble_eq_true rfl) ?_
  refine x_nm (fun s61 e61 => ?_)
  have hB := (congrFun e61 145).trans (zsu_s _ _ _)
  refine x_aload_n C dX6_init_64 rfl ?_
  refine x_sipush C dX6_init_65 (by decide) ?_
  refine x_newa (t := 0) (L := 256) C dX6_init_68 rfl rfl (fun _ => rfl) (fun _ _ q => q) ka_int (by decide) (by omega) ?_
  refine x_nm (fun s68 e68 => ?_)
  rw [show ((145 + 1 + 1 + 1 + 1 + 1 + 1 + 1 : Nat) : Int) + 1 = 153 from rfl] at e68 ⊢
  have hB := (congrFun e68 145).trans ((zsu_n _ _ (by decide)).trans hB)
  refine x_putFA C dX6_init_70 lfX6_32 lyX6_12 rfl (fun _ _ _ q => by cases q; rfl) hB (by omega) (Nat.le_of_ble_eq_true rfl) ?_
  refine x_nm (fun s70 e70 => ?_)
  have hB := (congrFun e70 145).trans (zsu_s _ _ _)
  refine x_aload_n C dX6_init_73 rfl ?_
  refine x_bipush C dX6_init_74 (by decide) ?_
  refine x_newa (t := 0) (L := 16) C dX6_init_76 rfl rfl (fun _ => rfl) (fun _ _ q => q) ka_int (by decide) (by omega) ?_
  refine x_nm (fun s76 e76 => ?_)
  rw [show ((145 + 1 + 1 + 1 + 1 + 1 + 1 + 1 + 1 : Nat) : Int) + 1 = 154 from rfl] at e76 ⊢
  have hB := (congrFun e76 145).trans ((zsu_n _ _ (by decide)).trans hB)
  refine x_putFA C dX6_init_78 lfX6_35 lyX6_13 rfl (fun _ _ _ q => by cases q; rfl) hB (by omega) (Nat.le_of_ble_eq_true rfl) ?_
  refine x_nm (fun s78 e78 => ?_)
  have hB := (congrFun e78 145).trans (zsu_s _ _ _)
  refine x_aload_n C dX6_init_81 rfl ?_
  refine x_bipush C dX6_init_82 (by decide) ?_
  refine x_newa (t := 1) (L := 85) C dX6_init_84 rfl rfl (fun _ => rfl) (fun _ _ q => q) ka_boolean (by decide) (by omega) ?_
  refine x_nm (fun s84 e84 => ?_)
  rw [show ((145 + 1 + 1 + 1 + 1 + 1 + 1 + 1 + 1 + 1 : Nat) : Int) + 1 = 155 from rfl] at e84 ⊢
  have hB := (congrFun e84 145).trans ((zsu_n _ _ (by decide)).trans hB)
  refine x_putFA C dX6_init_86 lfX6_38 lyX6_17 rfl (fun _ _ _ q => by cases q; rfl) hB (by omega) (Nat.le_of_ble_eq_true rfl) ?_
  refine x_nm (fun s86 e86 => ?_)
  have hB := (congrFun e86 145).trans (zsu_s _ _ _)
  refine x_aload_n C dX6_init_89 rfl ?_
  refine x_iconst C dX6_init_90 ?_
  refine x_putI C dX6_init_91 lfX6_41 lyX6_0 hB (by omega) (Nat.le_of_ble_eq_true rfl) ?_
  refine x_nm (fun s91 e91 => ?_)
  have hB := (congrFun e91 145).trans (zsu_s _ _ _)
  exact x_vret (st := []) C dX6_init_94 rfl ⟨rfl, rfl, by rw [e91, e86, zsu_u, e84, e78, e76, e70, e68, e61, e59, e52, e50, e44, e42, e37, e35, e28, e26, e19, e17, e10, e8]; rfl, rfl⟩
end
