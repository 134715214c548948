/-- a new state, made at n + 1 -/
def zsG (σ : zS) (n : Int) : zS := zsF (zsu σ (n + 1) (zO 4 [zn, zi 0])) (n + 1)
theorem zsG_is (σ : zS) {n : Int} (hn : 0 ≤ n) {N : Nat} (hN : n + 14 ≤ N) : isSt (zsG σ n) N (n + 1) zX0 ∧ zAg σ (zsG σ n) (n + 1) (n + 14) := by
  obtain ⟨a, b⟩ := zsF_is (zsu σ (n + 1) (zO 4 [zn, zi 0])) (n := n + 1) (by omega) (N := N) (by omega)
  exact ⟨a, ((zAg.su σ (n + 1) _).wide (by omega)).trans (b.wide (by omega))⟩
/-- a history at its start: its object stands at n -/
def zhI (σ : zS) (n : Int) : zS := zsu (zsu σ (n + 1) (zQ 4 6 (zqf (n + 2) 14 0))) n (zO 0 [zr (n + 1), zi 0, zi 0])
def zhL (σ : zS) (n : Int) : Nat → zS := zfo (fun τ k => zsu (zsG τ (n + 1 + 14 * k)) (n + 1) (zQ 4 6 (zqf (n + 2) 14 (k + 1)))) (zhI σ n)
def zhF (σ : zS) (n : Int) : zS := zsu (zhL σ n 6) (n + 1) (zQ 4 6 (fun m => some (n + 2 + 14 * m)))
theorem zhL_is (σ : zS) {n : Int} (hn : 0 < n) : ∀ k : Nat, k ≤ 6 → zhL σ n k n = zO 0 [zr (n + 1), zi 0, zi 0] ∧ zhL σ n k (n + 1) = zQ 4 6 (zqf (n + 2) 14 k) ∧ zAg σ (zhL σ n k) n (n + 1 + 14 * k) ∧ ∀ N : Nat, n + 85 ≤ N → ∀ j : Nat, j < k → isSt (zhL σ n k) N (n + 2 + 14 * j) zX0
  | 0, _ => ⟨zsu_s _ _ _, (zsu_n _ _ (by omega)).trans (zsu_s _ _ _), fun k hk => (zsu_n _ _ (by omega)).trans (zsu_n _ _ (by omega)), fun _ _ j hj => absurd hj (by omega)⟩
  | k + 1, hk => by
    obtain ⟨h1, h2, h3, h4⟩ := zhL_is σ hn k (by omega)
    have e : zhL σ n (k + 1) = zsu (zsG (zhL σ n k) (n + 1 + 14 * k)) (n + 1) (zQ 4 6 (zqf (n + 2) 14 (k + 1))) := rfl
    have g1 := (zsG_is (zhL σ n k) (n := n + 1 + 14 * k) (by omega) (N := (n + 1 + 14 * k + 14).toNat) (by omega)).2
    have g2 := zAg.su (zsG (zhL σ n k) (n + 1 + 14 * k)) (n + 1) (zQ 4 6 (zqf (n + 2) 14 (k + 1)))
    rw [e]
    refine ⟨(g2 n (by omega)).trans ((g1 n (by omega)).trans h1), ?_, (h3.wide (by omega)).trans ((g1.wide (by omega)).trans (g2.wide (by omega))), fun N hN j hj => ?_⟩
    · rw [zsu_s]
      rfl
    · by_cases q : j = k
      · have hm := (zsG_is (zhL σ n k) (n := n + 1 + 14 * k) (by omega) (N := N) (by omega)).1.ag g2 (by omega)
        rw [show n + 1 + 14 * (k : Int) + 1 = n + 2 + 14 * j by omega] at hm
        exact hm
      · exact ((h4 N hN j (by omega)).ag g1 (by omega)).ag g2 (by omega)
theorem zhF_is (σ : zS) {n : Int} (hn : 0 < n) {N : Nat} (hN : n + 85 ≤ N) : (zhF σ n n = zO 0 [zr (n + 1), zi 0, zi 0] ∧ zhF σ n (n + 1) = zQ 4 6 (fun m => some (n + 2 + 14 * m)) ∧ ∀ m, 0 ≤ m → m < 6 → isSt (zhF σ n) N (n + 2 + 14 * m) zX0) ∧ zAg σ (zhF σ n) n (n + 85) := by
  obtain ⟨h1, h2, h3, h4⟩ := zhL_is σ hn 6 (by decide)
  have g2 := zAg.su (zhL σ n 6) (n + 1) (zQ 4 6 (fun m => some (n + 2 + 14 * m)))
  refine ⟨⟨(g2 n (by omega)).trans h1, zsu_s _ _ _, fun m m1 m2 => ?_⟩, (h3.wide (by omega)).trans (g2.wide (by omega))⟩
  have := (h4 N hN m.toNat (by omega)).ag g2 (by omega)
  rw [Int.toNat_of_nonneg m1] at this
  exact this
section
variable {n : Nat} {σ : zS}
theorem ctX0_init (hB : σ n = zO 0 [zn, zi 0, zi 0]) (hn : 0 < n) : zCt 3 85 8274 yX0_init cX0_init 2 none [zr n] n σ none (n + 85) (zhF σ n) := by
  refine zCt.of (by decide) rfl (Nat.le_of_ble_eq_true rfl) (fun K C => ?_)
  have loop : ∀ k : Nat, k ≤ 6 → K 25 [some (zr n), some (zi (k : Int))] [] (n + 1 + 14 * k) (zhL σ n k) (6 + 1378 * k) := by
    refine zloop _ 6 (fun k hk ih => ?_)
    obtain ⟨hB, hA, hg, hm⟩ := zhL_is σ (n := (n : Int)) (by omega) k hk
    have eL : zhL σ n (k + 1) = zsu (zsG (zhL σ n k) ((n : Int) + 1 + 14 * k)) ((n : Int) + 1) (zQ 4 6 (zqf ((n : Int) + 2) 14 (k + 1))) := rfl
    have eF : k = 6 → zhF σ n = zsu (zhL σ n k) ((n : Int) + 1) (zQ 4 6 (fun m => some ((n : Int) + 2 + 14 * m))) := fun e => by rw [e]; rfl
    generalize zhL σ n k = τ at *
    refine x_iload_n C dX0_init_25 rfl ?_
    refine x_bipush C dX0_init_26 (by decide) ?_
    refine x_icmp_ge (tgt := 50) C dX0_init_28 (by decide) (by omega) (fun c28 => ?_) (fun c28 => ?_)
    · obtain rfl : k = 6 := by omega
      refine x_simq C (fun m => some ((n : Int) + 2 + 14 * m)) hA (fun j h1 h2 => if_pos ⟨h1, h2⟩) ?_
      exact x_vret (st := []) C dX0_init_50 rfl ⟨rfl, by omega, (eF rfl).symm, rfl⟩
    · refine x_aload_n C dX0_init_31 rfl ?_
      refine x_getfield C dX0_init_32 lfX0_11 hB (by omega) rfl ?_
      refine x_iload_n C dX0_init_35 rfl ?_
      refine x_new (ci := 4) C dX0_init_36 rfl ⟨klX0_9, kiX4.1, kiX4.2, inX4⟩ tyX4 tyX4_ok (fs := [zn, zi 0]) (fun g j hj => match j, hj with | 0, _ => rfl | 1, _ => rfl | _ + 2, h => absurd h (by omega)) (by omega) ?_
      refine x_nm (fun s36 e36 => ?_)
      have hA0 := hA
      have hB0 := hB
      obtain ⟨q, hq⟩ : ∃ q : Nat, q = n + 1 + 14 * k + 1 := ⟨_, rfl⟩
      rw [show ((n + 1 + 14 * k : Nat) : Int) + 1 = (q : Int) by omega] at e36 ⊢
      rw [← hq]
      have hQ := (congrFun e36 (q : Int)).trans (zsu_s _ _ _)
      refine x_dup C dX0_init_39 rfl ?_
      refine x_callI C dX0_init_40 (ctX4_init (n := q) hQ (by omega)) okX4_init lkX0_24 ⟨by decide, rfl, rfl, Nat.le_of_ble_eq_true rfl⟩ rfl (Or.inr (by omega)) ?_
      refine x_nm (fun s40 e40 => ?_)
      have e40b : s40 = zsG τ ((n : Int) + 1 + 14 * k) := by
        rw [e40, e36, show (q : Int) = (n : Int) + 1 + 14 * k + 1 by omega]
        rfl
      obtain ⟨hM, hgm⟩ := zsG_is τ (n := (n : Int) + 1 + 14 * k) (by omega) (N := n + 85) (by omega)
      rw [← e40b] at hM hgm
      have hQ : s40 (q : Int) = zO 4 [zr ((n : Int) + 1 + 14 * k + 1 + 1), zi zX0.2.2] := by rw [show (q : Int) = (n : Int) + 1 + 14 * k + 1 by omega]; exact hM.1
      have hA := (hgm ((n : Int) + 1) (by omega)).trans hA0
      have hB := (hgm (n : Int) (by omega)).trans hB0
      refine x_aastore4 C dX0_init_43 hA hQ (by omega) ?_
      refine x_nm (fun s43 e43 => ?_)
      have hB := (congrFun e43 (n:Int)).trans ((zsu_n _ _ (by omega)).trans hB)
      have hA := (congrFun e43 ((n:Int)+1)).trans (zsu_s _ _ _)
      have hQ := (congrFun e43 (q:Int)).trans ((zsu_n _ _ (by omega)).trans hQ)
      have ih := ih (by omega)
      rw [show ((k + 1 : Nat) : Int) = (k : Int) + 1 by omega] at ih
      rw [show s43 = zhL σ n (k + 1) by rw [e43, zqf_s _ _ (by omega) (by omega), e40b, eL]]
      refine x_iinc C dX0_init_44 rfl (by decide) ?_
      refine x_goto (tgt := 25) C dX0_init_47 (by decide) ?_
      rw [show q + 13 = n + 1 + 14 * (k + 1) by omega, show 6 + 1378 * k + 2 + 1376 = 6 + 1378 * (k + 1) by omega]
      exact ih
  refine x_aload_n C dX0_init_0 rfl ?_
  refine x_objInit C dX0_init_1 loX0_3 (by decide) (Nat.le_of_ble_eq_true rfl) ?_
  refine x_aload_n C dX0_init_4 rfl ?_
  refine x_bipush C dX0_init_5 (by decide) ?_
  refine x_newq4 (L := 6) C dX0_init_7 klX0_9 (by decide) (by omega) ?_
  refine x_nm (fun s7 e7 => ?_)
  have hB := (congrFun e7 (n : Int)).trans ((zsu_n _ _ (by omega)).trans hB)
  refine x_putFA C dX0_init_10 lfX0_11 lyX0_0 rfl (fun _ _ _ q => by cases q; rfl) hB (by omega) (Nat.le_of_ble_eq_true rfl) ?_
  refine x_nm (fun s10 e10 => ?_)
  have hB := (congrFun e10 (n:Int)).trans (zsu_s _ _ _)
  refine x_aload_n C dX0_init_13 rfl ?_
  refine x_iconst C dX0_init_14 ?_
  refine x_putI C dX0_init_15 lfX0_17 lyX0_1 hB (by omega) (Nat.le_of_ble_eq_true rfl) ?_
  refine x_nm (fun s15 e15 => ?_)
  have hB := (congrFun e15 (n:Int)).trans (zsu_s _ _ _)
  refine x_aload_n C dX0_init_18 rfl ?_
  refine x_iconst C dX0_init_19 ?_
  refine x_putI C dX0_init_20 lfX0_21 lyX0_2 hB (by omega) (Nat.le_of_ble_eq_true rfl) ?_
  refine x_nm (fun s20 e20 => ?_)
  have hB := (congrFun e20 (n:Int)).trans (zsu_s _ _ _)
  refine x_iconst C dX0_init_23 ?_
  refine x_istore_n C dX0_init_24 (by decide) ?_
  have l0 := loop 0 (by omega)
  rw [show zhL σ n 0 = s20 by rw [e20, e15, e10, e7, ← zqf_0 ((n : Int) + 2) 14, zsu_u, zsu_u]; rfl] at l0
  exact l0
/-- a slot at its start: its object stands at n -/
def zlF (σ : zS) (n : Int) : zS := zsu (zsG σ n) n (zO 3 [zr (n + 1), zi 0])
theorem ctX3_init (hB : σ n = zO 3 [zn, zi 0]) (hn : 0 < n) : zCt 3 14 1378 yX3_init cX3_init 1 none [zr n] n σ none (n + 14) (zlF σ n) := by
  refine zCt.of (by decide) rfl (Nat.le_of_ble_eq_true rfl) (fun K C => ?_)
  refine x_aload_n C dX3_init_0 rfl ?_
  refine x_objInit C dX3_init_1 loX3_1 (by decide) (Nat.le_of_ble_eq_true rfl) ?_
  refine x_aload_n C dX3_init_4 rfl ?_
  refine x_new (ci := 4) C dX3_init_5 rfl ⟨klX3_7, kiX4.1, kiX4.2, inX4⟩ tyX4 tyX4_ok (fs := [zn, zi 0]) (fun g j hj => match j, hj with | 0, _ => rfl | 1, _ => rfl | _ + 2, h => absurd h (by omega)) (by omega) ?_
  refine x_nm (fun s5 e5 => ?_)
  have hB0 := hB
  rw [show ((n : Nat) : Int) + 1 = ((n + 1 : Nat) : Int) by omega] at e5 ⊢
  have hQ := (congrFun e5 ((n + 1 : Nat) : Int)).trans (zsu_s _ _ _)
  refine x_dup C dX3_init_8 rfl ?_
  refine x_callI C dX3_init_9 (ctX4_init (n := n + 1) hQ (by omega)) okX4_init lkX3_9 ⟨by decide, rfl, rfl, Nat.le_of_ble_eq_true rfl⟩ rfl (Or.inr (by omega)) ?_
  refine x_nm (fun s9 e9 => ?_)
  have e9b : s9 = zsG σ (n : Int) := by
    rw [e9, e5, show ((n + 1 : Nat) : Int) = (n : Int) + 1 by omega]
    rfl
  obtain ⟨hM, hgm⟩ := zsG_is σ (n := (n : Int)) (by omega) (N := n + 14) (by omega)
  rw [← e9b] at hM hgm
  have hQ := hM.1
  have hB := (hgm (n : Int) (by omega)).trans hB0
  refine x_putFO C dX3_init_12 lfX3_10 lyX3_0 rfl (fun _ _ _ q => by cases q; rfl) hB (by omega) (Nat.le_of_ble_eq_true rfl) ?_
  refine x_nm (fun s12 e12 => ?_)
  have hB := (congrFun e12 (n:Int)).trans (zsu_s _ _ _)
  have hQ := (congrFun e12 ((n+1:Nat):Int)).trans ((zsu_n _ _ (by omega)).trans hQ)
  refine x_aload_n C dX3_init_15 rfl ?_
  refine x_iconst C dX3_init_16 ?_
  refine x_putZ C dX3_init_17 lfX3_16 lyX3_1 (by first | decide | omega) hB (by omega) (Nat.le_of_ble_eq_true rfl) ?_
  refine x_nm (fun s17 e17 => ?_)
  have hB := (congrFun e17 (n:Int)).trans (zsu_s _ _ _)
  have hQ := (congrFun e17 ((n+1:Nat):Int)).trans ((zsu_n _ _ (by omega)).trans hQ)
  exact x_vret (st := []) C dX3_init_20 rfl ⟨rfl, rfl, by rw [e17, e12, e9b, zsu_u]; rfl, rfl⟩
end
