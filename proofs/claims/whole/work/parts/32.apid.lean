theorem zsmB {g : Int → Int} {M : Int} (hM : 0 ≤ M) (hg : ∀ j, -M ≤ g j ∧ g j ≤ M) : ∀ k : Nat, -(k * M) ≤ zsm g k ∧ zsm g k ≤ k * M
  | 0 => ⟨by show -((0 : Nat) * M : Int) ≤ 0; omega, by show (0 : Int) ≤ ((0 : Nat) : Int) * M; omega⟩
  | k + 1 => by
    have ih := zsmB hM hg k
    have h1 := hg k
    have h2 : ((k + 1 : Nat) : Int) * M = k * M + M := by rw [Int.natCast_add, Int.add_mul]; omega
    rw [h2]
    show -(k * M + M) ≤ zsm g k + g k ∧ zsm g k + g k ≤ k * M + M
    omega
theorem zsmN {g : Int → Int} {M : Int} (hg : ∀ j, 0 ≤ g j ∧ g j ≤ M) : ∀ k : Nat, 0 ≤ zsm g k ∧ zsm g k ≤ k * M
  | 0 => ⟨Int.le_refl 0, by show (0 : Int) ≤ ((0 : Nat) : Int) * M; omega⟩
  | k + 1 => by
    have ih := zsmN hg k
    have h1 := hg k
    have h2 : ((k + 1 : Nat) : Int) * M = k * M + M := by rw [Int.natCast_add, Int.add_mul]; omega
    rw [h2]
    show 0 ≤ zsm g k + g k ∧ zsm g k + g k ≤ k * M + M
    omega
theorem zroom_in (t : Int → Int) : ∀ (f : Nat), f ≤ 3 → ∀ row col : Int, 0 ≤ zroom t f row col ∧ zroom t f row col ≤ zmx f
  | 0, _, row, col => zrm_in _ _ (by decide)
  | f + 1, hf, row, col => by
    have hz := zsz_v (d := 2 - f) (by omega)
    have hp := zmx_pos f
    have e1 : zmx (f + 1) = 1 + 4 * zmx f + 256 := rfl
    rw [e1]
    unfold zroom
    by_cases h : t (zno (2 - f) row col) = 3
    · rw [if_pos h]
      have key := zsmN (g := fun p => zroom t f (row + p / 2 * zsz (3 - f)) (col + p % 2 * zsz (3 - f))) (M := zmx f) (fun p => zroom_in t f (by omega) _ _) 4
      omega
    · rw [if_neg h]
      have := zrm_in (t (zno (2 - f) row col)) (zsz (2 - f)) (by omega)
      omega
/-- the bits of z / 256, as the class puts them together -/
def zbv (z P Bi v : Int) : Prop := (z = 0 ∧ v = 0) ∨ (z ≠ 0 ∧ ∃ b : Nat, (2 ^ b ≤ max z (-z) ∧ max z (-z) < 2 ^ (b + 1)) ∧ v = if 0 ≤ z then zbits z b P Bi else zorl (zbits z b P Bi) (-9223372036854775808))
theorem z2b {b c : Nat} {x : Int} (h : 2 ^ b ≤ x) (hx : x < 2 ^ c) : b < c := by
  rcases Nat.lt_or_ge b c with q | q
  · exact q
  · have h1 : (2 : Int) ^ c ≤ 2 ^ b := z2p q
    omega
section
variable {n : Nat} {σ : zS} {X : zSV} {o l : Int} {Hs : Int → zSV} {Sl : Int → zSV × Bool} {f : Int → Int} {L : Int}
theorem ctX5_bits {z P Bi v : Int} {c : Nat} (hz : -1000000000 ≤ z ∧ z ≤ 1000000000) (hc : max z (-z) < 2 ^ c) (hP : c ≤ P + 1 ∧ P ≤ 52) (hB : 0 ≤ Bi ∧ Bi ≤ 2000) (hv : zbv z P Bi v) : zCt 2 0 0 yX5_bitsOfPart cX5_bitsOfPart 12 (some .long) [zi z, zi P, zi Bi] n σ (some (zl v)) n σ := by
  rcases hv with ⟨rfl, rfl⟩ | ⟨h0, b, hb, rfl⟩
  · exact ctX5_bitsOfPart0 P Bi
  · have h1 := z2b hb.1 hc
    exact ctX5_bitsOfPart hz h0 (by omega) hb (by omega) hB
theorem ctX5_meanE (m : Int) (hm : -2147483648 ≤ m ∧ m < 2147483648) (hE : ¬ (0 ≤ m ∧ m < 4)) : zCt 3 0 0 yX5_mean cX5_mean 2 (some .long) [zr 1, zi m] n σ (some (zl 0)) n σ := by
  refine zCt.of (by decide) rfl (Nat.le_of_ble_eq_true rfl) (fun K C => ?_)
  refine x_iload_n C dX5_mean_0 rfl ?_
  refine x_callS C dX5_mean_1 (ctX5_isMatrix _ (by omega)) okX5_isMatrix lkX5_48 ⟨by decide, rfl, rfl, Nat.le_of_ble_eq_true rfl⟩ rfl (Or.inl ⟨rfl, rfl⟩) ?_
  refine x_ifne_d (tgt := 9) C dX5_mean_4 (by decide) (fun c4 => ?_) (fun c4 => ?_)
  · exact absurd c4 hE
  · refine x_lconst C dX5_mean_7 ?_
    exact x_lret (st := []) C dX5_mean_8 rfl ⟨congrArg (fun z => some (zl z)) (by first | rfl | omega), rfl, rfl, rfl⟩
theorem ctX5_mean (R : RepC σ n X o l Hs Sl f L) (m : Int) (hm : 0 ≤ m ∧ m < 4) {v : Int} (hv : zbv (zsm (X.1 m) 256) 52 1023 v) : zCt 3 0 0 yX5_mean cX5_mean 2 (some .long) [zr 1, zi m] n σ (some (zl v)) n σ := by
  obtain ⟨hB, ⟨hS, hok⟩, ⟨hH, -⟩, -⟩ := R
  obtain ⟨hN0, hN1, hin, hmat⟩ := id hS
  have hmm := hmat m hm.1 hm.2
  have hA := hmm.1
  have hB0 := hB.1
  have hn := hB.2
  have hbd := zsmB (M := 1000000) (by decide) (hok.1 m) 256
  have h28 : (2 : Int) ^ 28 = 268435456 := by decide
  refine zCt.of (by decide) rfl (Nat.le_of_ble_eq_true rfl) (fun K C => ?_)
  refine x_iload_n C dX5_mean_0 rfl ?_
  refine x_callS C dX5_mean_1 (ctX5_isMatrix _ (by omega)) okX5_isMatrix lkX5_48 ⟨by decide, rfl, rfl, Nat.le_of_ble_eq_true rfl⟩ rfl (Or.inl ⟨rfl, rfl⟩) ?_
  refine x_ifne_d (tgt := 9) C dX5_mean_4 (by decide) (fun c4 => ?_) (fun c4 => ?_)
  · refine x_aload_n C dX5_mean_9 rfl ?_
    refine x_getfield C dX5_mean_10 lfX5_12 hB0 (by omega) rfl ?_
    refine x_getfieldN C dX5_mean_13 nfX5_59 hN0 (by omega) rfl ?_
    refine x_iload_n C dX5_mean_16 rfl ?_
    refine x_aaload3 C dX5_mean_17 hN1 (by omega) rfl ?_
    refine x_callV C dX5_mean_18 (ctX1_sum hmm) okX1_sum lkX5_149 ⟨⟨hA, rfl, rfl⟩, (by omega)⟩ ⟨by decide, rfl, rfl, Nat.le_of_ble_eq_true rfl⟩ rfl (Or.inl ⟨rfl, rfl⟩) ?_
    refine x_bipush C dX5_mean_21 (by decide) ?_
    refine x_sipush C dX5_mean_23 (by decide) ?_
    refine x_callS C dX5_mean_26 (ctX5_bits (c := 28) (by omega) (by rw [h28]; omega) (by decide) (by decide) hv) okX5_bitsOfPart lkX5_152 ⟨by decide, rfl, rfl, Nat.le_of_ble_eq_true rfl⟩ rfl (Or.inl ⟨rfl, rfl⟩) ?_
    exact x_lret (st := []) C dX5_mean_29 rfl ⟨congrArg (fun z => some (zl z)) (by first | rfl | omega), rfl, rfl, rfl⟩
  · exact absurd hm c4
theorem ctX5_shareE (m : Int) (hm : -2147483648 ≤ m ∧ m < 2147483648) (hE : ¬ (0 ≤ m ∧ m < 4)) : zCt 9 0 0 yX5_share cX5_share 2 (some .int) [zr 1, zi m] n σ (some (zi (-1))) n σ := by
  refine zCt.of (by decide) rfl (Nat.le_of_ble_eq_true rfl) (fun K C => ?_)
  refine x_iload_n C dX5_share_0 rfl ?_
  refine x_callS C dX5_share_1 (ctX5_isMatrix _ (by omega)) okX5_isMatrix lkX5_48 ⟨by decide, rfl, rfl, Nat.le_of_ble_eq_true rfl⟩ rfl (Or.inl ⟨rfl, rfl⟩) ?_
  refine x_ifne_d (tgt := 9) C dX5_share_4 (by decide) (fun c4 => ?_) (fun c4 => ?_)
  · exact absurd c4 hE
  · refine x_iconst C dX5_share_7 ?_
    exact x_iret (st := []) C dX5_share_8 rfl ⟨congrArg (fun z => some (zi z)) (by first | rfl | omega), rfl, rfl, rfl⟩
theorem ctX5_share (R : RepC σ n X o l Hs Sl f L) (m : Int) (hm : 0 ≤ m ∧ m < 4) {v : Int} (hv : zbv (zroom (X.2.1 m) 3 0 0) 23 127 v) : zCt 9 0 0 yX5_share cX5_share 2 (some .int) [zr 1, zi m] n σ (some (zi v)) n σ := by
  obtain ⟨hB, ⟨hS, hok⟩, ⟨hH, -⟩, -⟩ := R
  obtain ⟨hN0, hN1, hin, hmat⟩ := id hS
  have hmm := hmat m hm.1 hm.2
  have hA := hmm.1
  have hB0 := hB.1
  have hn := hB.2
  have hbd := zroom_in (X.2.1 m) 3 (by decide) 0 0
  have hmx : zmx 3 ≤ 100000 := by decide
  have h24 : (2 : Int) ^ 24 = 16777216 := by decide
  refine zCt.of (by decide) rfl (Nat.le_of_ble_eq_true rfl) (fun K C => ?_)
  refine x_iload_n C dX5_share_0 rfl ?_
  refine x_callS C dX5_share_1 (ctX5_isMatrix _ (by omega)) okX5_isMatrix lkX5_48 ⟨by decide, rfl, rfl, Nat.le_of_ble_eq_true rfl⟩ rfl (Or.inl ⟨rfl, rfl⟩) ?_
  refine x_ifne_d (tgt := 9) C dX5_share_4 (by decide) (fun c4 => ?_) (fun c4 => ?_)
  · refine x_aload_n C dX5_share_9 rfl ?_
    refine x_getfield C dX5_share_10 lfX5_12 hB0 (by omega) rfl ?_
    refine x_getfieldN C dX5_share_13 nfX5_59 hN0 (by omega) rfl ?_
    refine x_iload_n C dX5_share_16 rfl ?_
    refine x_aaload3 C dX5_share_17 hN1 (by omega) rfl ?_
    refine x_callV C dX5_share_18 (ctX1_room hmm (hok.2 m)) okX1_room lkX5_74 ⟨⟨hA, rfl, rfl⟩, (by omega)⟩ ⟨by decide, rfl, rfl, Nat.le_of_ble_eq_true rfl⟩ rfl (Or.inl ⟨rfl, rfl⟩) ?_
    refine x_bipush C dX5_share_21 (by decide) ?_
    refine x_bipush C dX5_share_23 (by decide) ?_
    refine x_callS C dX5_share_25 (ctX5_bits (c := 24) (by omega) (by rw [h24]; omega) (by decide) (by decide) hv) okX5_bitsOfPart lkX5_152 ⟨by decide, rfl, rfl, Nat.le_of_ble_eq_true rfl⟩ rfl (Or.inl ⟨rfl, rfl⟩) ?_
    refine x_l2i C dX5_share_28 ?_
    exact x_iret (st := []) C dX5_share_29 rfl ⟨congrArg (fun z => some (zi z)) (by first | rfl | omega), rfl, rfl, rfl⟩
  · exact absurd hm c4
theorem ctX5_bestTimesE (m q w : Int) (hm : -2147483648 ≤ m ∧ m < 2147483648) (hq : -2147483648 ≤ q ∧ q < 2147483648) (hw : -2147483648 ≤ w ∧ w < 2147483648) {r : Int} (hE : (r = -1 ∧ ¬ ((0 ≤ m ∧ m < 4) ∧ (0 ≤ q ∧ q < 4))) ∨ (r = -2 ∧ (0 ≤ m ∧ m < 4) ∧ (0 ≤ q ∧ q < 4) ∧ (¬ (w = 0 ∨ w = 1) ∨ m = q))) : zCt 3 0 0 yX5_bestTimes cX5_bestTimes 6 (some .int) [zr 1, zi m, zi q, zi w] n σ (some (zi r)) n σ := by
  refine zCt.of (by decide) rfl (Nat.le_of_ble_eq_true rfl) (fun K C => ?_)
  refine x_iload_n C dX5_bestTimes_0 rfl ?_
  refine x_callS C dX5_bestTimes_1 (ctX5_isMatrix _ (by omega)) okX5_isMatrix lkX5_48 ⟨by decide, rfl, rfl, Nat.le_of_ble_eq_true rfl⟩ rfl (Or.inl ⟨rfl, rfl⟩) ?_
  refine x_ifeq_d (tgt := 14) C dX5_bestTimes_4 (by decide) (fun c4 => ?_) (fun c4 => ?_)
  · refine x_iconst C dX5_bestTimes_14 ?_
    exact x_iret (st := []) C dX5_bestTimes_15 rfl ⟨congrArg (fun z => some (zi z)) (by first | rfl | omega), rfl, rfl, rfl⟩
  · refine x_iload_n C dX5_bestTimes_7 rfl ?_
    refine x_callS C dX5_bestTimes_8 (ctX5_isMatrix _ (by omega)) okX5_isMatrix lkX5_48 ⟨by decide, rfl, rfl, Nat.le_of_ble_eq_true rfl⟩ rfl (Or.inl ⟨rfl, rfl⟩) ?_
    refine x_ifne_d (tgt := 16) C dX5_bestTimes_11 (by decide) (fun c11 => ?_) (fun c11 => ?_)
    · refine x_iload_n C dX5_bestTimes_16 rfl ?_
      refine x_if_eq (tgt := 25) C dX5_bestTimes_17 (by decide) (by omega) (fun c17 => ?_) (fun c17 => ?_)
      · refine x_iload_n C dX5_bestTimes_25 rfl ?_
        refine x_iload_n C dX5_bestTimes_26 rfl ?_
        refine x_icmp_ne (tgt := 33) C dX5_bestTimes_27 (by decide) (by omega) (fun c27 => ?_) (fun c27 => ?_)
        · exact absurd c27 (by omega)
        · refine x_bipush C dX5_bestTimes_30 (by decide) ?_
          exact x_iret (st := []) C dX5_bestTimes_32 rfl ⟨congrArg (fun z => some (zi z)) (by first | rfl | omega), rfl, rfl, rfl⟩
      · refine x_iload_n C dX5_bestTimes_20 rfl ?_
        refine x_iconst C dX5_bestTimes_21 ?_
        refine x_icmp_ne (tgt := 30) C dX5_bestTimes_22 (by decide) (by omega) (fun c22 => ?_) (fun c22 => ?_)
        · refine x_bipush C dX5_bestTimes_30 (by decide) ?_
          exact x_iret (st := []) C dX5_bestTimes_32 rfl ⟨congrArg (fun z => some (zi z)) (by first | rfl | omega), rfl, rfl, rfl⟩
        · refine x_iload_n C dX5_bestTimes_25 rfl ?_
          refine x_iload_n C dX5_bestTimes_26 rfl ?_
          refine x_icmp_ne (tgt := 33) C dX5_bestTimes_27 (by decide) (by omega) (fun c27 => ?_) (fun c27 => ?_)
          · exact absurd c27 (by omega)
          · refine x_bipush C dX5_bestTimes_30 (by decide) ?_
            exact x_iret (st := []) C dX5_bestTimes_32 rfl ⟨congrArg (fun z => some (zi z)) (by first | rfl | omega), rfl, rfl, rfl⟩
    · refine x_iconst C dX5_bestTimes_14 ?_
      exact x_iret (st := []) C dX5_bestTimes_15 rfl ⟨congrArg (fun z => some (zi z)) (by first | rfl | omega), rfl, rfl, rfl⟩
def zbst (g : Int → Int) : Nat → Int := zfo (fun best k => if k - 99 ≠ 0 ∧ g best < g (k - 99) then k - 99 else best) (-99)
theorem zbst_in (g : Int → Int) : ∀ k : Nat, k ≤ 199 → -99 ≤ zbst g k ∧ zbst g k ≤ 99
  | 0, _ => ⟨Int.le_refl _, by show (-99 : Int) ≤ 99; decide⟩
  | k + 1, hk => by
    have ih := zbst_in g k (by omega)
    show -99 ≤ (if (k : Int) - 99 ≠ 0 ∧ g (zbst g k) < g ((k : Int) - 99) then (k : Int) - 99 else zbst g k) ∧ (if (k : Int) - 99 ≠ 0 ∧ g (zbst g k) < g ((k : Int) - 99) then (k : Int) - 99 else zbst g k) ≤ 99
    split <;> omega
theorem ctX5_bestTimes (R : RepC σ n X o l Hs Sl f L) {z : Int → Int} (hz : σ 114 = zA 199 z) (m q w : Int) (hm : 0 ≤ m ∧ m < 4) (hq : 0 ≤ q ∧ q < 4) (hw : w = 0 ∨ w = 1) (hne : m ≠ q) : zCt 3 0 0 yX5_bestTimes cX5_bestTimes 6 (some .int) [zr 1, zi m, zi q, zi w] n σ (some (zi (if w = 0 then zbst (fun x => zzr (X.1 m) (X.1 q) x 256) 199 + 99 + 1 else zzr (X.1 m) (X.1 q) (zbst (fun x => zzr (X.1 m) (X.1 q) x 256) 199) 256))) n (zsu σ 114 (zA 199 (fun k => if 0 ≤ k ∧ k < 199 then zzr (X.1 m) (X.1 q) (k - 99) 256 else z k))) := by
  obtain ⟨hB, ⟨hS, hok⟩, ⟨hH, -⟩, -⟩ := R
  obtain ⟨hN0, hN1, hin, hmat⟩ := id hS
  have hmm := hmat m hm.1 hm.2
  have hA := hmm.1
  have hqq := hmat q hq.1 hq.2
  have hA2 := hqq.1
  have hB0 := hB.1
  have hn := hB.2
  have hzin : ∀ x, 0 ≤ zzr (X.1 m) (X.1 q) x 256 ∧ zzr (X.1 m) (X.1 q) x 256 ≤ 256 := fun x => zz_in _ (fun j => z01 _) 256
  have hat : ∀ x : Int, -99 ≤ x → x ≤ 99 → (if 0 ≤ x + 99 ∧ x + 99 < 199 then zzr (X.1 m) (X.1 q) (x + 99 - 99) 256 else z (x + 99)) = zzr (X.1 m) (X.1 q) x 256 := fun x h1 h2 => by
    rw [if_pos (by omega), show x + 99 - 99 = x by omega]
  refine zCt.of (by decide) rfl (Nat.le_of_ble_eq_true rfl) (fun K C => ?_)
  have loop : ∀ k : Nat, k ≤ 199 → K 63 [some (zr 1), some (zi m), some (zi q), some (zi w), some (zi (zbst (fun x => zzr (X.1 m) (X.1 q) x 256) k)), some (zi ((k : Int) - 99))] [] n (zsu σ 114 (zA 199 (fun k => if 0 ≤ k ∧ k < 199 then zzr (X.1 m) (X.1 q) (k - 99) 256 else z k))) 0 := by
    refine zloop _ 199 (fun k hk ih => ?_)
    have hZ := zsu_s σ 114 (zA 199 (fun k => if 0 ≤ k ∧ k < 199 then zzr (X.1 m) (X.1 q) (k - 99) 256 else z k))
    have hB0 := (zsu_n σ (zA 199 (fun k => if 0 ≤ k ∧ k < 199 then zzr (X.1 m) (X.1 q) (k - 99) 256 else z k)) (show (1 : Int) ≠ 114 by decide)).trans hB0
    have hbin := zbst_in (fun x => zzr (X.1 m) (X.1 q) x 256) k hk
    have h1 := hat (zbst (fun x => zzr (X.1 m) (X.1 q) x 256) k) hbin.1 hbin.2
    have h4 := hzin (zbst (fun x => zzr (X.1 m) (X.1 q) x 256) k)
    have h5 := hzin ((k : Int) - 99)
    refine x_iload C dX5_bestTimes_63 rfl ?_
    refine x_bipush C dX5_bestTimes_65 (by decide) ?_
    refine x_icmp_gt (tgt := 108) C dX5_bestTimes_67 (by decide) (by omega) (fun c67 => ?_) (fun c67 => ?_)
    · refine x_iload_n C dX5_bestTimes_108 rfl ?_
      refine x_if_ne (tgt := 122) C dX5_bestTimes_109 (by decide) (by omega) (fun c109 => ?_) (fun c109 => ?_)
      · refine x_aload_n C dX5_bestTimes_122 rfl ?_
        refine x_getfield C dX5_bestTimes_123 lfX5_43 hB0 (by omega) rfl ?_
        refine x_iload C dX5_bestTimes_126 rfl ?_
        refine x_bipush C dX5_bestTimes_128 (by decide) ?_
        refine x_iadd C dX5_bestTimes_130 ?_
        refine x_iaload C dX5_bestTimes_131 hZ (by omega) ?_
        try dsimp only
        try rw [h1]
        have e199 : k = 199 := by omega
        exact x_iret (st := []) C dX5_bestTimes_132 rfl ⟨congrArg (fun z => some (zi z)) (by rw [e199]; generalize zbst (fun x => zzr (X.1 m) (X.1 q) x 256) 199 = b9; first | rw [if_pos c109] | rw [if_neg c109]), rfl, rfl, rfl⟩
      · refine x_iload C dX5_bestTimes_112 rfl ?_
        refine x_bipush C dX5_bestTimes_114 (by decide) ?_
        refine x_iadd C dX5_bestTimes_116 ?_
        refine x_iconst C dX5_bestTimes_117 ?_
        refine x_iadd C dX5_bestTimes_118 ?_
        refine x_goto (tgt := 132) C dX5_bestTimes_119 (by decide) ?_
        try dsimp only
        try rw [h1]
        have e199 : k = 199 := by omega
        exact x_iret (st := []) C dX5_bestTimes_132 rfl ⟨congrArg (fun z => some (zi z)) (by rw [e199]; generalize zbst (fun x => zzr (X.1 m) (X.1 q) x 256) 199 = b9; first | rw [if_pos c109] | rw [if_neg c109]), rfl, rfl, rfl⟩
    · refine x_iload C dX5_bestTimes_70 rfl ?_
      refine x_if_eq (tgt := 102) C dX5_bestTimes_72 (by decide) (by omega) (fun c72 => ?_) (fun c72 => ?_)
      · have e9 : zbst (fun x => zzr (X.1 m) (X.1 q) x 256) (k + 1) = zbst (fun x => zzr (X.1 m) (X.1 q) x 256) k := if_neg (fun z => z.1 c72)
        have ih := ih (by omega)
        rw [e9, show ((k + 1 : Nat) : Int) - 99 = (k : Int) - 99 + 1 by omega] at ih
        refine x_iinc C dX5_bestTimes_102 rfl (by decide) ?_
        refine x_goto (tgt := 63) C dX5_bestTimes_105 (by decide) ?_
        exact ih
      · refine x_aload_n C dX5_bestTimes_75 rfl ?_
        refine x_getfield C dX5_bestTimes_76 lfX5_43 hB0 (by omega) rfl ?_
        refine x_iload C dX5_bestTimes_79 rfl ?_
        refine x_bipush C dX5_bestTimes_81 (by decide) ?_
        refine x_iadd C dX5_bestTimes_83 ?_
        refine x_iaload C dX5_bestTimes_84 hZ (by omega) ?_
        refine x_aload_n C dX5_bestTimes_85 rfl ?_
        refine x_getfield C dX5_bestTimes_86 lfX5_43 hB0 (by omega) rfl ?_
        refine x_iload C dX5_bestTimes_89 rfl ?_
        refine x_bipush C dX5_bestTimes_91 (by decide) ?_
        refine x_iadd C dX5_bestTimes_93 ?_
        refine x_iaload C dX5_bestTimes_94 hZ (by omega) ?_
        try dsimp only
        rw [h1, hat ((k : Int) - 99) (by omega) (by omega)]
        refine x_icmp_le (tgt := 102) C dX5_bestTimes_95 (by decide) (by omega) (fun c95 => ?_) (fun c95 => ?_)
        · have e9 : zbst (fun x => zzr (X.1 m) (X.1 q) x 256) (k + 1) = zbst (fun x => zzr (X.1 m) (X.1 q) x 256) k := if_neg (fun z => absurd z.2 (Int.not_lt.mpr c95))
          have ih := ih (by omega)
          rw [e9, show ((k + 1 : Nat) : Int) - 99 = (k : Int) - 99 + 1 by omega] at ih
          refine x_iinc C dX5_bestTimes_102 rfl (by decide) ?_
          refine x_goto (tgt := 63) C dX5_bestTimes_105 (by decide) ?_
          exact ih
        · have e9 : zbst (fun x => zzr (X.1 m) (X.1 q) x 256) (k + 1) = (k : Int) - 99 := if_pos ⟨c72, c95⟩
          refine x_iload C dX5_bestTimes_98 rfl ?_
          refine x_istore C dX5_bestTimes_100 (by decide) ?_
          have ih := ih (by omega)
          rw [e9, show ((k + 1 : Nat) : Int) - 99 = (k : Int) - 99 + 1 by omega] at ih
          refine x_iinc C dX5_bestTimes_102 rfl (by decide) ?_
          refine x_goto (tgt := 63) C dX5_bestTimes_105 (by decide) ?_
          exact ih
  have hZ := hz
  refine x_iload_n C dX5_bestTimes_0 rfl ?_
  refine x_callS C dX5_bestTimes_1 (ctX5_isMatrix _ (by omega)) okX5_isMatrix lkX5_48 ⟨by decide, rfl, rfl, Nat.le_of_ble_eq_true rfl⟩ rfl (Or.inl ⟨rfl, rfl⟩) ?_
  refine x_ifeq_d (tgt := 14) C dX5_bestTimes_4 (by decide) (fun c4 => ?_) (fun c4 => ?_)
  · exact absurd hm c4
  · refine x_iload_n C dX5_bestTimes_7 rfl ?_
    refine x_callS C dX5_bestTimes_8 (ctX5_isMatrix _ (by omega)) okX5_isMatrix lkX5_48 ⟨by decide, rfl, rfl, Nat.le_of_ble_eq_true rfl⟩ rfl (Or.inl ⟨rfl, rfl⟩) ?_
    refine x_ifne_d (tgt := 16) C dX5_bestTimes_11 (by decide) (fun c11 => ?_) (fun c11 => ?_)
    · refine x_iload_n C dX5_bestTimes_16 rfl ?_
      refine x_if_eq (tgt := 25) C dX5_bestTimes_17 (by decide) (by omega) (fun c17 => ?_) (fun c17 => ?_)
      · refine x_iload_n C dX5_bestTimes_25 rfl ?_
        refine x_iload_n C dX5_bestTimes_26 rfl ?_
        refine x_icmp_ne (tgt := 33) C dX5_bestTimes_27 (by decide) (by omega) (fun c27 => ?_) (fun c27 => ?_)
        · refine x_aload_n C dX5_bestTimes_33 rfl ?_
          refine x_aload_n C dX5_bestTimes_34 rfl ?_
          refine x_getfield C dX5_bestTimes_35 lfX5_12 hB0 (by omega) rfl ?_
          refine x_getfieldN C dX5_bestTimes_38 nfX5_59 hN0 (by omega) rfl ?_
          refine x_iload_n C dX5_bestTimes_41 rfl ?_
          refine x_aaload3 C dX5_bestTimes_42 hN1 (by omega) rfl ?_
          refine x_aload_n C dX5_bestTimes_43 rfl ?_
          refine x_getfield C dX5_bestTimes_44 lfX5_12 hB0 (by omega) rfl ?_
          refine x_getfieldN C dX5_bestTimes_47 nfX5_59 hN0 (by omega) rfl ?_
          refine x_iload_n C dX5_bestTimes_50 rfl ?_
          refine x_aaload3 C dX5_bestTimes_51 hN1 (by omega) rfl ?_
          refine x_callV C dX5_bestTimes_52 (ctX5_countZeros hB hz hmm hqq (hok.1 m) (hok.1 q) (by omega)) okX5_countZeros lkX5_174 ⟨⟨hB0, rfl, rfl⟩, (by omega)⟩ ⟨by decide, rfl, rfl, Nat.le_of_ble_eq_true rfl⟩ rfl (Or.inl ⟨rfl, rfl⟩) ?_
          refine x_bipush C dX5_bestTimes_55 (by decide) ?_
          refine x_istore C dX5_bestTimes_57 (by decide) ?_
          refine x_bipush C dX5_bestTimes_59 (by decide) ?_
          refine x_istore C dX5_bestTimes_61 (by decide) ?_
          exact loop 0 (by omega)
        · exact absurd c27 hne
      · refine x_iload_n C dX5_bestTimes_20 rfl ?_
        refine x_iconst C dX5_bestTimes_21 ?_
        refine x_icmp_ne (tgt := 30) C dX5_bestTimes_22 (by decide) (by omega) (fun c22 => ?_) (fun c22 => ?_)
        · exact absurd hw (by omega)
        · refine x_iload_n C dX5_bestTimes_25 rfl ?_
          refine x_iload_n C dX5_bestTimes_26 rfl ?_
          refine x_icmp_ne (tgt := 33) C dX5_bestTimes_27 (by decide) (by omega) (fun c27 => ?_) (fun c27 => ?_)
          · refine x_aload_n C dX5_bestTimes_33 rfl ?_
            refine x_aload_n C dX5_bestTimes_34 rfl ?_
            refine x_getfield C dX5_bestTimes_35 lfX5_12 hB0 (by omega) rfl ?_
            refine x_getfieldN C dX5_bestTimes_38 nfX5_59 hN0 (by omega) rfl ?_
            refine x_iload_n C dX5_bestTimes_41 rfl ?_
            refine x_aaload3 C dX5_bestTimes_42 hN1 (by omega) rfl ?_
            refine x_aload_n C dX5_bestTimes_43 rfl ?_
            refine x_getfield C dX5_bestTimes_44 lfX5_12 hB0 (by omega) rfl ?_
            refine x_getfieldN C dX5_bestTimes_47 nfX5_59 hN0 (by omega) rfl ?_
            refine x_iload_n C dX5_bestTimes_50 rfl ?_
            refine x_aaload3 C dX5_bestTimes_51 hN1 (by omega) rfl ?_
            refine x_callV C dX5_bestTimes_52 (ctX5_countZeros hB hz hmm hqq (hok.1 m) (hok.1 q) (by omega)) okX5_countZeros lkX5_174 ⟨⟨hB0, rfl, rfl⟩, (by omega)⟩ ⟨by decide, rfl, rfl, Nat.le_of_ble_eq_true rfl⟩ rfl (Or.inl ⟨rfl, rfl⟩) ?_
            refine x_bipush C dX5_bestTimes_55 (by decide) ?_
            refine x_istore C dX5_bestTimes_57 (by decide) ?_
            refine x_bipush C dX5_bestTimes_59 (by decide) ?_
            refine x_istore C dX5_bestTimes_61 (by decide) ?_
            exact loop 0 (by omega)
          · exact absurd c27 hne
    · exact absurd hq c11
end
