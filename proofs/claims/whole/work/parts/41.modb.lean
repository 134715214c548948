theorem zp2N {d : Int} (h : 0 ≤ d ∧ d ≤ 3) : ∃ q : Nat, zp2 d = q ∧ 1 ≤ q ∧ q ≤ 8 := ⟨(zp2 d).toNat, by have := zp2_v h; omega, by have := zp2_v h; omega, by have := zp2_v h; omega⟩
theorem zdm {N k : Nat} (h : k < N * N) : (0 ≤ (k : Int) / N ∧ (k : Int) / N < N) ∧ 0 ≤ (k : Int) % N ∧ (k : Int) % N < N := by
  have hN : 0 < N := by
    rcases Nat.eq_zero_or_pos N with q | q
    · subst q
      omega
    · exact q
  refine ⟨⟨Int.ediv_nonneg (by omega) (by omega), ?_⟩, Int.emod_nonneg _ (by omega), Int.emod_lt_of_pos _ (by omega)⟩
  have := Nat.div_lt_of_lt_mul h
  rw [← Int.natCast_ediv]
  omega
theorem zrq {r P a N : Int} (hr : 0 ≤ r ∧ r < P) (ha : 0 ≤ a ∧ a < N) : 0 ≤ r * N + a ∧ r * N + a < P * N := by
  have h1 : 0 ≤ r * N := Int.mul_nonneg hr.1 (by omega)
  have h2 : r * N ≤ (P - 1) * N := Int.mul_le_mul_of_nonneg_right (by omega) (by omega)
  rw [Int.sub_mul] at h2
  omega
theorem zp2_m {d j : Int} (hd : 0 ≤ d) (hj : 0 ≤ j) (h : d + j ≤ 3) : zp2 d * zp2 j = zp2 (d + j) := by
  have h3 : d = 0 ∨ d = 1 ∨ d = 2 ∨ d = 3 := by omega
  have h4 : j = 0 ∨ j = 1 ∨ j = 2 ∨ j = 3 := by omega
  rcases h3 with rfl | rfl | rfl | rfl <;> rcases h4 with rfl | rfl | rfl | rfl <;> first | rfl | omega
theorem zp2_d {d j : Int} (hj : 0 ≤ j ∧ j ≤ d) (hd : d ≤ 3) {r : Int} (hr : 0 ≤ r ∧ r < zp2 d) : 0 ≤ r / zp2 j ∧ r / zp2 j < zp2 (d - j) := by
  have h3 : d = 0 ∨ d = 1 ∨ d = 2 ∨ d = 3 := by omega
  have h4 : j = 0 ∨ j = 1 ∨ j = 2 ∨ j = 3 := by omega
  rcases h3 with rfl | rfl | rfl | rfl <;> rcases h4 with rfl | rfl | rfl | rfl <;> first | omega | (simp [zp2] at hr ⊢; try omega)
/-- all that have a block are cut -/
def zvk (t : Int → Int) (d r c : Int) : Nat → Bool
  | 0 => true
  | k + 1 => zvk t d r c k && decide (t (zmn k (r / zp2 (d - k)) (c / zp2 (d - k))) = 3)
def zvis (t : Int → Int) (d r c : Int) : Bool := zvk t d r c d.toNat
theorem zI_b (x : Int) (h : -2147483648 ≤ x ∧ x < 2147483648) : (zI x).toInt = x := by
  unfold zI
  rw [Int32.toInt_ofInt_of_le (by omega) (by omega)]
theorem zor_in (a b : Int) : -2147483648 ≤ zor a b ∧ zor a b < 2147483648 := by
  unfold zor
  have h1 := Int32.le_toInt (zI a ||| zI b)
  have h2 := Int32.toInt_lt (zI a ||| zI b)
  omega
theorem zor_0 {a : Int} (h : -2147483648 ≤ a ∧ a < 2147483648) : zor a 0 = a := by
  unfold zor
  rw [show zI 0 = 0 from rfl, Int32.or_zero, zI_b a h]
theorem zempt_in (T : Int → Int → Int) : ∀ k, -2147483648 ≤ zempt T k ∧ zempt T k < 2147483648
  | 0 => (by decide : -2147483648 ≤ (0 : Int) ∧ (0 : Int) < 2147483648)
  | k + 1 => by
    have ih := zempt_in T k
    rw [show zempt T (k + 1) = if T k 0 = 0 then zor (zempt T k) (1 * 2 ^ (k : Int).toNat) else zempt T k from rfl]
    split
    · exact zor_in _ _
    · exact ih
def isSo (S : Int → Int) : Prop := ∀ m k, 0 ≤ m → m < 4 → 0 ≤ k → k < 85 → 0 ≤ zsT S m k ∧ zsT S m k ≤ 3
def isEn (S : Int → Int) : Prop := ∀ m j, 0 ≤ m → m < 4 → 0 ≤ j → j < 256 → -1000000 ≤ zsE S m j ∧ zsE S m j ≤ 1000000
def zrmI (t : Int → Int) (b N r c : Int) : Int → Int := fun k => if zvis t b (r * N + k / N) (c * N + k % N) = true then zrk (t (zmn b (r * N + k / N) (c * N + k % N))) (zsz b) else 0
def zrmO (t : Int → Int) (d r c : Int) : Int → Int := fun j => zsm (zrmI t (d + j) (zp2 j) r c) (zp2 j * zp2 j).toNat
def zrmF (t : Int → Int) (d r c : Int) : Int := zsm (zrmO t d r c) (4 - d).toNat
section
variable {n : Nat} {σ : zS} {S : Int → Int}
theorem isSo.m {m d r c : Int} (h : isSo S) (hm : 0 ≤ m ∧ m < 4) (hd : 0 ≤ d ∧ d ≤ 3) (hr : 0 ≤ r ∧ r < zp2 d) (hc : 0 ≤ c ∧ c < zp2 d) : 0 ≤ zsT S m (zmn d r c) ∧ zsT S m (zmn d r c) ≤ 3 := by
  have hz := zmn_in hd hr hc
  exact h m _ hm.1 hm.2 hz.1 hz.2
theorem ctX6_isThere (h : isMo σ n S) (hS : isSo S) (m d r c : Int) (hm : 0 ≤ m ∧ m < 4) (hd : 0 ≤ d ∧ d ≤ 3) (hr : 0 ≤ r ∧ r < zp2 d) (hc : 0 ≤ c ∧ c < zp2 d) : zCt 3 0 0 yX6_isThere cX6_isThere 7 (some .boolean) [zr 145, zi m, zi d, zi r, zi c] n σ (some (zi (zb (zvis (zsT S m) d r c)))) n σ := by
  obtain ⟨⟨um, L, p, wl, lv, br, bc, hM⟩, hS0, hn⟩ := id h
  have hpd := zp2_v hd
  refine zCt.of (by decide) rfl (Nat.le_of_ble_eq_true rfl) (fun K C => ?_)
  have loop : ∀ k : Nat, k ≤ d.toNat → K 6 [some (zr 145), some (zi m), some (zi d), some (zi r), some (zi c), some (zi (zb (zvk (zsT S m) d r c k))), some (zi (k : Int))] [] n σ 0 := by
    refine zloop _ d.toNat (fun k hk ih => ?_)
    refine x_iload C dX6_isThere_6 rfl ?_
    refine x_iload_n C dX6_isThere_8 rfl ?_
    refine x_icmp_ge (tgt := 54) C dX6_isThere_9 (by decide) (by omega) (fun c9 => ?_) (fun c9 => ?_)
    · refine x_iload C dX6_isThere_54 rfl ?_
      exact x_zret (st := []) C dX6_isThere_56 rfl ⟨congrArg (fun z => some (zi (zb z))) (by rw [zvis, show k = d.toNat by omega]), rfl, rfl, rfl⟩
    · refine x_iload C dX6_isThere_12 rfl ?_
      refine x_ifeq_b (tgt := 45) C dX6_isThere_14 (by decide) (fun c14 => ?_) (fun c14 => ?_)
      · have eF : zvk (zsT S m) d r c (k + 1) = false := by rw [zvk, c14]; rfl
        refine x_iconst C dX6_isThere_45 ?_
        have ih := ih (by omega)
        rw [eF] at ih
        refine x_istore C dX6_isThere_46 (by decide) ?_
        refine x_iinc C dX6_isThere_48 rfl (by decide) ?_
        refine x_goto (tgt := 6) C dX6_isThere_51 (by decide) ?_
        exact ih
      · have hkd : (k : Int) < d := by omega
        have er : r / 2 ^ (d - (k : Int)).toNat = r / zp2 (d - k) := by rw [zp2_e (by omega)]
        have ec : c / 2 ^ (d - (k : Int)).toNat = c / zp2 (d - k) := by rw [zp2_e (by omega)]
        have h1 := zp2_d (d := d) (j := d - k) (by omega) hd.2 hr
        have h2 := zp2_d (d := d) (j := d - k) (by omega) hd.2 hc
        rw [show d - (d - (k : Int)) = k by omega] at h1 h2
        have h3 := hS.m hm (d := k) (by omega) h1 h2
        refine x_aload_n C dX6_isThere_17 rfl ?_
        refine x_iload_n C dX6_isThere_18 rfl ?_
        refine x_iload C dX6_isThere_19 rfl ?_
        refine x_iload_n C dX6_isThere_21 rfl ?_
        refine x_iload_n C dX6_isThere_22 rfl ?_
        refine x_iload C dX6_isThere_23 rfl ?_
        refine x_isub C dX6_isThere_25 ?_
        refine x_ishr C dX6_isThere_26 (by omega) ?_
        refine x_iload C dX6_isThere_27 rfl ?_
        refine x_iload_n C dX6_isThere_29 rfl ?_
        refine x_iload C dX6_isThere_30 rfl ?_
        refine x_isub C dX6_isThere_32 ?_
        refine x_ishr C dX6_isThere_33 (by omega) ?_
        rw [er, ec]
        refine x_callV C dX6_isThere_34 (ctX6_sort h m k _ _ hm (by omega) h1 h2) okX6_sort lkX6_59 ⟨⟨hM, rfl, rfl⟩, (by omega)⟩ ⟨by decide, rfl, rfl, Nat.le_of_ble_eq_true rfl⟩ rfl (Or.inl ⟨rfl, rfl⟩) ?_
        refine x_iconst C dX6_isThere_37 ?_
        refine x_icmp_ne (tgt := 45) C dX6_isThere_38 (by decide) (by omega) (fun c38 => ?_) (fun c38 => ?_)
        · have eF : zvk (zsT S m) d r c (k + 1) = false := by rw [zvk, c14, decide_eq_false (by omega)]; rfl
          refine x_iconst C dX6_isThere_45 ?_
          have ih := ih (by omega)
          rw [eF] at ih
          refine x_istore C dX6_isThere_46 (by decide) ?_
          refine x_iinc C dX6_isThere_48 rfl (by decide) ?_
          refine x_goto (tgt := 6) C dX6_isThere_51 (by decide) ?_
          exact ih
        · have eF : zvk (zsT S m) d r c (k + 1) = true := by rw [zvk, c14, decide_eq_true (by omega)]; rfl
          refine x_iconst C dX6_isThere_41 ?_
          refine x_goto (tgt := 46) C dX6_isThere_42 (by decide) ?_
          have ih := ih (by omega)
          rw [eF] at ih
          refine x_istore C dX6_isThere_46 (by decide) ?_
          refine x_iinc C dX6_isThere_48 rfl (by decide) ?_
          refine x_goto (tgt := 6) C dX6_isThere_51 (by decide) ?_
          exact ih
  refine x_iconst C dX6_isThere_0 ?_
  refine x_istore C dX6_isThere_1 (by decide) ?_
  refine x_iconst C dX6_isThere_3 ?_
  refine x_istore C dX6_isThere_4 (by decide) ?_
  exact loop 0 (by omega)
theorem ctX6_roomFrom (h : isMo σ n S) (hS : isSo S) (m d r c : Int) (hm : 0 ≤ m ∧ m < 4) (hd : 0 ≤ d ∧ d ≤ 3) (hr : 0 ≤ r ∧ r < zp2 d) (hc : 0 ≤ c ∧ c < zp2 d) : zCt 4 0 0 yX6_roomFrom cX6_roomFrom 11 (some .int) [zr 145, zi m, zi d, zi r, zi c] n σ (some (zi (zrmF (zsT S m) d r c))) n σ := by
  obtain ⟨⟨um, L, p, wl, lv, br, bc, hM⟩, hS0, hn⟩ := id h
  have hpd := zp2_v hd
  refine zCt.of (by decide) rfl (Nat.le_of_ble_eq_true rfl) (fun K C => ?_)
  have loop : ∀ j : Nat, j ≤ (4 - d).toNat → K 6 [some (zr 145), some (zi m), some (zi d), some (zi r), some (zi c), some (zi (zsm (zrmO (zsT S m) d r c) j)), some (zi (d + (j : Int))), none, none, none, none] [] n σ 0 := by
    refine zloop _ (4 - d).toNat (fun j hj ihj => ?_)
    have inner : d + (j : Int) ≤ 3 → ∀ N : Nat, zp2 j = N → ∀ k : Nat, k ≤ N * N → K 23 [some (zr 145), some (zi m), some (zi d), some (zi r), some (zi c), some (zi (zsm (zrmO (zsT S m) d r c) j + zsm (zrmI (zsT S m) (d + (j : Int)) N r c) k)), some (zi (d + (j : Int))), some (zi (N : Int)), some (zi (k : Int)), none, none] [] n σ 0 := by
      intro hb N hN
      have hN8 : 1 ≤ N ∧ N ≤ 8 := by have := zp2_v (d := j) (by omega); omega
      have hNN : N * N ≤ 64 := Nat.mul_le_mul hN8.2 hN8.2
      have hP := zp2_m (d := d) (j := j) hd.1 (by omega) hb
      refine zloop _ (N * N) (fun k hk ih => ?_)
      have hcast : ((N * N : Nat) : Int) = (N : Int) * N := by push_cast; rfl
      refine x_iload C dX6_roomFrom_23 rfl ?_
      refine x_iload C dX6_roomFrom_25 rfl ?_
      refine x_iload C dX6_roomFrom_27 rfl ?_
      refine x_imul C dX6_roomFrom_29 ?_
      refine x_icmp_ge (tgt := 106) C dX6_roomFrom_30 (by decide) (by omega) (fun c30 => ?_) (fun c30 => ?_)
      · obtain rfl : k = N * N := by omega
        have ihj := ihj (by omega)
        rw [show zsm (zrmO (zsT S m) d r c) (j + 1) = zsm (zrmO (zsT S m) d r c) j + zsm (zrmI (zsT S m) (d + (j : Int)) (zp2 j) r c) (zp2 j * zp2 j).toNat from rfl, hN, show ((N : Int) * N).toNat = N * N by rw [← hcast]; rfl] at ihj
        refine x_iinc C dX6_roomFrom_106 rfl (by decide) ?_
        refine x_goto (tgt := 6) C dX6_roomFrom_109 (by decide) ?_
        rw [show d + ((j + 1 : Nat) : Int) = d + (j : Int) + 1 by omega] at ihj
        exact x_wk C rfl ihj
      · have hq := zdm (N := N) (k := k) (by omega)
        have q1 := zrq hr hq.1
        have q2 := zrq hc hq.2
        rw [← hN, hP] at q1 q2
        have q3 := hS.m hm (d := d + (j : Int)) (by omega) q1 q2
        rw [hN] at q1 q2 q3
        refine x_iload_n C dX6_roomFrom_33 rfl ?_
        refine x_iload C dX6_roomFrom_34 rfl ?_
        refine x_imul C dX6_roomFrom_36 ?_
        refine x_iload C dX6_roomFrom_37 rfl ?_
        refine x_iload C dX6_roomFrom_39 rfl ?_
        refine x_idiv C dX6_roomFrom_41 (by omega) ?_
        refine x_iadd C dX6_roomFrom_42 ?_
        refine x_istore C dX6_roomFrom_43 (by decide) ?_
        refine x_iload C dX6_roomFrom_45 rfl ?_
        refine x_iload C dX6_roomFrom_47 rfl ?_
        refine x_imul C dX6_roomFrom_49 ?_
        refine x_iload C dX6_roomFrom_50 rfl ?_
        refine x_iload C dX6_roomFrom_52 rfl ?_
        refine x_irem C dX6_roomFrom_54 (by omega) ?_
        refine x_iadd C dX6_roomFrom_55 ?_
        refine x_istore C dX6_roomFrom_56 (by decide) ?_
        refine x_iload C dX6_roomFrom_58 rfl ?_
        refine x_aload_n C dX6_roomFrom_60 rfl ?_
        refine x_iload_n C dX6_roomFrom_61 rfl ?_
        refine x_iload C dX6_roomFrom_62 rfl ?_
        refine x_iload C dX6_roomFrom_64 rfl ?_
        refine x_iload C dX6_roomFrom_66 rfl ?_
        refine x_callV C dX6_roomFrom_68 (ctX6_isThere h hS m (d + (j : Int)) _ _ hm (by omega) q1 q2) okX6_isThere lkX6_63 ⟨⟨hM, rfl, rfl⟩, (by omega)⟩ ⟨by decide, rfl, rfl, Nat.le_of_ble_eq_true rfl⟩ rfl (Or.inl ⟨rfl, rfl⟩) ?_
        refine x_ifeq_b (tgt := 96) C dX6_roomFrom_71 (by decide) (fun c71 => ?_) (fun c71 => ?_)
        · have eF : zrmI (zsT S m) (d + (j : Int)) N r c k = _ := if_neg (by rw [c71]; decide)
          refine x_iconst C dX6_roomFrom_96 ?_
          have ih := ih (by omega)
          rw [show zsm (zrmI (zsT S m) (d + (j : Int)) N r c) (k + 1) = zsm (zrmI (zsT S m) (d + (j : Int)) N r c) k + zrmI (zsT S m) (d + (j : Int)) N r c k from rfl, eF, ← Int.add_assoc] at ih
          refine x_iadd C dX6_roomFrom_97 ?_
          refine x_istore C dX6_roomFrom_98 (by decide) ?_
          refine x_iinc C dX6_roomFrom_100 rfl (by decide) ?_
          refine x_goto (tgt := 23) C dX6_roomFrom_103 (by decide) ?_
          exact x_wk C rfl ih
        · have eF : zrmI (zsT S m) (d + (j : Int)) N r c k = _ := if_pos c71
          refine x_aload_n C dX6_roomFrom_74 rfl ?_
          refine x_iload_n C dX6_roomFrom_75 rfl ?_
          refine x_iload C dX6_roomFrom_76 rfl ?_
          refine x_iload C dX6_roomFrom_78 rfl ?_
          refine x_iload C dX6_roomFrom_80 rfl ?_
          refine x_callV C dX6_roomFrom_82 (ctX6_sort h m (d + (j : Int)) _ _ hm (by omega) q1 q2) okX6_sort lkX6_59 ⟨⟨hM, rfl, rfl⟩, (by omega)⟩ ⟨by decide, rfl, rfl, Nat.le_of_ble_eq_true rfl⟩ rfl (Or.inl ⟨rfl, rfl⟩) ?_
          refine x_iload C dX6_roomFrom_85 rfl ?_
          refine x_callS C dX6_roomFrom_87 (ctX6_sizeAt (d + (j : Int)) (by omega)) okX6_sizeAt lkX6_67 ⟨by decide, rfl, rfl, Nat.le_of_ble_eq_true rfl⟩ rfl (Or.inl ⟨rfl, rfl⟩) ?_
          refine x_callS C dX6_roomFrom_90 (ctX6_roomOf _ _ q3) okX6_roomOf lkX6_71 ⟨by decide, rfl, rfl, Nat.le_of_ble_eq_true rfl⟩ rfl (Or.inl ⟨rfl, rfl⟩) ?_
          refine x_goto (tgt := 97) C dX6_roomFrom_93 (by decide) ?_
          have ih := ih (by omega)
          rw [show zsm (zrmI (zsT S m) (d + (j : Int)) N r c) (k + 1) = zsm (zrmI (zsT S m) (d + (j : Int)) N r c) k + zrmI (zsT S m) (d + (j : Int)) N r c k from rfl, eF, ← Int.add_assoc] at ih
          refine x_iadd C dX6_roomFrom_97 ?_
          refine x_istore C dX6_roomFrom_98 (by decide) ?_
          refine x_iinc C dX6_roomFrom_100 rfl (by decide) ?_
          refine x_goto (tgt := 23) C dX6_roomFrom_103 (by decide) ?_
          exact x_wk C rfl ih
    refine x_iload C dX6_roomFrom_6 rfl ?_
    refine x_iconst C dX6_roomFrom_8 ?_
    refine x_icmp_ge (tgt := 112) C dX6_roomFrom_9 (by decide) (by omega) (fun c9 => ?_) (fun c9 => ?_)
    · refine x_iload C dX6_roomFrom_112 rfl ?_
      exact x_iret (st := []) C dX6_roomFrom_114 rfl ⟨congrArg (fun z => some (zi z)) (by rw [zrmF, show j = (4 - d).toNat by omega]), rfl, rfl, rfl⟩
    · refine x_iconst C dX6_roomFrom_12 ?_
      refine x_iload C dX6_roomFrom_13 rfl ?_
      refine x_iload_n C dX6_roomFrom_15 rfl ?_
      refine x_isub C dX6_roomFrom_16 ?_
      refine x_ishl C dX6_roomFrom_17 (by omega) ?_
      obtain ⟨N, hN, -⟩ := zp2N (d := j) (by omega)
      rw [show (1 : Int) * 2 ^ (d + (j : Int) - d).toNat = N by rw [show d + (j : Int) - d = j by omega, zp2_e (by omega), hN]; omega]
      refine x_istore C dX6_roomFrom_18 (by decide) ?_
      refine x_iconst C dX6_roomFrom_20 ?_
      refine x_istore C dX6_roomFrom_21 (by decide) ?_
      have h0 := inner (by omega) N hN 0 (by omega)
      rw [show zsm (zrmI (zsT S m) (d + (j : Int)) N r c) 0 = 0 from rfl, Int.add_zero] at h0
      exact h0
  refine x_iconst C dX6_roomFrom_0 ?_
  refine x_istore C dX6_roomFrom_1 (by decide) ?_
  refine x_iload_n C dX6_roomFrom_3 rfl ?_
  refine x_istore C dX6_roomFrom_4 (by decide) ?_
  have h0 := loop 0 (by omega)
  rw [show d + ((0 : Nat) : Int) = d by omega] at h0
  exact h0
theorem ctX6_room (h : isMo σ n S) (hS : isSo S) (m : Int) (hm : 0 ≤ m ∧ m < 4) : zCt 5 0 0 yX6_room cX6_room 2 (some .int) [zr 145, zi m] n σ (some (zi (zrmF (zsT S m) 0 0 0))) n σ := by
  obtain ⟨⟨um, L, p, wl, lv, br, bc, hM⟩, hS0, hn⟩ := id h
  refine zCt.of (by decide) rfl (Nat.le_of_ble_eq_true rfl) (fun K C => ?_)
  refine x_aload_n C dX6_room_0 rfl ?_
  refine x_iload_n C dX6_room_1 rfl ?_
  refine x_iconst C dX6_room_2 ?_
  refine x_iconst C dX6_room_3 ?_
  refine x_iconst C dX6_room_4 ?_
  refine x_callV C dX6_room_5 (ctX6_roomFrom h hS m 0 0 0 hm (by decide) (by decide) (by decide)) okX6_roomFrom lkX6_75 ⟨⟨hM, rfl, rfl⟩, (by omega)⟩ ⟨by decide, rfl, rfl, Nat.le_of_ble_eq_true rfl⟩ rfl (Or.inl ⟨rfl, rfl⟩) ?_
  exact x_iret (st := []) C dX6_room_8 rfl ⟨congrArg (fun z => some (zi z)) (by first | rfl | omega), rfl, rfl, rfl⟩
theorem ctX6_allRoom (h : isMo σ n S) (hS : isSo S) : zCt 6 0 0 yX6_allRoom cX6_allRoom 3 (some .int) [zr 145] n σ (some (zi (zsm (fun m => zrmF (zsT S m) 0 0 0) 4))) n σ := by
  obtain ⟨⟨um, L, p, wl, lv, br, bc, hM⟩, hS0, hn⟩ := id h
  refine zCt.of (by decide) rfl (Nat.le_of_ble_eq_true rfl) (fun K C => ?_)
  have loop : ∀ k : Nat, k ≤ 4 → K 4 [some (zr 145), some (zi (zsm (fun m => zrmF (zsT S m) 0 0 0) k)), some (zi (k : Int))] [] n σ 0 := by
    refine zloop _ 4 (fun k hk ih => ?_)
    refine x_iload_n C dX6_allRoom_4 rfl ?_
    refine x_iconst C dX6_allRoom_5 ?_
    refine x_icmp_ge (tgt := 23) C dX6_allRoom_6 (by decide) (by omega) (fun c6 => ?_) (fun c6 => ?_)
    · refine x_iload_n C dX6_allRoom_23 rfl ?_
      exact x_iret (st := []) C dX6_allRoom_24 rfl ⟨congrArg (fun z => some (zi z)) (by rw [show k = 4 by omega]), rfl, rfl, rfl⟩
    · refine x_iload_n C dX6_allRoom_9 rfl ?_
      refine x_aload_n C dX6_allRoom_10 rfl ?_
      refine x_iload_n C dX6_allRoom_11 rfl ?_
      refine x_callV C dX6_allRoom_12 (ctX6_room h hS k (by omega)) okX6_room lkX6_78 ⟨⟨hM, rfl, rfl⟩, (by omega)⟩ ⟨by decide, rfl, rfl, Nat.le_of_ble_eq_true rfl⟩ rfl (Or.inl ⟨rfl, rfl⟩) ?_
      refine x_iadd C dX6_allRoom_15 ?_
      refine x_istore_n C dX6_allRoom_16 (by decide) ?_
      refine x_iinc C dX6_allRoom_17 rfl (by decide) ?_
      refine x_goto (tgt := 4) C dX6_allRoom_20 (by decide) ?_
      exact ih (by omega)
  refine x_iconst C dX6_allRoom_0 ?_
  refine x_istore_n C dX6_allRoom_1 (by decide) ?_
  refine x_iconst C dX6_allRoom_2 ?_
  refine x_istore_n C dX6_allRoom_3 (by decide) ?_
  exact loop 0 (by omega)
theorem ctX6_emptyOnes (h : isMo σ n S) (hS : isSo S) : zCt 3 0 0 yX6_emptyOnes cX6_emptyOnes 3 (some .int) [zr 145] n σ (some (zi (zempt (fun m => zsT S m) 4))) n σ := by
  obtain ⟨⟨um, L, p, wl, lv, br, bc, hM⟩, hS0, hn⟩ := id h
  refine zCt.of (by decide) rfl (Nat.le_of_ble_eq_true rfl) (fun K C => ?_)
  have loop : ∀ k : Nat, k ≤ 4 → K 4 [some (zr 145), some (zi (zempt (fun m => zsT S m) k)), some (zi (k : Int))] [] n σ 0 := by
    refine zloop _ 4 (fun k hk ih => ?_)
    refine x_iload_n C dX6_emptyOnes_4 rfl ?_
    refine x_iconst C dX6_emptyOnes_5 ?_
    refine x_icmp_ge (tgt := 36) C dX6_emptyOnes_6 (by decide) (by omega) (fun c6 => ?_) (fun c6 => ?_)
    · refine x_iload_n C dX6_emptyOnes_36 rfl ?_
      exact x_iret (st := []) C dX6_emptyOnes_37 rfl ⟨congrArg (fun z => some (zi z)) (by rw [show k = 4 by omega]), rfl, rfl, rfl⟩
    · have h3 := hS.m (d := 0) (r := 0) (c := 0) (m := k) (by omega) (by decide) (by decide) (by decide)
      refine x_iload_n C dX6_emptyOnes_9 rfl ?_
      refine x_aload_n C dX6_emptyOnes_10 rfl ?_
      refine x_iload_n C dX6_emptyOnes_11 rfl ?_
      refine x_iconst C dX6_emptyOnes_12 ?_
      refine x_iconst C dX6_emptyOnes_13 ?_
      refine x_iconst C dX6_emptyOnes_14 ?_
      refine x_callV C dX6_emptyOnes_15 (ctX6_sort h k 0 0 0 (by omega) (by decide) (by decide) (by decide)) okX6_sort lkX6_59 ⟨⟨hM, rfl, rfl⟩, (by omega)⟩ ⟨by decide, rfl, rfl, Nat.le_of_ble_eq_true rfl⟩ rfl (Or.inl ⟨rfl, rfl⟩) ?_
      refine x_if_ne (tgt := 27) C dX6_emptyOnes_18 (by decide) (by omega) (fun c18 => ?_) (fun c18 => ?_)
      · have eF : zempt (fun m => zsT S m) (k + 1) = _ := if_neg c18
        refine x_iconst C dX6_emptyOnes_27 ?_
        have ih := ih (by omega)
        rw [eF] at ih
        refine x_ior C dX6_emptyOnes_28 ?_
        try rw [zor_0 (zempt_in _ k)]
        refine x_istore_n C dX6_emptyOnes_29 (by decide) ?_
        refine x_iinc C dX6_emptyOnes_30 rfl (by decide) ?_
        refine x_goto (tgt := 4) C dX6_emptyOnes_33 (by decide) ?_
        exact ih
      · have eF : zempt (fun m => zsT S m) (k + 1) = _ := if_pos c18
        refine x_iconst C dX6_emptyOnes_21 ?_
        refine x_iload_n C dX6_emptyOnes_22 rfl ?_
        refine x_ishl C dX6_emptyOnes_23 (by omega) ?_
        refine x_goto (tgt := 28) C dX6_emptyOnes_24 (by decide) ?_
        have ih := ih (by omega)
        rw [eF] at ih
        refine x_ior C dX6_emptyOnes_28 ?_
        try rw [zor_0 (zempt_in _ k)]
        refine x_istore_n C dX6_emptyOnes_29 (by decide) ?_
        refine x_iinc C dX6_emptyOnes_30 rfl (by decide) ?_
        refine x_goto (tgt := 4) C dX6_emptyOnes_33 (by decide) ?_
        exact ih
  refine x_iconst C dX6_emptyOnes_0 ?_
  refine x_istore_n C dX6_emptyOnes_1 (by decide) ?_
  refine x_iconst C dX6_emptyOnes_2 ?_
  refine x_istore_n C dX6_emptyOnes_3 (by decide) ?_
  exact loop 0 (by omega)
theorem ctX6_trace (h : isMo σ n S) (m : Int) (hm : 0 ≤ m ∧ m < 4) : zCt 2 0 0 yX6_trace cX6_trace 4 (some .int) [zr 145, zi m] n σ (some (zi (zsm (fun k => zsE S m (k * 16 + k)) 16))) n σ := by
  obtain ⟨⟨um, L, p, wl, lv, br, bc, hM⟩, hS0, hn⟩ := id h
  refine zCt.of (by decide) rfl (Nat.le_of_ble_eq_true rfl) (fun K C => ?_)
  have loop : ∀ k : Nat, k ≤ 16 → K 4 [some (zr 145), some (zi m), some (zi (zsm (fun k => zsE S m (k * 16 + k)) k)), some (zi (k : Int))] [] n σ 0 := by
    refine zloop _ 16 (fun k hk ih => ?_)
    refine x_iload_n C dX6_trace_4 rfl ?_
    refine x_bipush C dX6_trace_5 (by decide) ?_
    refine x_icmp_ge (tgt := 26) C dX6_trace_7 (by decide) (by omega) (fun c7 => ?_) (fun c7 => ?_)
    · refine x_iload_n C dX6_trace_26 rfl ?_
      exact x_iret (st := []) C dX6_trace_27 rfl ⟨congrArg (fun z => some (zi z)) (by rw [show k = 16 by omega]), rfl, rfl, rfl⟩
    · refine x_iload_n C dX6_trace_10 rfl ?_
      refine x_aload_n C dX6_trace_11 rfl ?_
      refine x_iload_n C dX6_trace_12 rfl ?_
      refine x_iload_n C dX6_trace_13 rfl ?_
      refine x_iload_n C dX6_trace_14 rfl ?_
      refine x_callV C dX6_trace_15 (ctX6_get h m k k hm (by omega) (by omega)) okX6_get lkX6_81 ⟨⟨hM, rfl, rfl⟩, (by omega)⟩ ⟨by decide, rfl, rfl, Nat.le_of_ble_eq_true rfl⟩ rfl (Or.inl ⟨rfl, rfl⟩) ?_
      refine x_iadd C dX6_trace_18 ?_
      refine x_istore_n C dX6_trace_19 (by decide) ?_
      refine x_iinc C dX6_trace_20 rfl (by decide) ?_
      refine x_goto (tgt := 4) C dX6_trace_23 (by decide) ?_
      exact ih (by omega)
  refine x_iconst C dX6_trace_0 ?_
  refine x_istore_n C dX6_trace_1 (by decide) ?_
  refine x_iconst C dX6_trace_2 ?_
  refine x_istore_n C dX6_trace_3 (by decide) ?_
  exact loop 0 (by omega)
end
