def zEn (S : Int → Int) : Prop := ∀ m, 0 ≤ m ∧ m < 4 → zBe (zsE S m)
theorem zsE_e (S : Int → Int) {m m2 j j2 : Int} (v : Int) (hm : 0 ≤ m ∧ m < 4) (hj : 0 ≤ j ∧ j < 256) (hm2 : 0 ≤ m2 ∧ m2 < 4) (hj2 : 0 ≤ j2 ∧ j2 < 256) : zsE (zu S (341 * m + 85 + j) v) m2 j2 = if m2 = m ∧ j2 = j then v else zsE S m2 j2 := by
  unfold zsE zu
  by_cases c : m2 = m ∧ j2 = j
  · rw [if_pos c, if_pos (by omega)]
  · rw [if_neg c, if_neg (by omega)]
theorem zsT_e (S : Int → Int) {m m2 j k : Int} (v : Int) (hm : 0 ≤ m ∧ m < 4) (hj : 0 ≤ j ∧ j < 256) (hm2 : 0 ≤ m2 ∧ m2 < 4) (hk : 0 ≤ k ∧ k < 85) : zsT (zu S (341 * m + 85 + j) v) m2 k = zsT S m2 k := by
  unfold zsT zu
  rw [if_neg (by omega)]
theorem zsE_t (S : Int → Int) {m m2 k j : Int} (v : Int) (hm : 0 ≤ m ∧ m < 4) (hk : 0 ≤ k ∧ k < 85) (hm2 : 0 ≤ m2 ∧ m2 < 4) (hj : 0 ≤ j ∧ j < 256) : zsE (zu S (341 * m + k) v) m2 j = zsE S m2 j := by
  unfold zsE zu
  rw [if_neg (by omega)]
theorem zsT_t (S : Int → Int) {m m2 k k2 : Int} (v : Int) (hm : 0 ≤ m ∧ m < 4) (hk : 0 ≤ k ∧ k < 85) (hm2 : 0 ≤ m2 ∧ m2 < 4) (hk2 : 0 ≤ k2 ∧ k2 < 85) : zsT (zu S (341 * m + k) v) m2 k2 = if m2 = m ∧ k2 = k then v else zsT S m2 k2 := by
  unfold zsT zu
  by_cases c : m2 = m ∧ k2 = k
  · rw [if_pos c, if_pos (by omega)]
  · rw [if_neg c, if_neg (by omega)]
theorem isSo.t {S : Int → Int} (h : isSo S) {m k v : Int} (hm : 0 ≤ m ∧ m < 4) (hk : 0 ≤ k ∧ k < 85) (hv : 0 ≤ v ∧ v ≤ 3) : isSo (zu S (341 * m + k) v) := by
  intro m2 k2 h1 h2 h3 h4
  rw [zsT_t S v hm hk ⟨h1, h2⟩ ⟨h3, h4⟩]
  split
  · exact hv
  · exact h m2 k2 h1 h2 h3 h4
theorem isSo.e {S : Int → Int} (h : isSo S) {m j : Int} (v : Int) (hm : 0 ≤ m ∧ m < 4) (hj : 0 ≤ j ∧ j < 256) : isSo (zu S (341 * m + 85 + j) v) := by
  intro m2 k2 h1 h2 h3 h4
  rw [zsT_e S v hm hj ⟨h1, h2⟩ ⟨h3, h4⟩]
  exact h m2 k2 h1 h2 h3 h4
theorem zEn.t {S : Int → Int} (h : zEn S) {m k : Int} (v : Int) (hm : 0 ≤ m ∧ m < 4) (hk : 0 ≤ k ∧ k < 85) : zEn (zu S (341 * m + k) v) := by
  intro m2 hm2 j h1 h2
  rw [zsE_t S v hm hk hm2 ⟨h1, h2⟩]
  exact h m2 hm2 j h1 h2
theorem zEn.e {S : Int → Int} (h : zEn S) {m j v : Int} (hm : 0 ≤ m ∧ m < 4) (hj : 0 ≤ j ∧ j < 256) (hv : -1000000 ≤ v ∧ v ≤ 1000000) : zEn (zu S (341 * m + 85 + j) v) := by
  intro m2 hm2 j2 h1 h2
  rw [zsE_e S v hm hj hm2 ⟨h1, h2⟩]
  split
  · exact hv
  · exact h m2 hm2 j2 h1 h2
/-- the four parts of a block -/
theorem zpq {d r : Int} {k : Int} (hd : 0 ≤ d ∧ d ≤ 2) (hr : 0 ≤ r ∧ r < zp2 d) (hk : 0 ≤ k ∧ k < 4) : (0 ≤ 2 * r + k / 2 ∧ 2 * r + k / 2 < zp2 (d + 1)) ∧ 0 ≤ 2 * r + k % 2 ∧ 2 * r + k % 2 < zp2 (d + 1) := by
  have hp := zp2_v (d := d) (by omega)
  have hpd1 := zp2_m (d := d) (j := 1) hd.1 (by decide) (by omega)
  rw [show zp2 1 = 2 from rfl] at hpd1
  omega
def zmct (S : Int → Int) (m d r c : Int) : Int → Int := if zsT S m (zmn d r c) = 3 then S else zfo (fun T k => zu T (341 * m + zmn (d + 1) (2 * r + k / 2) (2 * c + k % 2)) (zsT S m (zmn d r c))) (zu S (341 * m + zmn d r c) 3) 4
def zaqs (m q x row col N : Int) (T : Int → Int) (k : Int) : Int → Int := zu T (341 * m + 85 + ((row + k / N) * 16 + (col + k % N))) (zclp (zsE T m ((row + k / N) * 16 + (col + k % N)) + x * zsE T q ((row + k / N) * 16 + (col + k % N))))
def zaq (S : Int → Int) (m q x row col N : Int) : Nat → Int → Int := zfo (zaqs m q x row col N) S
def zab (S O : Int → Int) (m q x d r c : Int) : (Int → Int) × (Int → Int) :=
  if zsT S q (zmn d r c) = 3 ∧ zsT S m (zmn d r c) = 3 then (S, zfo (fun T k => zu T (zmn (d + 1) (2 * r + k / 2) (2 * c + k % 2)) 1) O 4)
  else if zsT S q (zmn d r c) ≠ 0 then (zaq (zu S (341 * m + zmn d r c) 1) m q x (r * zsz d) (c * zsz d) (zsz d) (zsz d * zsz d).toNat, O) else (S, O)
def zsw (S : Int → Int) (m a b : Int) : Int → Int := zu (zu S (341 * m + a) (S (341 * m + b))) (341 * m + b) (S (341 * m + a))
theorem zclp_m {a b x : Int} (ha : -1000000 ≤ a ∧ a ≤ 1000000) (hb : -1000000 ≤ b ∧ b ≤ 1000000) (hx : -99 ≤ x ∧ x ≤ 99) : -2147483648 ≤ a + x * b ∧ a + x * b < 2147483648 := by
  have z1 : x.natAbs ≤ 99 := by omega
  have z2 : b.natAbs ≤ 1000000 := by omega
  have z3 : (x * b).natAbs ≤ 99 * 1000000 := by
    rw [Int.natAbs_mul]
    exact Nat.mul_le_mul z1 z2
  omega
section
variable {n : Nat} {σ : zS} {S : Int → Int}
theorem ctX6_cuts (h : isMo σ n S) (hS : isSo S) (m d r c : Int) (hm : 0 ≤ m ∧ m < 4) (hd : 0 ≤ d ∧ d ≤ 2) (hr : 0 ≤ r ∧ r < zp2 d) (hc : 0 ≤ c ∧ c < zp2 d) : zCt 3 0 0 yX6_cuts cX6_cuts 7 none [zr 145, zi m, zi d, zi r, zi c] n σ none n (zsu σ 146 (zA 1365 (zmct S m d r c))) := by
  obtain ⟨⟨um, L, p, wl, lv, br, bc, hM⟩, hS0, hn⟩ := id h
  have hs := hS.m hm (by omega) hr hc
  have hz := zmn_in (by omega) hr hc
  refine zCt.of (by decide) rfl (Nat.le_of_ble_eq_true rfl) (fun K C => ?_)
  have loop : zsT S m (zmn d r c) ≠ 3 → ∀ k : Nat, k ≤ 4 → K 30 [some (zr 145), some (zi m), some (zi d), some (zi r), some (zi c), some (zi (zsT S m (zmn d r c))), some (zi (k : Int))] [] n (zsu σ 146 (zA 1365 (zfo (fun T k => zu T (341 * m + zmn (d + 1) (2 * r + k / 2) (2 * c + k % 2)) (zsT S m (zmn d r c))) (zu S (341 * m + zmn d r c) 3) k))) 0 := by
    intro h3
    refine zloop _ 4 (fun k hk ih => ?_)
    have h2 := h.s (zfo (fun T k => zu T (341 * m + zmn (d + 1) (2 * r + k / 2) (2 * c + k % 2)) (zsT S m (zmn d r c))) (zu S (341 * m + zmn d r c) 3) k)
    obtain ⟨⟨um, L, p, wl, lv, br, bc, hM⟩, hS1, hn⟩ := id h2
    refine x_iload C dX6_cuts_30 rfl ?_
    refine x_iconst C dX6_cuts_32 ?_
    refine x_icmp_ge (tgt := 69) C dX6_cuts_33 (by decide) (by omega) (fun c33 => ?_) (fun c33 => ?_)
    · exact x_vret (st := []) C dX6_cuts_69 rfl ⟨rfl, rfl, by rw [zmct, if_neg h3, show k = 4 by omega], rfl⟩
    · have q1 := zpq (k := k) hd hr (by omega)
      have q2 := zpq (k := k) hd hc (by omega)
      refine x_aload_n C dX6_cuts_36 rfl ?_
      refine x_iload_n C dX6_cuts_37 rfl ?_
      refine x_iload_n C dX6_cuts_38 rfl ?_
      refine x_iconst C dX6_cuts_39 ?_
      refine x_iadd C dX6_cuts_40 ?_
      refine x_iconst C dX6_cuts_41 ?_
      refine x_iload_n C dX6_cuts_42 rfl ?_
      refine x_imul C dX6_cuts_43 ?_
      refine x_iload C dX6_cuts_44 rfl ?_
      refine x_iconst C dX6_cuts_46 ?_
      refine x_idiv C dX6_cuts_47 (by omega) ?_
      refine x_iadd C dX6_cuts_48 ?_
      refine x_iconst C dX6_cuts_49 ?_
      refine x_iload C dX6_cuts_50 rfl ?_
      refine x_imul C dX6_cuts_52 ?_
      refine x_iload C dX6_cuts_53 rfl ?_
      refine x_iconst C dX6_cuts_55 ?_
      refine x_irem C dX6_cuts_56 (by omega) ?_
      refine x_iadd C dX6_cuts_57 ?_
      refine x_iload C dX6_cuts_58 rfl ?_
      refine x_callV C dX6_cuts_60 (ctX6_sorts h2 m (d + 1) _ _ _ hm (by omega) q1.1 q2.2) okX6_sorts lkX6_96 ⟨⟨hM, rfl, rfl⟩, (by omega)⟩ ⟨by decide, rfl, rfl, Nat.le_of_ble_eq_true rfl⟩ rfl (Or.inl ⟨rfl, rfl⟩) ?_
      rw [zsu_u]
      refine x_iinc C dX6_cuts_63 rfl (by decide) ?_
      refine x_goto (tgt := 30) C dX6_cuts_66 (by decide) ?_
      exact ih (by omega)
  refine x_aload_n C dX6_cuts_0 rfl ?_
  refine x_iload_n C dX6_cuts_1 rfl ?_
  refine x_iload_n C dX6_cuts_2 rfl ?_
  refine x_iload_n C dX6_cuts_3 rfl ?_
  refine x_iload C dX6_cuts_4 rfl ?_
  refine x_callV C dX6_cuts_6 (ctX6_sort h m d _ _ hm (by omega) hr hc) okX6_sort lkX6_59 ⟨⟨hM, rfl, rfl⟩, (by omega)⟩ ⟨by decide, rfl, rfl, Nat.le_of_ble_eq_true rfl⟩ rfl (Or.inl ⟨rfl, rfl⟩) ?_
  refine x_istore C dX6_cuts_9 (by decide) ?_
  refine x_iload C dX6_cuts_11 rfl ?_
  refine x_iconst C dX6_cuts_13 ?_
  refine x_icmp_eq (tgt := 69) C dX6_cuts_14 (by decide) (by omega) (fun c14 => ?_) (fun c14 => ?_)
  · exact x_vret (st := []) C dX6_cuts_69 rfl ⟨rfl, rfl, by rw [zmct, if_pos (by omega)]; exact (zsu_self hS0).symm, rfl⟩
  · refine x_aload_n C dX6_cuts_17 rfl ?_
    refine x_iload_n C dX6_cuts_18 rfl ?_
    refine x_iload_n C dX6_cuts_19 rfl ?_
    refine x_iload_n C dX6_cuts_20 rfl ?_
    refine x_iload C dX6_cuts_21 rfl ?_
    refine x_iconst C dX6_cuts_23 ?_
    refine x_callV C dX6_cuts_24 (ctX6_sorts h m d _ _ _ hm (by omega) hr hc) okX6_sorts lkX6_96 ⟨⟨hM, rfl, rfl⟩, (by omega)⟩ ⟨by decide, rfl, rfl, Nat.le_of_ble_eq_true rfl⟩ rfl (Or.inl ⟨rfl, rfl⟩) ?_
    skip
    refine x_iconst C dX6_cuts_27 ?_
    refine x_istore C dX6_cuts_28 (by decide) ?_
    exact loop c14 0 (by omega)
theorem ctX6_swaps (h : isMo σ n S) (m a b : Int) (hm : 0 ≤ m ∧ m < 4) (ha : 0 ≤ a ∧ a < 341) (hb : 0 ≤ b ∧ b < 341) : zCt 1 0 0 yX6_swaps cX6_swaps 5 none [zr 145, zi m, zi a, zi b] n σ none n (zsu σ 146 (zA 1365 (zsw S m a b))) := by
  obtain ⟨⟨um, L, p, wl, lv, br, bc, hM⟩, hS0, hn⟩ := id h
  refine zCt.of (by decide) rfl (Nat.le_of_ble_eq_true rfl) (fun K C => ?_)
  refine x_aload_n C dX6_swaps_0 rfl ?_
  refine x_getfield C dX6_swaps_1 lfX6_7 hM (by omega) rfl ?_
  refine x_sipush C dX6_swaps_4 (by decide) ?_
  refine x_iload_n C dX6_swaps_7 rfl ?_
  refine x_imul C dX6_swaps_8 ?_
  refine x_iload_n C dX6_swaps_9 rfl ?_
  refine x_iadd C dX6_swaps_10 ?_
  refine x_iaload C dX6_swaps_11 hS0 (by omega) ?_
  refine x_istore C dX6_swaps_12 (by decide) ?_
  refine x_aload_n C dX6_swaps_14 rfl ?_
  refine x_getfield C dX6_swaps_15 lfX6_7 hM (by omega) rfl ?_
  refine x_sipush C dX6_swaps_18 (by decide) ?_
  refine x_iload_n C dX6_swaps_21 rfl ?_
  refine x_imul C dX6_swaps_22 ?_
  refine x_iload_n C dX6_swaps_23 rfl ?_
  refine x_iadd C dX6_swaps_24 ?_
  refine x_aload_n C dX6_swaps_25 rfl ?_
  refine x_getfield C dX6_swaps_26 lfX6_7 hM (by omega) rfl ?_
  refine x_sipush C dX6_swaps_29 (by decide) ?_
  refine x_iload_n C dX6_swaps_32 rfl ?_
  refine x_imul C dX6_swaps_33 ?_
  refine x_iload_n C dX6_swaps_34 rfl ?_
  refine x_iadd C dX6_swaps_35 ?_
  refine x_iaload C dX6_swaps_36 hS0 (by omega) ?_
  refine x_iastore C dX6_swaps_37 hS0 (by omega) ?_
  refine x_nm (fun s37 e37 => ?_)
  have hM := (congrFun e37 145).trans ((zsu_n _ _ (by omega)).trans hM)
  have hS0 := (congrFun e37 146).trans (zsu_s _ _ _)
  refine x_aload_n C dX6_swaps_38 rfl ?_
  refine x_getfield C dX6_swaps_39 lfX6_7 hM (by omega) rfl ?_
  refine x_sipush C dX6_swaps_42 (by decide) ?_
  refine x_iload_n C dX6_swaps_45 rfl ?_
  refine x_imul C dX6_swaps_46 ?_
  refine x_iload_n C dX6_swaps_47 rfl ?_
  refine x_iadd C dX6_swaps_48 ?_
  refine x_iload C dX6_swaps_49 rfl ?_
  refine x_iastore C dX6_swaps_51 hS0 (by omega) ?_
  refine x_nm (fun s51 e51 => ?_)
  have hM := (congrFun e51 145).trans ((zsu_n _ _ (by omega)).trans hM)
  have hS0 := (congrFun e51 146).trans (zsu_s _ _ _)
  exact x_vret (st := []) C dX6_swaps_52 rfl ⟨rfl, rfl, by rw [e51, e37, zsu_u]; rfl, rfl⟩
theorem ctX6_addsSquare (h : isMo σ n S) (hE : zEn S) (m q x row col : Int) (N : Nat) (hm : 0 ≤ m ∧ m < 4) (hq : 0 ≤ q ∧ q < 4) (hx : -99 ≤ x ∧ x ≤ 99) (hr : 0 ≤ row ∧ row + N ≤ 16) (hc : 0 ≤ col ∧ col + N ≤ 16) : zCt 2 0 0 yX6_addsSquare cX6_addsSquare 10 none [zr 145, zi m, zi q, zi x, zi row, zi col, zi (N : Int)] n σ none n (zsu σ 146 (zA 1365 (zaq S m q x row col N (N * N)))) := by
  obtain ⟨⟨um, L, p, wl, lv, br, bc, hM⟩, hS0, hn⟩ := id h
  have hNN : N * N ≤ 256 := Nat.mul_le_mul (show N ≤ 16 by omega) (show N ≤ 16 by omega)
  have hcast : ((N * N : Nat) : Int) = (N : Int) * N := Int.natCast_mul N N
  refine zCt.of (by decide) rfl (Nat.le_of_ble_eq_true rfl) (fun K C => ?_)
  have loop : ∀ k : Nat, k ≤ N * N → zEn (zaq S m q x row col N k) → K 3 [some (zr 145), some (zi m), some (zi q), some (zi x), some (zi row), some (zi col), some (zi (N : Int)), some (zi (k : Int)), none, none] [] n (zsu σ 146 (zA 1365 (zaq S m q x row col N k))) 0 := by
    refine zloop _ (N * N) (fun k hk ih => ?_)
    intro hEk
    have h2 := h.s (zaq S m q x row col N k)
    have eT : zaq S m q x row col N (k + 1) = zaqs m q x row col N (zaq S m q x row col N k) k := rfl
    generalize hT : zaq S m q x row col N k = T at *
    obtain ⟨⟨um, L, p, wl, lv, br, bc, hM⟩, hS1, hn⟩ := id h2
    refine x_iload C dX6_addsSquare_3 rfl ?_
    refine x_iload C dX6_addsSquare_5 rfl ?_
    refine x_iload C dX6_addsSquare_7 rfl ?_
    refine x_imul C dX6_addsSquare_9 ?_
    refine x_icmp_ge (tgt := 72) C dX6_addsSquare_10 (by decide) (by omega) (fun c10 => ?_) (fun c10 => ?_)
    · exact x_vret (st := []) C dX6_addsSquare_72 rfl ⟨rfl, rfl, by rw [show N * N = k by omega, hT], rfl⟩
    · have hd := zdm (N := N) (k := k) (by omega)
      have b1 := (hEk m hm).m (row := row + (k : Int) / N) (col := col + (k : Int) % N) (by omega) (by omega)
      have b2 := (hEk q hq).m (row := row + (k : Int) / N) (col := col + (k : Int) % N) (by omega) (by omega)
      have b3 := zclp_m b1 b2 hx
      have b4 := zclp_in (zsE T m ((row + (k : Int) / N) * 16 + (col + (k : Int) % N)) + x * zsE T q ((row + (k : Int) / N) * 16 + (col + (k : Int) % N)))
      refine x_iload C dX6_addsSquare_13 rfl ?_
      refine x_iload C dX6_addsSquare_15 rfl ?_
      refine x_iload C dX6_addsSquare_17 rfl ?_
      refine x_idiv C dX6_addsSquare_19 (by omega) ?_
      refine x_iadd C dX6_addsSquare_20 ?_
      refine x_istore C dX6_addsSquare_21 (by decide) ?_
      refine x_iload C dX6_addsSquare_23 rfl ?_
      refine x_iload C dX6_addsSquare_25 rfl ?_
      refine x_iload C dX6_addsSquare_27 rfl ?_
      refine x_irem C dX6_addsSquare_29 (by omega) ?_
      refine x_iadd C dX6_addsSquare_30 ?_
      refine x_istore C dX6_addsSquare_31 (by decide) ?_
      refine x_aload_n C dX6_addsSquare_33 rfl ?_
      refine x_iload_n C dX6_addsSquare_34 rfl ?_
      refine x_iload C dX6_addsSquare_35 rfl ?_
      refine x_iload C dX6_addsSquare_37 rfl ?_
      refine x_aload_n C dX6_addsSquare_39 rfl ?_
      refine x_iload_n C dX6_addsSquare_40 rfl ?_
      refine x_iload C dX6_addsSquare_41 rfl ?_
      refine x_iload C dX6_addsSquare_43 rfl ?_
      refine x_callV C dX6_addsSquare_45 (ctX6_get h2 m _ _ hm (by omega) (by omega)) okX6_get lkX6_81 ⟨⟨hM, rfl, rfl⟩, (by omega)⟩ ⟨by decide, rfl, rfl, Nat.le_of_ble_eq_true rfl⟩ rfl (Or.inl ⟨rfl, rfl⟩) ?_
      refine x_iload_n C dX6_addsSquare_48 rfl ?_
      refine x_aload_n C dX6_addsSquare_49 rfl ?_
      refine x_iload_n C dX6_addsSquare_50 rfl ?_
      refine x_iload C dX6_addsSquare_51 rfl ?_
      refine x_iload C dX6_addsSquare_53 rfl ?_
      refine x_callV C dX6_addsSquare_55 (ctX6_get h2 q _ _ hq (by omega) (by omega)) okX6_get lkX6_81 ⟨⟨hM, rfl, rfl⟩, (by omega)⟩ ⟨by decide, rfl, rfl, Nat.le_of_ble_eq_true rfl⟩ rfl (Or.inl ⟨rfl, rfl⟩) ?_
      refine x_imul C dX6_addsSquare_58 ?_
      refine x_iadd C dX6_addsSquare_59 ?_
      refine x_callS C dX6_addsSquare_60 (ctX6_bounded _ b3) okX6_bounded lkX6_134 ⟨by decide, rfl, rfl, Nat.le_of_ble_eq_true rfl⟩ rfl (Or.inl ⟨rfl, rfl⟩) ?_
      refine x_callV C dX6_addsSquare_63 (ctX6_lay h2 m _ _ _ hm (by omega) (by omega)) okX6_lay lkX6_127 ⟨⟨hM, rfl, rfl⟩, (by omega)⟩ ⟨by decide, rfl, rfl, Nat.le_of_ble_eq_true rfl⟩ rfl (Or.inl ⟨rfl, rfl⟩) ?_
      rw [zsu_u]
      rw [eT] at ih
      refine x_iinc C dX6_addsSquare_66 rfl (by decide) ?_
      refine x_goto (tgt := 3) C dX6_addsSquare_69 (by decide) ?_
      exact x_wk C rfl (ih (by omega) (hEk.e hm (by omega) b4))
  refine x_iconst C dX6_addsSquare_0 ?_
  refine x_istore C dX6_addsSquare_1 (by decide) ?_
  have h0 := loop 0 (by omega) hE
  rw [show zaq S m q x row col N 0 = S from rfl, zsu_self hS0] at h0
  exact h0
theorem ctX6_addsBlock {O : Int → Int} (h : isMo σ n S) (hO : σ 155 = zP 1 85 O) (hS : isSo S) (hE : zEn S) (m q x d r c : Int) (hm : 0 ≤ m ∧ m < 4) (hq : 0 ≤ q ∧ q < 4) (hx : -99 ≤ x ∧ x ≤ 99) (hd : 0 ≤ d ∧ d ≤ 3) (hr : 0 ≤ r ∧ r < zp2 d) (hc : 0 ≤ c ∧ c < zp2 d) (hv : d = 3 → ¬ (zsT S q (zmn d r c) = 3 ∧ zsT S m (zmn d r c) = 3)) : zCt 3 0 0 yX6_addsBlock cX6_addsBlock 9 none [zr 145, zi m, zi q, zi x, zi d, zi r, zi c] n σ none n (zsu (zsu σ 146 (zA 1365 (zab S O m q x d r c).1)) 155 (zP 1 85 (zab S O m q x d r c).2)) := by
  obtain ⟨⟨um, L, p, wl, lv, br, bc, hM⟩, hS0, hn⟩ := id h
  have hsm := hS.m hm hd hr hc
  have hsq := hS.m hq hd hr hc
  have hz := zmn_in hd hr hc
  have hzp := zsz_p2 hd
  obtain ⟨N, hN, hN2⟩ := zszN hd
  have hin : ∀ a : Int, 0 ≤ a ∧ a < zp2 d → 0 ≤ a * zsz d ∧ a * zsz d + zsz d ≤ 16 := by
    intro a ha
    have h1 : 0 ≤ a * zsz d := Int.mul_nonneg ha.1 (by omega)
    have h2 : (a + 1) * zsz d ≤ zp2 d * zsz d := Int.mul_le_mul_of_nonneg_right (by omega) (by omega)
    rw [Int.mul_comm (zp2 d), hzp, Int.add_mul] at h2
    omega
  have hr2 := hin r hr
  have hc2 := hin c hc
  have hcast : (((N * N : Nat) : Int)).toNat = N * N := Int.toNat_natCast _
  refine zCt.of (by decide) rfl (Nat.le_of_ble_eq_true rfl) (fun K C => ?_)
  have loop : zsT S q (zmn d r c) = 3 ∧ zsT S m (zmn d r c) = 3 → ∀ k : Nat, k ≤ 4 → K 37 [some (zr 145), some (zi m), some (zi q), some (zi x), some (zi d), some (zi r), some (zi c), some (zi (zsT S q (zmn d r c))), some (zi (k : Int))] [] n (zsu σ 155 (zP 1 85 (zfo (fun T k => zu T (zmn (d + 1) (2 * r + k / 2) (2 * c + k % 2)) 1) O k))) 0 := by
    intro h3
    have hd2 : 0 ≤ d ∧ d ≤ 2 := by
      by_cases c9 : d = 3
      · exact absurd h3 (hv c9)
      · omega
    refine zloop _ 4 (fun k hk ih => ?_)
    have eT : zfo (fun T k => zu T (zmn (d + 1) (2 * r + k / 2) (2 * c + k % 2)) 1) O (k + 1) = zu (zfo (fun T k => zu T (zmn (d + 1) (2 * r + k / 2) (2 * c + k % 2)) 1) O k) (zmn (d + 1) (2 * r + (k : Int) / 2) (2 * c + (k : Int) % 2)) 1 := rfl
    have hab : k = 4 → zab S O m q x d r c = (S, zfo (fun T k => zu T (zmn (d + 1) (2 * r + k / 2) (2 * c + k % 2)) 1) O k) := by
      rintro rfl
      exact if_pos h3
    generalize zfo (fun T k => zu T (zmn (d + 1) (2 * r + k / 2) (2 * c + k % 2)) 1) O k = T at *
    have hM := (zsu_n σ (zP 1 85 T) (show (145 : Int) ≠ 155 by decide)).trans hM
    have hO := zsu_s σ 155 (zP 1 85 T)
    refine x_iload C dX6_addsBlock_37 rfl ?_
    refine x_iconst C dX6_addsBlock_39 ?_
    refine x_icmp_ge (tgt := 80) C dX6_addsBlock_40 (by decide) (by omega) (fun c40 => ?_) (fun c40 => ?_)
    · refine x_goto (tgt := 128) C dX6_addsBlock_80 (by decide) ?_
      exact x_vret (st := []) C dX6_addsBlock_128 rfl ⟨rfl, rfl, by rw [hab (by omega)]; dsimp only; rw [zsu_self hS0], rfl⟩
    · have q1 := zpq (k := k) hd2 hr (by omega)
      have q2 := zpq (k := k) hd2 hc (by omega)
      have q3 := zmn_in (d := d + 1) (by omega) q1.1 q2.2
      refine x_aload_n C dX6_addsBlock_43 rfl ?_
      refine x_getfield C dX6_addsBlock_44 lfX6_38 hM (by omega) rfl ?_
      refine x_iload C dX6_addsBlock_47 rfl ?_
      refine x_iconst C dX6_addsBlock_49 ?_
      refine x_iadd C dX6_addsBlock_50 ?_
      refine x_iconst C dX6_addsBlock_51 ?_
      refine x_iload C dX6_addsBlock_52 rfl ?_
      refine x_imul C dX6_addsBlock_54 ?_
      refine x_iload C dX6_addsBlock_55 rfl ?_
      refine x_iconst C dX6_addsBlock_57 ?_
      refine x_idiv C dX6_addsBlock_58 (by omega) ?_
      refine x_iadd C dX6_addsBlock_59 ?_
      refine x_iconst C dX6_addsBlock_60 ?_
      refine x_iload C dX6_addsBlock_61 rfl ?_
      refine x_imul C dX6_addsBlock_63 ?_
      refine x_iload C dX6_addsBlock_64 rfl ?_
      refine x_iconst C dX6_addsBlock_66 ?_
      refine x_irem C dX6_addsBlock_67 (by omega) ?_
      refine x_iadd C dX6_addsBlock_68 ?_
      refine x_callS C dX6_addsBlock_69 (ctX6_node (d + 1) _ _ (by omega)) okX6_node lkX6_49 ⟨by decide, rfl, rfl, Nat.le_of_ble_eq_true rfl⟩ rfl (Or.inl ⟨rfl, rfl⟩) ?_
      refine x_iconst C dX6_addsBlock_72 ?_
      refine x_bastore C dX6_addsBlock_73 hO (by omega) (by first | decide | omega) ?_
      refine x_nm (fun s73 e73 => ?_)
      have hM := (congrFun e73 145).trans ((zsu_n _ _ (by omega)).trans hM)
      have hO := (congrFun e73 155).trans (zsu_s _ _ _)
      rw [eT] at ih
      rw [e73, zsu_u]
      refine x_iinc C dX6_addsBlock_74 rfl (by decide) ?_
      refine x_goto (tgt := 37) C dX6_addsBlock_77 (by decide) ?_
      exact ih (by omega)
  have rest : ¬ (zsT S q (zmn d r c) = 3 ∧ zsT S m (zmn d r c) = 3) → K 83 [some (zr 145), some (zi m), some (zi q), some (zi x), some (zi d), some (zi r), some (zi c), some (zi (zsT S q (zmn d r c))), none] [] n σ 0 := by
    intro h3
    have h2 := h.s (zu S (341 * m + zmn d r c) 1)
    have hAS : zCt 2 0 0 yX6_addsSquare cX6_addsSquare 10 none [zr 145, zi m, zi q, zi x, zi (r * zsz d), zi (c * zsz d), zi (zsz d)] n (zsu σ 146 (zA 1365 (zu S (341 * m + zmn d r c) 1))) none n (zsu σ 146 (zA 1365 (zaq (zu S (341 * m + zmn d r c) 1) m q x (r * zsz d) (c * zsz d) (zsz d) (zsz d * zsz d).toNat))) := by
      have h5 := ctX6_addsSquare h2 (hE.t 1 hm hz) m q x (r * zsz d) (c * zsz d) N hm hq hx (by omega) (by omega)
      rw [zsu_u] at h5
      rw [hN] at h5 ⊢
      rw [show ((N : Int) * N).toNat = N * N by rw [← Int.natCast_mul]; rfl]
      exact h5
    refine x_iload C dX6_addsBlock_83 rfl ?_
    refine x_if_eq (tgt := 128) C dX6_addsBlock_85 (by decide) (by omega) (fun c85 => ?_) (fun c85 => ?_)
    · have eR : σ = zsu (zsu σ 146 (zA 1365 (zab S O m q x d r c).1)) 155 (zP 1 85 (zab S O m q x d r c).2) := by
        rw [zab, if_neg h3, if_neg (by omega)]
        dsimp only
        rw [zsu_self hS0, zsu_self hO]
      exact x_vret (st := []) C dX6_addsBlock_128 rfl ⟨rfl, rfl, eR, rfl⟩
    · have eR : zsu σ 146 (zA 1365 (zaq (zu S (341 * m + zmn d r c) 1) m q x (r * zsz d) (c * zsz d) (zsz d) (zsz d * zsz d).toNat)) = zsu (zsu σ 146 (zA 1365 (zab S O m q x d r c).1)) 155 (zP 1 85 (zab S O m q x d r c).2) := by
        rw [zab, if_neg h3, if_pos (by omega)]
        dsimp only
        exact (zsu_self ((zsu_n _ _ (by decide)).trans hO)).symm
      refine x_aload_n C dX6_addsBlock_88 rfl ?_
      refine x_iload_n C dX6_addsBlock_89 rfl ?_
      refine x_iload C dX6_addsBlock_90 rfl ?_
      refine x_iload C dX6_addsBlock_92 rfl ?_
      refine x_iload C dX6_addsBlock_94 rfl ?_
      refine x_iconst C dX6_addsBlock_96 ?_
      refine x_callV C dX6_addsBlock_97 (ctX6_sorts h m d _ _ _ hm hd hr hc) okX6_sorts lkX6_96 ⟨⟨hM, rfl, rfl⟩, (by omega)⟩ ⟨by decide, rfl, rfl, Nat.le_of_ble_eq_true rfl⟩ rfl (Or.inl ⟨rfl, rfl⟩) ?_
      refine x_aload_n C dX6_addsBlock_100 rfl ?_
      refine x_iload_n C dX6_addsBlock_101 rfl ?_
      refine x_iload_n C dX6_addsBlock_102 rfl ?_
      refine x_iload_n C dX6_addsBlock_103 rfl ?_
      refine x_iload C dX6_addsBlock_104 rfl ?_
      refine x_iload C dX6_addsBlock_106 rfl ?_
      refine x_callS C dX6_addsBlock_108 (ctX6_sizeAt d hd) okX6_sizeAt lkX6_67 ⟨by decide, rfl, rfl, Nat.le_of_ble_eq_true rfl⟩ rfl (Or.inl ⟨rfl, rfl⟩) ?_
      refine x_imul C dX6_addsBlock_111 ?_
      refine x_iload C dX6_addsBlock_112 rfl ?_
      refine x_iload C dX6_addsBlock_114 rfl ?_
      refine x_callS C dX6_addsBlock_116 (ctX6_sizeAt d hd) okX6_sizeAt lkX6_67 ⟨by decide, rfl, rfl, Nat.le_of_ble_eq_true rfl⟩ rfl (Or.inl ⟨rfl, rfl⟩) ?_
      refine x_imul C dX6_addsBlock_119 ?_
      refine x_iload C dX6_addsBlock_120 rfl ?_
      refine x_callS C dX6_addsBlock_122 (ctX6_sizeAt d hd) okX6_sizeAt lkX6_67 ⟨by decide, rfl, rfl, Nat.le_of_ble_eq_true rfl⟩ rfl (Or.inl ⟨rfl, rfl⟩) ?_
      refine x_callV C dX6_addsBlock_125 hAS okX6_addsSquare lkX6_137 ⟨⟨hM, rfl, rfl⟩, (by omega)⟩ ⟨by decide, rfl, rfl, Nat.le_of_ble_eq_true rfl⟩ rfl (Or.inl ⟨rfl, rfl⟩) ?_
      exact x_vret (st := []) C dX6_addsBlock_128 rfl ⟨rfl, rfl, eR, rfl⟩
  refine x_aload_n C dX6_addsBlock_0 rfl ?_
  refine x_iload_n C dX6_addsBlock_1 rfl ?_
  refine x_iload C dX6_addsBlock_2 rfl ?_
  refine x_iload C dX6_addsBlock_4 rfl ?_
  refine x_iload C dX6_addsBlock_6 rfl ?_
  refine x_callV C dX6_addsBlock_8 (ctX6_sort h q d _ _ hq hd hr hc) okX6_sort lkX6_59 ⟨⟨hM, rfl, rfl⟩, (by omega)⟩ ⟨by decide, rfl, rfl, Nat.le_of_ble_eq_true rfl⟩ rfl (Or.inl ⟨rfl, rfl⟩) ?_
  refine x_istore C dX6_addsBlock_11 (by decide) ?_
  refine x_iload C dX6_addsBlock_13 rfl ?_
  refine x_iconst C dX6_addsBlock_15 ?_
  refine x_icmp_ne (tgt := 83) C dX6_addsBlock_16 (by decide) (by omega) (fun c16 => ?_) (fun c16 => ?_)
  · exact rest (fun z => c16 z.1)
  · refine x_aload_n C dX6_addsBlock_19 rfl ?_
    refine x_iload_n C dX6_addsBlock_20 rfl ?_
    refine x_iload C dX6_addsBlock_21 rfl ?_
    refine x_iload C dX6_addsBlock_23 rfl ?_
    refine x_iload C dX6_addsBlock_25 rfl ?_
    refine x_callV C dX6_addsBlock_27 (ctX6_sort h m d _ _ hm hd hr hc) okX6_sort lkX6_59 ⟨⟨hM, rfl, rfl⟩, (by omega)⟩ ⟨by decide, rfl, rfl, Nat.le_of_ble_eq_true rfl⟩ rfl (Or.inl ⟨rfl, rfl⟩) ?_
    refine x_iconst C dX6_addsBlock_30 ?_
    refine x_icmp_ne (tgt := 83) C dX6_addsBlock_31 (by decide) (by omega) (fun c31 => ?_) (fun c31 => ?_)
    · exact rest (fun z => c31 z.2)
    · refine x_iconst C dX6_addsBlock_34 ?_
      refine x_istore C dX6_addsBlock_35 (by decide) ?_
      have h0 := loop ⟨c16, c31⟩ 0 (by omega)
      rw [show zfo (fun T k => zu T (zmn (d + 1) (2 * r + k / 2) (2 * c + k % 2)) 1) O 0 = O from rfl, zsu_self hO] at h0
      exact h0
end
