def ztnI (m d N : Int) (T : Int → Int) (k : Int) : Int → Int := if k / N < k % N then zsw T m (zmn d (k / N) (k % N)) (zmn d (k % N) (k / N)) else T
def ztnL (m d N : Int) (S : Int → Int) : Nat → Int → Int := zfo (ztnI m d N) S
def ztnF (m : Int) (S : Int → Int) : Nat → Int → Int := zfo (fun T d => ztnL m d (zp2 d) T (zp2 d * zp2 d).toNat) S
def ztnJ (m : Int) (T : Int → Int) (k : Int) : Int → Int := if k / 16 < k % 16 then zsw T m (85 + k) (85 + 16 * (k % 16) + k / 16) else T
def ztnE (m : Int) (S : Int → Int) : Nat → Int → Int := zfo (ztnJ m) S
/-- a piece of a row gets another row -/
def zseg (A B : Int → Int) (o k : Int) : Int → Int := fun j => if o ≤ j ∧ j < o + k then B (j - o) else A j
theorem zseg_0 (A B : Int → Int) (o : Int) : zseg A B o 0 = A := funext fun j => if_neg (by omega)
theorem zseg_s (A B : Int → Int) (o : Int) {k : Int} (hk : 0 ≤ k) : zu (zseg A B o k) (o + k) (B k) = zseg A B o (k + 1) := by
  funext j
  unfold zu zseg
  by_cases c : j = o + k
  · rw [if_pos c, if_pos (by omega), show j - o = k by omega]
  · rw [if_neg c]
    by_cases c2 : o ≤ j ∧ j < o + k
    · rw [if_pos c2, if_pos (by omega)]
    · rw [if_neg c2, if_neg (by omega)]
section
variable {n : Nat} {σ : zS} {S U : Int → Int} {um L p lv br bc : Int} {wl : Bool}
theorem ctX6_turn (hM : σ 145 = zMO um L p wl lv br bc) (hS0 : σ 146 = zA 1365 S) (hU : σ 148 = zA 8190 U) (hn : 155 ≤ n) (hu : 0 ≤ um ∧ um ≤ 6) (hS : isSo S) (hE : zEn S) (m : Int) (hm : (0 ≤ m ∧ m < 4)) : zCt 13 0 0 yX6_turn cX6_turn 5 (some .int) [zr 145, zi m] n σ (some (zi (zsm (fun k => zsE (ztnE m (ztnF m (zcn S) 4) 256) m (k * 16 + k)) 16 + 100000000))) n (zsu (zM4 σ (zMO (zu1 um + 1) L p wl lv br bc) (zcn S) (zU2 um U S)) 146 (zA 1365 (ztnE m (ztnF m (zcn S) 4) 256))) := by
  have hcn : zCt 2 0 0 yX6_counts cX6_counts 1 none [zr 145] n σ none n (zM4 σ (zMO (zu1 um + 1) L p wl lv br bc) (zcn S) (zU2 um U S)) := ctX6_counts hM hS0 hU hn hu
  have h1 := zM4_mo (σ := σ) (S := zcn S) (U := zU2 um U S) (um := zu1 um + 1) (L := L) (p := p) (wl := wl) (lv := lv) (br := br) (bc := bc) hn
  have hS := hS.cn
  have hE := hE.cn
  generalize (zM4 σ (zMO (zu1 um + 1) L p wl lv br bc) (zcn S) (zU2 um U S)) = τ at *
  generalize zcn S = S1 at *
  obtain ⟨⟨um1, L1, p1, wl1, lv1, br1, bc1, hM1⟩, hS1, hn1⟩ := id h1
  refine zCt.of (by decide) rfl (Nat.le_of_ble_eq_true rfl) (fun K C => ?_)
  have sec : ∀ T : Int → Int, ztnF m S1 4 = T → ∀ k : Nat, k ≤ 256 → K 94 [some (zr 145), some (zi m), some (zi (k : Int)), none, none] [] n (zsu τ 146 (zA 1365 (ztnE m T k))) 0 := by
    intro T0 hT0
    rw [hT0] at C
    refine zloop _ 256 (fun k hk ih => ?_)
    have eK : ztnE m T0 (k + 1) = ztnJ m (ztnE m T0 k) k := rfl
    have eE : k = 256 → ztnE m T0 256 = ztnE m T0 k := by
      rintro rfl
      rfl
    generalize ztnE m T0 k = T at *
    have h2 := h1.s T
    obtain ⟨⟨um, L, p, wl, lv, br, bc, hM⟩, hS0, hn⟩ := id h2
    refine x_iload_n C dX6_turn_94 rfl ?_
    refine x_sipush C dX6_turn_95 (by decide) ?_
    refine x_icmp_ge (tgt := 142) C dX6_turn_98 (by decide) (by omega) (fun c98 => ?_) (fun c98 => ?_)
    · rw [eE (by omega)] at C
      refine x_aload_n C dX6_turn_142 rfl ?_
      refine x_iload_n C dX6_turn_143 rfl ?_
      refine x_callV C dX6_turn_144 (ctX6_trace h2 m hm) okX6_trace lkX6_148 ⟨⟨hM, rfl, rfl⟩, (by omega)⟩ ⟨by decide, rfl, rfl, Nat.le_of_ble_eq_true rfl⟩ rfl (Or.inl ⟨rfl, rfl⟩) ?_
      refine x_ldc (v := 100000000) C dX6_turn_147 kcX6_151 (by decide) ?_
      refine x_iadd C dX6_turn_149 ?_
      exact x_iret (st := []) C dX6_turn_150 rfl ⟨congrArg (fun z => some (zi z)) (by first | rfl | omega), rfl, rfl, rfl⟩
    · refine x_iload_n C dX6_turn_101 rfl ?_
      refine x_bipush C dX6_turn_102 (by decide) ?_
      refine x_idiv C dX6_turn_104 (by omega) ?_
      refine x_iload_n C dX6_turn_105 rfl ?_
      refine x_bipush C dX6_turn_106 (by decide) ?_
      refine x_irem C dX6_turn_108 (by omega) ?_
      refine x_icmp_ge (tgt := 136) C dX6_turn_109 (by decide) (by omega) (fun c109 => ?_) (fun c109 => ?_)
      · have eF : ztnJ m T k = _ := if_neg (by omega)
        have ih := ih (by omega)
        rw [eK, eF] at ih
        refine x_iinc C dX6_turn_136 rfl (by decide) ?_
        refine x_goto (tgt := 94) C dX6_turn_139 (by decide) ?_
        exact ih
      · have eF : ztnJ m T k = _ := if_pos c109
        refine x_aload_n C dX6_turn_112 rfl ?_
        refine x_iload_n C dX6_turn_113 rfl ?_
        refine x_bipush C dX6_turn_114 (by decide) ?_
        refine x_iload_n C dX6_turn_116 rfl ?_
        refine x_iadd C dX6_turn_117 ?_
        refine x_bipush C dX6_turn_118 (by decide) ?_
        refine x_bipush C dX6_turn_120 (by decide) ?_
        refine x_iload_n C dX6_turn_122 rfl ?_
        refine x_bipush C dX6_turn_123 (by decide) ?_
        refine x_irem C dX6_turn_125 (by omega) ?_
        refine x_imul C dX6_turn_126 ?_
        refine x_iadd C dX6_turn_127 ?_
        refine x_iload_n C dX6_turn_128 rfl ?_
        refine x_bipush C dX6_turn_129 (by decide) ?_
        refine x_idiv C dX6_turn_131 (by omega) ?_
        refine x_iadd C dX6_turn_132 ?_
        refine x_callV C dX6_turn_133 (ctX6_swaps h2 m _ _ hm (by omega) (by omega)) okX6_swaps lkX6_144 ⟨⟨hM, rfl, rfl⟩, (by omega)⟩ ⟨by decide, rfl, rfl, Nat.le_of_ble_eq_true rfl⟩ rfl (Or.inl ⟨rfl, rfl⟩) ?_
        rw [zsu_u]
        have ih := ih (by omega)
        rw [eK, eF] at ih
        refine x_iinc C dX6_turn_136 rfl (by decide) ?_
        refine x_goto (tgt := 94) C dX6_turn_139 (by decide) ?_
        exact ih
  have main : ∀ j : Nat, j ≤ 4 → K 20 [some (zr 145), some (zi m), some (zi (j : Int)), none, none] [] n (zsu τ 146 (zA 1365 (ztnF m S1 j))) 0 := by
    refine zloop _ 4 (fun j hj ihj => ?_)
    have eJ : ztnF m S1 (j + 1) = ztnL m j (zp2 j) (ztnF m S1 j) (zp2 j * zp2 j).toNat := rfl
    have eE : j = 4 → ztnF m S1 4 = ztnF m S1 j := by
      rintro rfl
      rfl
    generalize ztnF m S1 j = T0 at *
    have inner : (j : Int) ≤ 3 → ∀ N : Nat, zp2 (j : Int) = N → ∀ k : Nat, k ≤ N * N → K 32 [some (zr 145), some (zi m), some (zi (j : Int)), some (zi (N : Int)), some (zi (k : Int))] [] n (zsu τ 146 (zA 1365 (ztnL m j N T0 k))) 0 := by
      intro hb N hN
      have hN8 : 1 ≤ N ∧ N ≤ 8 := by have := zp2_v (d := (j : Int)) (by omega); omega
      have hNN : N * N ≤ 64 := Nat.mul_le_mul hN8.2 hN8.2
      have hcast : ((N * N : Nat) : Int) = (N : Int) * N := Int.natCast_mul N N
      refine zloop _ (N * N) (fun k hk ih => ?_)
      have eK : ztnL m j N T0 (k + 1) = ztnI m j N (ztnL m j N T0 k) k := rfl
      have eKE : k = N * N → ztnL m j N T0 k = ztnF m S1 (j + 1) := by
        rintro rfl
        rw [eJ, hN, show ((N : Int) * N).toNat = N * N by rw [← hcast]; rfl]
      generalize ztnL m j N T0 k = T at *
      have h2 := h1.s T
      obtain ⟨⟨um, L, p, wl, lv, br, bc, hM⟩, hS0, hn⟩ := id h2
      refine x_iload C dX6_turn_32 rfl ?_
      refine x_iload_n C dX6_turn_34 rfl ?_
      refine x_iload_n C dX6_turn_35 rfl ?_
      refine x_imul C dX6_turn_36 ?_
      refine x_icmp_ge (tgt := 86) C dX6_turn_37 (by decide) (by omega) (fun c37 => ?_) (fun c37 => ?_)
      · rw [eKE (by omega)]
        have ihj := ihj (by omega)
        refine x_iinc C dX6_turn_86 rfl (by decide) ?_
        refine x_goto (tgt := 20) C dX6_turn_89 (by decide) ?_
        exact x_wk C rfl ihj
      · have hd := zdm (N := N) (k := k) (by omega)
        rw [← hN] at hd
        have z1 := zmn_in (d := (j : Int)) (by omega) hd.1 hd.2
        have z2 := zmn_in (d := (j : Int)) (by omega) hd.2 hd.1
        rw [hN] at hd z1 z2
        refine x_iload C dX6_turn_40 rfl ?_
        refine x_iload_n C dX6_turn_42 rfl ?_
        refine x_idiv C dX6_turn_43 (by omega) ?_
        refine x_iload C dX6_turn_44 rfl ?_
        refine x_iload_n C dX6_turn_46 rfl ?_
        refine x_irem C dX6_turn_47 (by omega) ?_
        refine x_icmp_ge (tgt := 80) C dX6_turn_48 (by decide) (by omega) (fun c48 => ?_) (fun c48 => ?_)
        · have eF : ztnI m j N T k = _ := if_neg (by omega)
          have ih := ih (by omega)
          rw [eK, eF] at ih
          refine x_iinc C dX6_turn_80 rfl (by decide) ?_
          refine x_goto (tgt := 32) C dX6_turn_83 (by decide) ?_
          exact ih
        · have eF : ztnI m j N T k = _ := if_pos c48
          refine x_aload_n C dX6_turn_51 rfl ?_
          refine x_iload_n C dX6_turn_52 rfl ?_
          refine x_iload_n C dX6_turn_53 rfl ?_
          refine x_iload C dX6_turn_54 rfl ?_
          refine x_iload_n C dX6_turn_56 rfl ?_
          refine x_idiv C dX6_turn_57 (by omega) ?_
          refine x_iload C dX6_turn_58 rfl ?_
          refine x_iload_n C dX6_turn_60 rfl ?_
          refine x_irem C dX6_turn_61 (by omega) ?_
          refine x_callS C dX6_turn_62 (ctX6_node (j : Int) _ _ (by omega)) okX6_node lkX6_49 ⟨by decide, rfl, rfl, Nat.le_of_ble_eq_true rfl⟩ rfl (Or.inl ⟨rfl, rfl⟩) ?_
          refine x_iload_n C dX6_turn_65 rfl ?_
          refine x_iload C dX6_turn_66 rfl ?_
          refine x_iload_n C dX6_turn_68 rfl ?_
          refine x_irem C dX6_turn_69 (by omega) ?_
          refine x_iload C dX6_turn_70 rfl ?_
          refine x_iload_n C dX6_turn_72 rfl ?_
          refine x_idiv C dX6_turn_73 (by omega) ?_
          refine x_callS C dX6_turn_74 (ctX6_node (j : Int) _ _ (by omega)) okX6_node lkX6_49 ⟨by decide, rfl, rfl, Nat.le_of_ble_eq_true rfl⟩ rfl (Or.inl ⟨rfl, rfl⟩) ?_
          refine x_callV C dX6_turn_77 (ctX6_swaps h2 m _ _ hm (by omega) (by omega)) okX6_swaps lkX6_144 ⟨⟨hM, rfl, rfl⟩, (by omega)⟩ ⟨by decide, rfl, rfl, Nat.le_of_ble_eq_true rfl⟩ rfl (Or.inl ⟨rfl, rfl⟩) ?_
          rw [zsu_u]
          have ih := ih (by omega)
          rw [eK, eF] at ih
          refine x_iinc C dX6_turn_80 rfl (by decide) ?_
          refine x_goto (tgt := 32) C dX6_turn_83 (by decide) ?_
          exact ih
    refine x_iload_n C dX6_turn_20 rfl ?_
    refine x_iconst C dX6_turn_21 ?_
    refine x_icmp_ge (tgt := 92) C dX6_turn_22 (by decide) (by omega) (fun c22 => ?_) (fun c22 => ?_)
    · have s0 := sec T0 (eE (by omega)) 0 (by omega)
      refine x_iconst C dX6_turn_92 ?_
      refine x_istore_n C dX6_turn_93 (by decide) ?_
      exact s0
    · refine x_iconst C dX6_turn_25 ?_
      refine x_iload_n C dX6_turn_26 rfl ?_
      refine x_ishl C dX6_turn_27 (by omega) ?_
      obtain ⟨N, hN, -⟩ := zp2N (d := (j : Int)) (by omega)
      rw [show (1 : Int) * 2 ^ (j : Int).toNat = N by rw [zp2_e (by omega), hN]; omega]
      refine x_istore_n C dX6_turn_28 (by decide) ?_
      refine x_iconst C dX6_turn_29 ?_
      refine x_istore C dX6_turn_30 (by decide) ?_
      exact inner (by omega) N hN 0 (by omega)
  refine x_aload_n C dX6_turn_0 rfl ?_
  refine x_iconst C dX6_turn_1 ?_
  refine x_putI C dX6_turn_2 lfX6_41 lyX6_0 hM (by omega) (Nat.le_of_ble_eq_true rfl) ?_
  refine x_nm (fun s2 e2 => ?_)
  rw [show s2 = σ from e2.trans (zsu_self hM)]
  clear e2 s2
  refine x_iload_n C dX6_turn_5 rfl ?_
  refine x_callS C dX6_turn_6 (ctX6_isMatrix _ (by omega)) okX6_isMatrix lkX6_104 ⟨by decide, rfl, rfl, Nat.le_of_ble_eq_true rfl⟩ rfl (Or.inl ⟨rfl, rfl⟩) ?_
  refine x_ifne_d (tgt := 14) C dX6_turn_9 (by decide) (fun c9 => ?_) (fun c9 => ?_)
  · refine x_aload_n C dX6_turn_14 rfl ?_
    refine x_callV C dX6_turn_15 hcn okX6_counts lkX6_112 ⟨⟨hM, rfl, rfl⟩, (by omega)⟩ ⟨by decide, rfl, rfl, Nat.le_of_ble_eq_true rfl⟩ rfl (Or.inl ⟨rfl, rfl⟩) ?_
    have hM := hM1
    refine x_iconst C dX6_turn_18 ?_
    refine x_istore_n C dX6_turn_19 (by decide) ?_
    have m0 := main 0 (by omega)
    rw [show ztnF m S1 0 = S1 from rfl, zsu_self hS1] at m0
    exact m0
  · exfalso; omega
theorem ctX6_wipe (hM : σ 145 = zMO um L p wl lv br bc) (hn : 155 ≤ n) : zCt 13 0 0 yX6_wipe cX6_wipe 2 (some .int) [zr 145] n σ (some (zi L)) n (zsu σ 145 (zMO um 0 p wl lv br bc)) := by
  refine zCt.of (by decide) rfl (Nat.le_of_ble_eq_true rfl) (fun K C => ?_)
  refine x_aload_n C dX6_wipe_0 rfl ?_
  refine x_iconst C dX6_wipe_1 ?_
  refine x_putI C dX6_wipe_2 lfX6_41 lyX6_0 hM (by omega) (Nat.le_of_ble_eq_true rfl) ?_
  refine x_nm (fun s2 e2 => ?_)
  rw [show s2 = σ from e2.trans (zsu_self hM)]
  clear e2 s2
  refine x_aload_n C dX6_wipe_5 rfl ?_
  refine x_getfield C dX6_wipe_6 lfX6_115 hM (by omega) rfl ?_
  refine x_istore_n C dX6_wipe_9 (by decide) ?_
  refine x_aload_n C dX6_wipe_10 rfl ?_
  refine x_iconst C dX6_wipe_11 ?_
  refine x_putI C dX6_wipe_12 lfX6_115 lyX6_8 hM (by omega) (Nat.le_of_ble_eq_true rfl) ?_
  refine x_nm (fun s12 e12 => ?_)
  have hM := (congrFun e12 145).trans (zsu_s _ _ _)
  refine x_iload_n C dX6_wipe_15 rfl ?_
  exact x_iret (st := []) C dX6_wipe_16 rfl ⟨rfl, rfl, by rw [e12]; rfl, rfl⟩
theorem ctX6_undoE (hM : σ 145 = zMO um L p wl lv br bc) (hn : 155 ≤ n) (hu : um = 0) : zCt 13 0 0 yX6_undo cX6_undo 2 (some .int) [zr 145] n σ (some (zi (-5))) n σ := by
  refine zCt.of (by decide) rfl (Nat.le_of_ble_eq_true rfl) (fun K C => ?_)
  refine x_aload_n C dX6_undo_0 rfl ?_
  refine x_iconst C dX6_undo_1 ?_
  refine x_putI C dX6_undo_2 lfX6_41 lyX6_0 hM (by omega) (Nat.le_of_ble_eq_true rfl) ?_
  refine x_nm (fun s2 e2 => ?_)
  rw [show s2 = σ from e2.trans (zsu_self hM)]
  clear e2 s2
  refine x_aload_n C dX6_undo_5 rfl ?_
  refine x_getfield C dX6_undo_6 lfX6_53 hM (by omega) rfl ?_
  refine x_if_ne (tgt := 15) C dX6_undo_9 (by decide) (by omega) (fun c9 => ?_) (fun c9 => ?_)
  · exfalso; omega
  · refine x_bipush C dX6_undo_12 (by decide) ?_
    exact x_iret (st := []) C dX6_undo_14 rfl ⟨congrArg (fun z => some (zi z)) (by first | rfl | omega), rfl, rfl, rfl⟩
theorem ctX6_undo (hM : σ 145 = zMO um L p wl lv br bc) (hS0 : σ 146 = zA 1365 S) (hU : σ 148 = zA 8190 U) (hn : 155 ≤ n) (hu : 0 < um ∧ um ≤ 6) : zCt 13 0 0 yX6_undo cX6_undo 2 (some .int) [zr 145] n σ (some (zi (um - 1))) n (zsu (zsu σ 145 (zMO (um - 1) L p wl lv br bc)) 146 (zA 1365 (zcpy S (fun j => U (1365 * (um - 1) + j)) 1365))) := by
  have hS00 := hS0
  refine zCt.of (by decide) rfl (Nat.le_of_ble_eq_true rfl) (fun K C => ?_)
  have loop : ∀ k : Nat, k ≤ 1365 → K 27 [some (zr 145), some (zi (k : Int))] [] n (zsu (zsu σ 145 (zMO (um - 1) L p wl lv br bc)) 146 (zA 1365 (zcpy S (fun j => U (1365 * (um - 1) + j)) k))) 0 := by
    refine zloop _ 1365 (fun k hk ih => ?_)
    generalize hT : zcpy S (fun j => U (1365 * (um - 1) + j)) k = T
    have hM := (zsu_n (zsu σ 145 (zMO (um - 1) L p wl lv br bc)) (zA 1365 T) (show (145 : Int) ≠ 146 by decide)).trans (zsu_s σ 145 (zMO (um - 1) L p wl lv br bc))
    have hU := ((zsu_n (zsu σ 145 (zMO (um - 1) L p wl lv br bc)) (zA 1365 T) (show (148 : Int) ≠ 146 by decide)).trans (zsu_n σ (zMO (um - 1) L p wl lv br bc) (show (148 : Int) ≠ 145 by decide))).trans hU
    have hS0 := zsu_s (zsu σ 145 (zMO (um - 1) L p wl lv br bc)) 146 (zA 1365 T)
    refine x_iload_n C dX6_undo_27 rfl ?_
    refine x_sipush C dX6_undo_28 (by decide) ?_
    refine x_icmp_ge (tgt := 61) C dX6_undo_31 (by decide) (by omega) (fun c31 => ?_) (fun c31 => ?_)
    · refine x_aload_n C dX6_undo_61 rfl ?_
      refine x_getfield C dX6_undo_62 lfX6_53 hM (by omega) rfl ?_
      exact x_iret (st := []) C dX6_undo_65 rfl ⟨rfl, rfl, by rw [← hT, show (k : Int) = 1365 by omega], rfl⟩
    · refine x_aload_n C dX6_undo_34 rfl ?_
      refine x_getfield C dX6_undo_35 lfX6_7 hM (by omega) rfl ?_
      refine x_iload_n C dX6_undo_38 rfl ?_
      refine x_aload_n C dX6_undo_39 rfl ?_
      refine x_getfield C dX6_undo_40 lfX6_16 hM (by omega) rfl ?_
      refine x_sipush C dX6_undo_43 (by decide) ?_
      refine x_aload_n C dX6_undo_46 rfl ?_
      refine x_getfield C dX6_undo_47 lfX6_53 hM (by omega) rfl ?_
      refine x_imul C dX6_undo_50 ?_
      refine x_iload_n C dX6_undo_51 rfl ?_
      refine x_iadd C dX6_undo_52 ?_
      refine x_iaload C dX6_undo_53 hU (by omega) ?_
      refine x_iastore C dX6_undo_54 hS0 (by omega) ?_
      refine x_nm (fun s54 e54 => ?_)
      have hM := (congrFun e54 145).trans ((zsu_n _ _ (by omega)).trans hM)
      have hS0 := (congrFun e54 146).trans (zsu_s _ _ _)
      have hU := (congrFun e54 148).trans ((zsu_n _ _ (by omega)).trans hU)
      have ih := ih (by omega)
      rw [show ((k + 1 : Nat) : Int) = (k : Int) + 1 by omega, ← zcpy_s _ _ (show 0 ≤ (k : Int) by omega), hT] at ih
      rw [e54, zsu_u]
      refine x_iinc C dX6_undo_55 rfl (by decide) ?_
      refine x_goto (tgt := 27) C dX6_undo_58 (by decide) ?_
      exact ih
  refine x_aload_n C dX6_undo_0 rfl ?_
  refine x_iconst C dX6_undo_1 ?_
  refine x_putI C dX6_undo_2 lfX6_41 lyX6_0 hM (by omega) (Nat.le_of_ble_eq_true rfl) ?_
  refine x_nm (fun s2 e2 => ?_)
  rw [show s2 = σ from e2.trans (zsu_self hM)]
  clear e2 s2
  refine x_aload_n C dX6_undo_5 rfl ?_
  refine x_getfield C dX6_undo_6 lfX6_53 hM (by omega) rfl ?_
  refine x_if_ne (tgt := 15) C dX6_undo_9 (by decide) (by omega) (fun c9 => ?_) (fun c9 => ?_)
  · refine x_aload_n C dX6_undo_15 rfl ?_
    refine x_dup C dX6_undo_16 rfl ?_
    refine x_getfield C dX6_undo_17 lfX6_53 hM (by omega) rfl ?_
    refine x_iconst C dX6_undo_20 ?_
    refine x_isub C dX6_undo_21 ?_
    refine x_putI C dX6_undo_22 lfX6_53 lyX6_4 hM (by omega) (Nat.le_of_ble_eq_true rfl) ?_
    refine x_nm (fun s22 e22 => ?_)
    have hM := (congrFun e22 145).trans (zsu_s _ _ _)
    have hS0 := (congrFun e22 146).trans ((zsu_n _ _ (by omega)).trans hS0)
    have hU := (congrFun e22 148).trans ((zsu_n _ _ (by omega)).trans hU)
    refine x_iconst C dX6_undo_25 ?_
    refine x_istore_n C dX6_undo_26 (by decide) ?_
    have l0 := loop 0 (by omega)
    rw [show ((0 : Nat) : Int) = 0 from rfl, zcpy_0, zsu_self ((zsu_n σ (zMO (um - 1) L p wl lv br bc) (show (146 : Int) ≠ 145 by decide)).trans hS00)] at l0
    rw [e22]
    exact l0
  · exfalso; omega
theorem ctX6_save {Z H : Int → Int} (h : isMo σ n S) (hS : isSo S) (hZ : σ 149 = zA 2730 Z) (hH : σ 150 = zP 1 2 H) (k : Int) (hk : 0 ≤ k ∧ k < 2) : zCt 13 0 0 yX6_save cX6_save 3 (some .int) [zr 145, zi k] n σ (some (zi (zsm (fun m => zrmF (zsT S m) 0 0 0) 4))) n (zsu (zsu σ 149 (zA 2730 (zseg Z S (1365 * k) 1365))) 150 (zP 1 2 (zu H k 1))) := by
  obtain ⟨⟨um, L, p, wl, lv, br, bc, hM⟩, hS0, hn⟩ := id h
  refine zCt.of (by decide) rfl (Nat.le_of_ble_eq_true rfl) (fun K C => ?_)
  have loop : ∀ j : Nat, j ≤ 1365 → K 19 [some (zr 145), some (zi k), some (zi (j : Int))] [] n (zsu σ 149 (zA 2730 (zseg Z S (1365 * k) j))) 0 := by
    refine zloop _ 1365 (fun j hj ih => ?_)
    generalize hT : zseg Z S (1365 * k) j = T
    have h2 := h.o (k := 149) (by decide) (zA 2730 T)
    have h3 := h2.o (k := 150) (by decide) (zP 1 2 (zu H k 1))
    have hZ := zsu_s σ 149 (zA 2730 T)
    have hH := (zsu_n σ (zA 2730 T) (show (150 : Int) ≠ 149 by decide)).trans hH
    obtain ⟨⟨um, L, p, wl, lv, br, bc, hM⟩, hS0, hn⟩ := id h2
    refine x_iload_n C dX6_save_19 rfl ?_
    refine x_sipush C dX6_save_20 (by decide) ?_
    refine x_icmp_ge (tgt := 50) C dX6_save_23 (by decide) (by omega) (fun c23 => ?_) (fun c23 => ?_)
    · refine x_aload_n C dX6_save_50 rfl ?_
      refine x_getfield C dX6_save_51 lfX6_22 hM (by omega) rfl ?_
      refine x_iload_n C dX6_save_54 rfl ?_
      refine x_iconst C dX6_save_55 ?_
      refine x_bastore C dX6_save_56 hH (by omega) (by first | decide | omega) ?_
      refine x_nm (fun s56 e56 => ?_)
      have hM := (congrFun e56 145).trans ((zsu_n _ _ (by omega)).trans hM)
      have hS0 := (congrFun e56 146).trans ((zsu_n _ _ (by omega)).trans hS0)
      have hZ := (congrFun e56 149).trans ((zsu_n _ _ (by omega)).trans hZ)
      have hH := (congrFun e56 150).trans (zsu_s _ _ _)
      rw [e56]
      obtain ⟨⟨um, L, p, wl, lv, br, bc, hM⟩, hS0, hn⟩ := id h3
      refine x_aload_n C dX6_save_57 rfl ?_
      refine x_callV C dX6_save_58 (ctX6_allRoom h3 hS) okX6_allRoom lkX6_178 ⟨⟨hM, rfl, rfl⟩, (by omega)⟩ ⟨by decide, rfl, rfl, Nat.le_of_ble_eq_true rfl⟩ rfl (Or.inl ⟨rfl, rfl⟩) ?_
      exact x_iret (st := []) C dX6_save_61 rfl ⟨rfl, rfl, by rw [← hT, show (j : Int) = 1365 by omega], rfl⟩
    · refine x_aload_n C dX6_save_26 rfl ?_
      refine x_getfield C dX6_save_27 lfX6_19 hM (by omega) rfl ?_
      refine x_sipush C dX6_save_30 (by decide) ?_
      refine x_iload_n C dX6_save_33 rfl ?_
      refine x_imul C dX6_save_34 ?_
      refine x_iload_n C dX6_save_35 rfl ?_
      refine x_iadd C dX6_save_36 ?_
      refine x_aload_n C dX6_save_37 rfl ?_
      refine x_getfield C dX6_save_38 lfX6_7 hM (by omega) rfl ?_
      refine x_iload_n C dX6_save_41 rfl ?_
      refine x_iaload C dX6_save_42 hS0 (by omega) ?_
      refine x_iastore C dX6_save_43 hZ (by omega) ?_
      refine x_nm (fun s43 e43 => ?_)
      have hM := (congrFun e43 145).trans ((zsu_n _ _ (by omega)).trans hM)
      have hS0 := (congrFun e43 146).trans ((zsu_n _ _ (by omega)).trans hS0)
      have hZ := (congrFun e43 149).trans (zsu_s _ _ _)
      have hH := (congrFun e43 150).trans ((zsu_n _ _ (by omega)).trans hH)
      have ih := ih (by omega)
      rw [show ((j + 1 : Nat) : Int) = (j : Int) + 1 by omega, ← zseg_s _ _ _ (show 0 ≤ (j : Int) by omega), hT] at ih
      rw [e43, zsu_u]
      refine x_iinc C dX6_save_44 rfl (by decide) ?_
      refine x_goto (tgt := 19) C dX6_save_47 (by decide) ?_
      exact ih
  refine x_aload_n C dX6_save_0 rfl ?_
  refine x_iconst C dX6_save_1 ?_
  refine x_putI C dX6_save_2 lfX6_41 lyX6_0 hM (by omega) (Nat.le_of_ble_eq_true rfl) ?_
  refine x_nm (fun s2 e2 => ?_)
  rw [show s2 = σ from e2.trans (zsu_self hM)]
  clear e2 s2
  refine x_iload_n C dX6_save_5 rfl ?_
  refine x_iconst C dX6_save_6 ?_
  refine x_iconst C dX6_save_7 ?_
  refine x_callS C dX6_save_8 (ctX6_in _ _ _ (by omega) (by omega) (by omega)) okX6_in lkX6_45 ⟨by decide, rfl, rfl, Nat.le_of_ble_eq_true rfl⟩ rfl (Or.inl ⟨rfl, rfl⟩) ?_
  refine x_ifne_d (tgt := 17) C dX6_save_11 (by decide) (fun c11 => ?_) (fun c11 => ?_)
  · refine x_iconst C dX6_save_17 ?_
    refine x_istore_n C dX6_save_18 (by decide) ?_
    have l0 := loop 0 (by omega)
    rw [show ((0 : Nat) : Int) = 0 from rfl, zseg_0, zsu_self hZ] at l0
    exact l0
  · exfalso; omega
theorem ctX6_restoreN {H : Int → Int} (hM : σ 145 = zMO um L p wl lv br bc) (hn : 155 ≤ n) (hH : σ 150 = zP 1 2 H) (k : Int) (hk : 0 ≤ k ∧ k < 2) (hs : H k = 0) : zCt 13 0 0 yX6_restore cX6_restore 3 (some .int) [zr 145, zi k] n σ (some (zi (-5))) n σ := by
  refine zCt.of (by decide) rfl (Nat.le_of_ble_eq_true rfl) (fun K C => ?_)
  refine x_aload_n C dX6_restore_0 rfl ?_
  refine x_iconst C dX6_restore_1 ?_
  refine x_putI C dX6_restore_2 lfX6_41 lyX6_0 hM (by omega) (Nat.le_of_ble_eq_true rfl) ?_
  refine x_nm (fun s2 e2 => ?_)
  rw [show s2 = σ from e2.trans (zsu_self hM)]
  clear e2 s2
  refine x_iload_n C dX6_restore_5 rfl ?_
  refine x_iconst C dX6_restore_6 ?_
  refine x_iconst C dX6_restore_7 ?_
  refine x_callS C dX6_restore_8 (ctX6_in _ _ _ (by omega) (by omega) (by omega)) okX6_in lkX6_45 ⟨by decide, rfl, rfl, Nat.le_of_ble_eq_true rfl⟩ rfl (Or.inl ⟨rfl, rfl⟩) ?_
  refine x_ifne_d (tgt := 17) C dX6_restore_11 (by decide) (fun c11 => ?_) (fun c11 => ?_)
  · refine x_aload_n C dX6_restore_17 rfl ?_
    refine x_getfield C dX6_restore_18 lfX6_22 hM (by omega) rfl ?_
    refine x_iload_n C dX6_restore_21 rfl ?_
    refine x_baload C dX6_restore_22 hH (by omega) ?_
    refine x_if_ne (tgt := 29) C dX6_restore_23 (by decide) (by omega) (fun c23 => ?_) (fun c23 => ?_)
    · exact absurd hs c23
    · refine x_bipush C dX6_restore_26 (by decide) ?_
      exact x_iret (st := []) C dX6_restore_28 rfl ⟨congrArg (fun z => some (zi z)) (by first | rfl | omega), rfl, rfl, rfl⟩
  · exfalso; omega
theorem ctX6_restore {Z H : Int → Int} (hM : σ 145 = zMO um L p wl lv br bc) (hS0 : σ 146 = zA 1365 S) (hU : σ 148 = zA 8190 U) (hn : 155 ≤ n) (hu : 0 ≤ um ∧ um ≤ 6) (hZ : σ 149 = zA 2730 Z) (hH : σ 150 = zP 1 2 H) (k : Int) (hk : 0 ≤ k ∧ k < 2) (hs : H k = 1) (hS2 : isSo (zcpy S (fun j => Z (1365 * k + j)) 1365)) : zCt 13 0 0 yX6_restore cX6_restore 3 (some .int) [zr 145, zi k] n σ (some (zi (zsm (fun m => zrmF (zsT (zcpy S (fun j => Z (1365 * k + j)) 1365) m) 0 0 0) 4))) n (zsu (zsu (zsu σ 148 (zA 8190 (zU2 um U S))) 145 (zMO (zu1 um + 1) L p wl lv br bc)) 146 (zA 1365 (zcpy S (fun j => Z (1365 * k + j)) 1365))) := by
  have hR := ctX6_records hM hS0 hU hn hu
  have hM1 := zsu_s (zsu σ 148 (zA 8190 (zU2 um U S))) 145 (zMO (zu1 um + 1) L p wl lv br bc)
  have hZ1 : zsu (zsu σ 148 (zA 8190 (zU2 um U S))) 145 (zMO (zu1 um + 1) L p wl lv br bc) 149 = zA 2730 Z := ((zsu_n _ _ (by decide)).trans (zsu_n _ _ (by decide))).trans hZ
  have hH1 : zsu (zsu σ 148 (zA 8190 (zU2 um U S))) 145 (zMO (zu1 um + 1) L p wl lv br bc) 150 = zP 1 2 H := ((zsu_n _ _ (by decide)).trans (zsu_n _ _ (by decide))).trans hH
  have hS1 : zsu (zsu σ 148 (zA 8190 (zU2 um U S))) 145 (zMO (zu1 um + 1) L p wl lv br bc) 146 = zA 1365 S := ((zsu_n _ _ (by decide)).trans (zsu_n _ _ (by decide))).trans hS0
  generalize zsu (zsu σ 148 (zA 8190 (zU2 um U S))) 145 (zMO (zu1 um + 1) L p wl lv br bc) = τ at *
  have h1 : isMo τ n S := ⟨⟨_, _, _, _, _, _, _, hM1⟩, hS1, hn⟩
  refine zCt.of (by decide) rfl (Nat.le_of_ble_eq_true rfl) (fun K C => ?_)
  have loop : ∀ j : Nat, j ≤ 1365 → K 35 [some (zr 145), some (zi k), some (zi (j : Int))] [] n (zsu τ 146 (zA 1365 (zcpy S (fun j => Z (1365 * k + j)) j))) 0 := by
    refine zloop _ 1365 (fun j hj ih => ?_)
    generalize hT : zcpy S (fun j => Z (1365 * k + j)) j = T
    have h2 := h1.s T
    have hZ := (zsu_n τ (zA 1365 T) (show (149 : Int) ≠ 146 by decide)).trans hZ1
    have hH := (zsu_n τ (zA 1365 T) (show (150 : Int) ≠ 146 by decide)).trans hH1
    obtain ⟨⟨um, L, p, wl, lv, br, bc, hM⟩, hS0, hn⟩ := id h2
    refine x_iload_n C dX6_restore_35 rfl ?_
    refine x_sipush C dX6_restore_36 (by decide) ?_
    refine x_icmp_ge (tgt := 66) C dX6_restore_39 (by decide) (by omega) (fun c39 => ?_) (fun c39 => ?_)
    · rw [show (j : Int) = 1365 by omega] at hT
      rw [hT] at hS2 C
      refine x_aload_n C dX6_restore_66 rfl ?_
      refine x_callV C dX6_restore_67 (ctX6_allRoom h2 hS2) okX6_allRoom lkX6_178 ⟨⟨hM, rfl, rfl⟩, (by omega)⟩ ⟨by decide, rfl, rfl, Nat.le_of_ble_eq_true rfl⟩ rfl (Or.inl ⟨rfl, rfl⟩) ?_
      exact x_iret (st := []) C dX6_restore_70 rfl ⟨congrArg (fun z => some (zi z)) (by first | rfl | omega), rfl, rfl, rfl⟩
    · refine x_aload_n C dX6_restore_42 rfl ?_
      refine x_getfield C dX6_restore_43 lfX6_7 hM (by omega) rfl ?_
      refine x_iload_n C dX6_restore_46 rfl ?_
      refine x_aload_n C dX6_restore_47 rfl ?_
      refine x_getfield C dX6_restore_48 lfX6_19 hM (by omega) rfl ?_
      refine x_sipush C dX6_restore_51 (by decide) ?_
      refine x_iload_n C dX6_restore_54 rfl ?_
      refine x_imul C dX6_restore_55 ?_
      refine x_iload_n C dX6_restore_56 rfl ?_
      refine x_iadd C dX6_restore_57 ?_
      refine x_iaload C dX6_restore_58 hZ (by omega) ?_
      refine x_iastore C dX6_restore_59 hS0 (by omega) ?_
      refine x_nm (fun s59 e59 => ?_)
      have hM := (congrFun e59 145).trans ((zsu_n _ _ (by omega)).trans hM)
      have hH := (congrFun e59 150).trans ((zsu_n _ _ (by omega)).trans hH)
      have hS0 := (congrFun e59 146).trans (zsu_s _ _ _)
      have hZ := (congrFun e59 149).trans ((zsu_n _ _ (by omega)).trans hZ)
      have ih := ih (by omega)
      rw [show ((j + 1 : Nat) : Int) = (j : Int) + 1 by omega, ← zcpy_s _ _ (show 0 ≤ (j : Int) by omega), hT] at ih
      rw [e59, zsu_u]
      refine x_iinc C dX6_restore_60 rfl (by decide) ?_
      refine x_goto (tgt := 35) C dX6_restore_63 (by decide) ?_
      exact ih
  refine x_aload_n C dX6_restore_0 rfl ?_
  refine x_iconst C dX6_restore_1 ?_
  refine x_putI C dX6_restore_2 lfX6_41 lyX6_0 hM (by omega) (Nat.le_of_ble_eq_true rfl) ?_
  refine x_nm (fun s2 e2 => ?_)
  rw [show s2 = σ from e2.trans (zsu_self hM)]
  clear e2 s2
  refine x_iload_n C dX6_restore_5 rfl ?_
  refine x_iconst C dX6_restore_6 ?_
  refine x_iconst C dX6_restore_7 ?_
  refine x_callS C dX6_restore_8 (ctX6_in _ _ _ (by omega) (by omega) (by omega)) okX6_in lkX6_45 ⟨by decide, rfl, rfl, Nat.le_of_ble_eq_true rfl⟩ rfl (Or.inl ⟨rfl, rfl⟩) ?_
  refine x_ifne_d (tgt := 17) C dX6_restore_11 (by decide) (fun c11 => ?_) (fun c11 => ?_)
  · refine x_aload_n C dX6_restore_17 rfl ?_
    refine x_getfield C dX6_restore_18 lfX6_22 hM (by omega) rfl ?_
    refine x_iload_n C dX6_restore_21 rfl ?_
    refine x_baload C dX6_restore_22 hH (by omega) ?_
    refine x_if_ne (tgt := 29) C dX6_restore_23 (by decide) (by omega) (fun c23 => ?_) (fun c23 => ?_)
    · refine x_aload_n C dX6_restore_29 rfl ?_
      refine x_callV C dX6_restore_30 hR okX6_records lkX6_56 ⟨⟨hM, rfl, rfl⟩, (by omega)⟩ ⟨by decide, rfl, rfl, Nat.le_of_ble_eq_true rfl⟩ rfl (Or.inl ⟨rfl, rfl⟩) ?_
      refine x_iconst C dX6_restore_33 ?_
      refine x_istore_n C dX6_restore_34 (by decide) ?_
      have l0 := loop 0 (by omega)
      rw [show ((0 : Nat) : Int) = 0 from rfl, zcpy_0, zsu_self hS1] at l0
      exact l0
    · exfalso; omega
  · exfalso; omega
end
