section
variable {n : Nat} {σ : zS} {S U P f Rd Va Ot : Int → Int} {um L p lv br bc : Int} {wl : Bool}
theorem zqm_self (hM : σ 145 = zMO um L p wl lv br bc) (hR : σ 152 = zA 341 Rd) (hV : σ 153 = zA 256 Va) (hO : σ 154 = zA 16 Ot) : zqm σ um L p wl lv br bc Rd Va Ot = σ := by
  unfold zqm
  rw [zsu_self hR, zsu_self hV, zsu_self hO, zsu_self hM]
theorem ctX6_fault {R : zRVs} {V : Int → Bool × Int × Int} (h : isKT R V f L) (hM : σ 145 = zMO um L p wl lv br bc) (hP : σ 151 = zA 80 P) (hR : σ 152 = zA 341 Rd) (hV : σ 153 = zA 256 Va) (hO : σ 154 = zA 16 Ot) (hn : 155 ≤ n) (hm : isPm P f L) (Sp : zPS) (hMt : zMt Rd Sp) : ∃ (p2 : Int) (w2 : Bool) (l2 : Nat) (br2 bc2 : Int) (Rd2 Va2 Ot2 : Int → Int), zCt 13 0 0 yX6_fault cX6_fault 1 (some .int) [zr 145] n σ (some (zi (if zwl L (zrd R V f L Sp) = true then -6 else (zrd R V f L Sp).2.p))) n (zqm σ um L p2 w2 l2 br2 bc2 Rd2 Va2 Ot2) ∧ zRk Rd Rd2 := by
  obtain ⟨p2, w2, l2, br2, bc2, Rd2, Va2, Ot2, g1, -, g3⟩ := ctX6_reads (um := um) (p := p) (lv := lv) (br := br) (bc := bc) (w := wl) h hP hn hm Rd Va Ot Sp hMt
  rw [zqm_self hM hR hV hO] at g1
  refine ⟨p2, w2, l2, br2, bc2, Rd2, Va2, Ot2, zCt.of (by decide) rfl (Nat.le_of_ble_eq_true rfl) (fun K C => ?_), g3⟩
  refine x_aload_n C dX6_fault_0 rfl ?_
  refine x_iconst C dX6_fault_1 ?_
  refine x_putI C dX6_fault_2 lfX6_41 lyX6_0 hM (by omega) (Nat.le_of_ble_eq_true rfl) ?_
  refine x_nm (fun s2 e2 => ?_)
  rw [show s2 = σ from e2.trans (zsu_self hM)]
  clear e2 s2
  refine x_aload_n C dX6_fault_5 rfl ?_
  refine x_callV C dX6_fault_6 g1 okX6_reads lkX6_108 ⟨⟨hM, rfl, rfl⟩, (by omega)⟩ ⟨by decide, rfl, rfl, Nat.le_of_ble_eq_true rfl⟩ rfl (Or.inl ⟨rfl, rfl⟩) ?_
  exact x_iret (st := []) C dX6_fault_9 rfl ⟨congrArg (fun z => some (zi z)) (by first | rfl | omega), rfl, rfl, rfl⟩
theorem ctX6_tellF {R : zRVs} {V : Int → Bool × Int × Int} (h : isKT R V f L) (hM : σ 145 = zMO um L p wl lv br bc) (hP : σ 151 = zA 80 P) (hR : σ 152 = zA 341 Rd) (hV : σ 153 = zA 256 Va) (hO : σ 154 = zA 16 Ot) (hn : 155 ≤ n) (hm : isPm P f L) (Sp : zPS) (hMt : zMt Rd Sp) (m : Int) (hm4 : (0 ≤ m ∧ m < 4)) (hw : zwl L (zrd R V f L Sp) = false) (hz : 0 ≤ (zrd R V f L Sp).2.p ∧ (zrd R V f L Sp).2.p ≤ 80) : ∃ (p2 : Int) (w2 : Bool) (l2 : Nat) (br2 bc2 : Int) (Rd2 Va2 Ot2 : Int → Int), zCt 13 0 0 yX6_tell cX6_tell 3 (some .int) [zr 145, zi m] n σ (some (zi (-3))) n (zqm σ um L p2 w2 l2 br2 bc2 Rd2 Va2 Ot2) ∧ zRk Rd Rd2 := by
  obtain ⟨p2, w2, l2, br2, bc2, Rd2, Va2, Ot2, g1, -, g3⟩ := ctX6_reads (um := um) (p := p) (lv := lv) (br := br) (bc := bc) (w := wl) h hP hn hm Rd Va Ot Sp hMt
  rw [zqm_self hM hR hV hO, hw, if_neg (by decide)] at g1
  refine ⟨p2, w2, l2, br2, bc2, Rd2, Va2, Ot2, zCt.of (by decide) rfl (Nat.le_of_ble_eq_true rfl) (fun K C => ?_), g3⟩
  refine x_aload_n C dX6_tell_0 rfl ?_
  refine x_iconst C dX6_tell_1 ?_
  refine x_putI C dX6_tell_2 lfX6_41 lyX6_0 hM (by omega) (Nat.le_of_ble_eq_true rfl) ?_
  refine x_nm (fun s2 e2 => ?_)
  rw [show s2 = σ from e2.trans (zsu_self hM)]
  clear e2 s2
  refine x_iload_n C dX6_tell_5 rfl ?_
  refine x_callS C dX6_tell_6 (ctX6_isMatrix _ (by omega)) okX6_isMatrix lkX6_104 ⟨by decide, rfl, rfl, Nat.le_of_ble_eq_true rfl⟩ rfl (Or.inl ⟨rfl, rfl⟩) ?_
  refine x_ifne_d (tgt := 14) C dX6_tell_9 (by decide) (fun c9 => ?_) (fun c9 => ?_)
  · refine x_aload_n C dX6_tell_14 rfl ?_
    refine x_callV C dX6_tell_15 g1 okX6_reads lkX6_108 ⟨⟨hM, rfl, rfl⟩, (by omega)⟩ ⟨by decide, rfl, rfl, Nat.le_of_ble_eq_true rfl⟩ rfl (Or.inl ⟨rfl, rfl⟩) ?_
    refine x_bipush C dX6_tell_18 (by decide) ?_
    refine x_icmp_eq (tgt := 26) C dX6_tell_20 (by decide) (by omega) (fun c20 => ?_) (fun c20 => ?_)
    · exfalso; omega
    · refine x_bipush C dX6_tell_23 (by decide) ?_
      exact x_iret (st := []) C dX6_tell_25 rfl ⟨congrArg (fun z => some (zi z)) (by first | rfl | omega), rfl, rfl, rfl⟩
  · exfalso; omega
theorem ctX6_tell {R : zRVs} {V : Int → Bool × Int × Int} (h : isKT R V f L) (hM : σ 145 = zMO um L p wl lv br bc) (hS0 : σ 146 = zA 1365 S) (hU : σ 148 = zA 8190 U) (hP : σ 151 = zA 80 P) (hR : σ 152 = zA 341 Rd) (hV : σ 153 = zA 256 Va) (hO : σ 154 = zA 16 Ot) (hn : 155 ≤ n) (hu : 0 ≤ um ∧ um ≤ 6) (hS : isSo S) (hm : isPm P f L) (Sp : zPS) (hMt : zMt Rd Sp) (m : Int) (hm4 : (0 ≤ m ∧ m < 4)) (hw : zwl L (zrd R V f L Sp) = true) (hT : ∀ k, 0 ≤ k → k < 85 → 0 ≤ Rd k ∧ Rd k ≤ 3) : ∃ (p2 : Int) (w2 : Bool) (l2 : Nat) (br2 bc2 : Int) (Rd2 Va2 Ot2 : Int → Int), zMt Rd2 (zrd R V f L Sp).2 ∧ zRk Rd Rd2 ∧ zCt 13 0 0 yX6_tell cX6_tell 3 (some .int) [zr 145, zi m] n σ (some (zi (zrmF (zsT (zseg (zcn S) Rd2 (341 * m) 341) m) 0 0 0))) n (zsu (zsu (zM4 (zqm σ um L p2 w2 l2 br2 bc2 Rd2 Va2 Ot2) (zMO (zu1 um + 1) L p2 w2 l2 br2 bc2) (zcn S) (zU2 um U S)) 145 (zMO (zu1 um + 1) 0 p2 w2 l2 br2 bc2)) 146 (zA 1365 (zseg (zcn S) Rd2 (341 * m) 341))) := by
  obtain ⟨p2, w2, l2, br2, bc2, Rd2, Va2, Ot2, g1, g2, g3⟩ := ctX6_reads (um := um) (p := p) (lv := lv) (br := br) (bc := bc) (w := wl) h hP hn hm Rd Va Ot Sp hMt
  have hw1 : (zrd R V f L Sp).1 = true := by
    unfold zwl at hw
    cases hq : (zrd R V f L Sp).1
    · rw [hq] at hw
      cases hw
    · rfl
  have g2 := g2 hw1
  rw [zqm_self hM hR hV hO, hw, if_pos rfl] at g1
  have hS146 : zqm σ um L p2 w2 l2 br2 bc2 Rd2 Va2 Ot2 146 = zA 1365 S := (zqm_o (by decide)).trans hS0
  have hU148 : zqm σ um L p2 w2 l2 br2 bc2 Rd2 Va2 Ot2 148 = zA 8190 U := (zqm_o (by decide)).trans hU
  have hM145 := zqm_M (σ := σ) (um := um) (L := L) (p := p2) (w := w2) (lv := (l2 : Int)) (br := br2) (bc := bc2) (Rd := Rd2) (Va := Va2) (Ot := Ot2)
  have hR152 := zqm_R (σ := σ) (um := um) (L := L) (p := p2) (w := w2) (lv := (l2 : Int)) (br := br2) (bc := bc2) (Rd := Rd2) (Va := Va2) (Ot := Ot2)
  refine ⟨p2, w2, l2, br2, bc2, Rd2, Va2, Ot2, g2, g3, ?_⟩
  generalize zqm σ um L p2 w2 l2 br2 bc2 Rd2 Va2 Ot2 = τ0 at *
  have hcn : zCt 2 0 0 yX6_counts cX6_counts 1 none [zr 145] n τ0 none n (zM4 τ0 (zMO (zu1 um + 1) L p2 w2 l2 br2 bc2) (zcn S) (zU2 um U S)) := ctX6_counts hM145 hS146 hU148 hn hu
  have h1 := zM4_mo (σ := τ0) (S := zcn S) (U := zU2 um U S) (um := zu1 um + 1) (L := L) (p := p2) (wl := w2) (lv := l2) (br := br2) (bc := bc2) hn
  have hRτ : zM4 τ0 (zMO (zu1 um + 1) L p2 w2 l2 br2 bc2) (zcn S) (zU2 um U S) 152 = zA 341 Rd2 := (zM4_o _ _ _ _ (by decide)).trans hR152
  have hMτ := zM4_m τ0 (zMO (zu1 um + 1) L p2 w2 l2 br2 bc2) (zcn S) (zU2 um U S)
  have hS := hS.cn
  generalize zM4 τ0 (zMO (zu1 um + 1) L p2 w2 l2 br2 bc2) (zcn S) (zU2 um U S) = τ at *
  generalize zcn S = S1 at *
  have hSτ : τ 146 = zA 1365 S1 := h1.2.1
  have hso : isSo (zseg S1 Rd2 (341 * m) 341) := by
    intro m2 k q1 q2 q3 q4
    unfold zsT zseg
    split
    · rw [show 341 * m2 + k - 341 * m = k by omega]
      rcases g3 k q3 q4 with g | g
      · exact g
      · rw [g]
        exact hT k q3 q4
    · exact hS m2 k q1 q2 q3 q4
  have h2 : isMo (zsu τ 145 (zMO (zu1 um + 1) 0 p2 w2 l2 br2 bc2)) n S1 := ⟨⟨_, _, _, _, _, _, _, zsu_s _ _ _⟩, (zsu_n _ _ (by decide)).trans hSτ, hn⟩
  refine zCt.of (by decide) rfl (Nat.le_of_ble_eq_true rfl) (fun K C => ?_)
  have loop : ∀ k : Nat, k ≤ 341 → K 37 [some (zr 145), some (zi m), some (zi (k : Int))] [] n (zsu (zsu τ 145 (zMO (zu1 um + 1) 0 p2 w2 l2 br2 bc2)) 146 (zA 1365 (zseg S1 Rd2 (341 * m) k))) 0 := by
    refine zloop _ 341 (fun k hk ih => ?_)
    have h3 := h2.s (zseg S1 Rd2 (341 * m) k)
    have hroom := ctX6_room (h2.s (zseg S1 Rd2 (341 * m) 341)) hso m hm4
    have hR : zsu (zsu τ 145 (zMO (zu1 um + 1) 0 p2 w2 l2 br2 bc2)) 146 (zA 1365 (zseg S1 Rd2 (341 * m) k)) 152 = zA 341 Rd2 := ((zsu_n _ _ (by decide)).trans (zsu_n _ _ (by decide))).trans hRτ
    obtain ⟨⟨um9, L9, p9, wl9, lv9, br9, bc9, hM⟩, hS0, hn⟩ := id h3
    refine x_iload_n C dX6_tell_37 rfl ?_
    refine x_sipush C dX6_tell_38 (by decide) ?_
    refine x_icmp_ge (tgt := 68) C dX6_tell_41 (by decide) (by omega) (fun c41 => ?_) (fun c41 => ?_)
    · rw [show (k : Int) = 341 by omega]
      refine x_aload_n C dX6_tell_68 rfl ?_
      refine x_iload_n C dX6_tell_69 rfl ?_
      refine x_callV C dX6_tell_70 hroom okX6_room lkX6_78 ⟨⟨hM, rfl, rfl⟩, (by omega)⟩ ⟨by decide, rfl, rfl, Nat.le_of_ble_eq_true rfl⟩ rfl (Or.inl ⟨rfl, rfl⟩) ?_
      exact x_iret (st := []) C dX6_tell_73 rfl ⟨congrArg (fun z => some (zi z)) (by first | rfl | omega), rfl, rfl, rfl⟩
    · refine x_aload_n C dX6_tell_44 rfl ?_
      refine x_getfield C dX6_tell_45 lfX6_7 hM (by omega) rfl ?_
      refine x_sipush C dX6_tell_48 (by decide) ?_
      refine x_iload_n C dX6_tell_51 rfl ?_
      refine x_imul C dX6_tell_52 ?_
      refine x_iload_n C dX6_tell_53 rfl ?_
      refine x_iadd C dX6_tell_54 ?_
      refine x_aload_n C dX6_tell_55 rfl ?_
      refine x_getfield C dX6_tell_56 lfX6_29 hM (by omega) rfl ?_
      refine x_iload_n C dX6_tell_59 rfl ?_
      refine x_iaload C dX6_tell_60 hR (by omega) ?_
      refine x_iastore C dX6_tell_61 hS0 (by omega) ?_
      refine x_nm (fun s61 e61 => ?_)
      have hM := (congrFun e61 145).trans ((zsu_n _ _ (by omega)).trans hM)
      have hS0 := (congrFun e61 146).trans (zsu_s _ _ _)
      have hR := (congrFun e61 152).trans ((zsu_n _ _ (by omega)).trans hR)
      have ih := ih (by omega)
      rw [show ((k + 1 : Nat) : Int) = (k : Int) + 1 by omega, ← zseg_s _ _ _ (show 0 ≤ (k : Int) by omega)] at ih
      rw [e61, zsu_u]
      refine x_iinc C dX6_tell_62 rfl (by decide) ?_
      refine x_goto (tgt := 37) C dX6_tell_65 (by decide) ?_
      exact ih
  refine x_aload_n C dX6_tell_0 rfl ?_
  refine x_iconst C dX6_tell_1 ?_
  refine x_putI C dX6_tell_2 lfX6_41 lyX6_0 hM (by omega) (Nat.le_of_ble_eq_true rfl) ?_
  refine x_nm (fun s2 e2 => ?_)
  rw [show s2 = σ from e2.trans (zsu_self hM)]
  clear e2 s2
  refine x_iload_n C dX6_tell_5 rfl ?_
  refine x_callS C dX6_tell_6 (ctX6_isMatrix _ (by omega)) okX6_isMatrix lkX6_104 ⟨by decide, rfl, rfl, Nat.le_of_ble_eq_true rfl⟩ rfl (Or.inl ⟨rfl, rfl⟩) ?_
  refine x_ifne_d (tgt := 14) C dX6_tell_9 (by decide) (fun c9 => ?_) (fun c9 => ?_)
  · refine x_aload_n C dX6_tell_14 rfl ?_
    refine x_callV C dX6_tell_15 g1 okX6_reads lkX6_108 ⟨⟨hM, rfl, rfl⟩, (by omega)⟩ ⟨by decide, rfl, rfl, Nat.le_of_ble_eq_true rfl⟩ rfl (Or.inl ⟨rfl, rfl⟩) ?_
    have hM := hM145
    refine x_bipush C dX6_tell_18 (by decide) ?_
    refine x_icmp_eq (tgt := 26) C dX6_tell_20 (by decide) (by omega) (fun c20 => ?_) (fun c20 => ?_)
    · refine x_aload_n C dX6_tell_26 rfl ?_
      refine x_callV C dX6_tell_27 hcn okX6_counts lkX6_112 ⟨⟨hM, rfl, rfl⟩, (by omega)⟩ ⟨by decide, rfl, rfl, Nat.le_of_ble_eq_true rfl⟩ rfl (Or.inl ⟨rfl, rfl⟩) ?_
      have hM := hMτ
      refine x_aload_n C dX6_tell_30 rfl ?_
      refine x_iconst C dX6_tell_31 ?_
      refine x_putI C dX6_tell_32 lfX6_115 lyX6_8 hM (by omega) (Nat.le_of_ble_eq_true rfl) ?_
      refine x_nm (fun s32 e32 => ?_)
      have hM := (congrFun e32 145).trans (zsu_s _ _ _)
      refine x_iconst C dX6_tell_35 ?_
      refine x_istore_n C dX6_tell_36 (by decide) ?_
      have l0 := loop 0 (by omega)
      rw [show ((0 : Nat) : Int) = 0 from rfl, zseg_0, zsu_self h2.2.1] at l0
      rw [show s32 = zsu τ 145 (zMO (zu1 um + 1) 0 p2 w2 l2 br2 bc2) from e32]
      exact l0
    · exfalso; omega
  · exfalso; omega
end
