theorem zpm_ag (σ : zS) (L : Int) (S : zPS) : zAg σ (zpm σ L S) 103 110 := fun k hk => zpm_o σ L S (by omega)
theorem zpm_Pd {σ : zS} {n : Nat} {f : Int → Int} {L : Int} (hb : isPb σ n f L) {S : zPS} (h : isS S) : isPd (zpm σ L S) n f L S.p S.x S.e S.t S.u S.v S.w :=
  ⟨zpm_0 σ L S, (zpm_o σ L S (by omega)).trans hb.2.1, zpm_M hb S, ⟨zpm_u σ L S, zpm_v σ L S, zpm_w σ L S⟩, h.2, hb.2.2.1⟩
theorem isPd.self {σ : zS} {n : Nat} {f : Int → Int} {L p x : Int} {te tt u v w : Int → Int} (h : isPd σ n f L p x te tt u v w) : zpm σ L (zps p x te tt u v w) = σ :=
  zpm_self h.1 h.2.2.1 h.2.2.2.1.1 h.2.2.2.1.2.1 h.2.2.2.1.2.2
section
variable {n : Nat} {σ : zS} {X : zSV} {o l : Int} {Hs : Int → zSV} {Sl : Int → zSV × Bool} {f : Int → Int} {L : Int}
theorem RepC.pad (R : RepC σ n X o l Hs Sl f L) {σ2 : zS} (hg : zAg σ σ2 103 110) {f2 : Int → Int} {L2 : Int} (hp : isPad σ2 n f2 L2) : RepC σ2 n X o l Hs Sl f2 L2 := by
  obtain ⟨h1, h2, h3, h4, h5, ⟨de, dt, h6⟩, z, h7⟩ := R
  exact ⟨h1.ag hg (by decide), ⟨h2.1.ag hg (by decide), h2.2⟩, ⟨h3.1.ag hg (by decide), h3.2⟩, ⟨h4.1.ag hg (by decide), h4.2⟩, hp, ⟨de, dt, h6.ag hg (by decide)⟩, z, (hg 114 (by decide)).trans h7⟩
/-- the reading of the whole text -/
def zrd (R : zRVs) (V : Int → Bool × Int × Int) (f : Int → Int) (L : Int) (S : zPS) : Bool × zPS := zRB R V f L 3 0 0 0 (S.sp 0 S.x)
def zwl (L : Int) (T : Bool × zPS) : Bool := T.1 && decide (T.2.p = L)
theorem zrd_is {R : zRVs} {V : Int → Bool × Int × Int} (h : isKT R V f L) (hb : isPb σ n f L) {S : zPS} (hS : zBd S.e ∧ zSt S.t) : isS (zrd R V f L S).2 :=
  zRB_is h hb 3 0 0 0 (S.sp 0 S.x) ⟨(by decide : (0 : Int) ≤ 0 ∧ (0 : Int) ≤ 80), hS⟩ (by decide) (by decide)
theorem ctX2_read {R : zRVs} {V : Int → Bool × Int × Int} (h : isKT R V f L) (hb : isPb σ n f L) (S : zPS) (hS : zBd S.e ∧ zSt S.t) : zCt 12 0 0 yX2_read cX2_read 1 (some .boolean) [zr 103] n (zpm σ L S) (some (zi (zb (zwl L (zrd R V f L S))))) n (zpm σ L (zrd R V f L S).2) := by
  have hn := hb.2.2.2.2
  have hP0 := zpm_0 σ L S
  have hS0 : isS (S.sp 0 S.x) := ⟨(by decide : (0 : Int) ≤ 0 ∧ (0 : Int) ≤ 80), hS⟩
  have hS1 := zrd_is h hb hS
  have hc := ctX2_readBlock h hb 3 (S.sp 0 S.x) 0 0 0 hS0 (by decide) (by decide) (by decide) (by decide)
  rw [show zRB R V f L 3 0 0 0 (S.sp 0 S.x) = zrd R V f L S from rfl] at hc
  have hL := hb.2.2.1
  refine zCt.of (by decide) rfl (Nat.le_of_ble_eq_true rfl) (fun K C => ?_)
  refine x_aload_n C dX2_read_0 rfl ?_
  refine x_iconst C dX2_read_1 ?_
  refine x_putI C dX2_read_2 lfX2_36 lyX2_6 hP0 (by omega) (Nat.le_of_ble_eq_true rfl) ?_
  refine x_nm (fun s2 e2 => ?_)
  have hP0 := (congrFun e2 103).trans (zsu_s _ _ _)
  obtain rfl : s2 = zpm σ L (S.sp 0 S.x) := e2.trans (zpm_sp σ L S 0 S.x)
  have hP0 := zpm_0 σ L (S.sp 0 S.x)
  refine x_aload_n C dX2_read_5 rfl ?_
  refine x_iconst C dX2_read_6 ?_
  refine x_iconst C dX2_read_7 ?_
  refine x_iconst C dX2_read_8 ?_
  refine x_callV C dX2_read_9 hc okX2_readBlock lkX2_42 ⟨⟨hP0, rfl, rfl⟩, (by omega)⟩ ⟨by decide, rfl, rfl, Nat.le_of_ble_eq_true rfl⟩ rfl (Or.inl ⟨rfl, rfl⟩) ?_
  refine x_ifeq_b (tgt := 30) C dX2_read_12 (by decide) (fun c12 => ?_) (fun c12 => ?_)
  · have eR : zwl L (zrd R V f L S) = false := by rw [zwl, c12]; rfl
    refine x_iconst C dX2_read_30 ?_
    exact x_zret (st := []) (b := false) C dX2_read_31 rfl ⟨congrArg (fun z => some (zi (zb z))) eR.symm, rfl, rfl, rfl⟩
  · have hP0 := zpm_0 σ L (zrd R V f L S).2
    have hS2 := hS1.1
    refine x_aload_n C dX2_read_15 rfl ?_
    refine x_getfield C dX2_read_16 lfX2_36 hP0 (by omega) rfl ?_
    refine x_aload_n C dX2_read_19 rfl ?_
    refine x_getfield C dX2_read_20 lfX2_15 hP0 (by omega) rfl ?_
    refine x_icmp_ne (tgt := 30) C dX2_read_23 (by decide) (by omega) (fun c23 => ?_) (fun c23 => ?_)
    · have eR : zwl L (zrd R V f L S) = false := by rw [zwl, c12, decide_eq_false (by omega)]; rfl
      refine x_iconst C dX2_read_30 ?_
      exact x_zret (st := []) (b := false) C dX2_read_31 rfl ⟨congrArg (fun z => some (zi (zb z))) eR.symm, rfl, rfl, rfl⟩
    · have eR : zwl L (zrd R V f L S) = true := by rw [zwl, c12, decide_eq_true (by omega)]; rfl
      refine x_iconst C dX2_read_26 ?_
      refine x_goto (tgt := 31) C dX2_read_27 (by decide) ?_
      exact x_zret (st := []) (b := true) C dX2_read_31 rfl ⟨congrArg (fun z => some (zi (zb z))) eR.symm, rfl, rfl, rfl⟩
theorem isPb.of {p x : Int} {te tt u v w : Int → Int} (hP : isPd σ n f L p x te tt u v w) (hf : ∀ j, 0 ≤ f j ∧ f j < 65536) (hn : 144 ≤ n) : isPb σ n f L := ⟨hP.2.2.1.1, hP.2.1, hP.2.2.2.2.2, hf, hn⟩
theorem ctX5_tellE (m : Int) (hm : -2147483648 ≤ m ∧ m < 2147483648) {r : Int} (hE : r = -1 ∧ ¬ (0 ≤ m ∧ m < 4)) : zCt 13 0 0 yX5_tell cX5_tell 2 (some .int) [zr 1, zi m] n σ (some (zi r)) n σ := by
  refine zCt.of (by decide) rfl (Nat.le_of_ble_eq_true rfl) (fun K C => ?_)
  refine x_iload_n C dX5_tell_0 rfl ?_
  refine x_callS C dX5_tell_1 (ctX5_isMatrix _ (by omega)) okX5_isMatrix lkX5_48 ⟨by decide, rfl, rfl, Nat.le_of_ble_eq_true rfl⟩ rfl (Or.inl ⟨rfl, rfl⟩) ?_
  refine x_ifne_d (tgt := 9) C dX5_tell_4 (by decide) (fun c4 => ?_) (fun c4 => ?_)
  · exact absurd c4 hE.2
  · refine x_iconst C dX5_tell_7 ?_
    exact x_iret (st := []) C dX5_tell_8 rfl ⟨congrArg (fun z => some (zi z)) (by first | rfl | omega), rfl, rfl, rfl⟩
theorem ctX5_tellF (R : RepC σ n X o l Hs Sl f L) {Rv : zRVs} {V : Int → Bool × Int × Int} (h : isKT Rv V f L) {S : zPS} (hP : isPd σ n f L S.p S.x S.e S.t S.u S.v S.w) (hS : zBd S.e ∧ zSt S.t) (hf : ∀ j, 0 ≤ f j ∧ f j < 65536) (m : Int) (hm : 0 ≤ m ∧ m < 4) (hw : zwl L (zrd Rv V f L S) = false) : zCt 13 0 0 yX5_tell cX5_tell 2 (some .int) [zr 1, zi m] n σ (some (zi (-3))) n (zpm σ L (zrd Rv V f L S).2) := by
  have hB := R.1
  have hB0 := hB.1
  have hn := hB.2
  have hP0 := hP.1
  have hb := isPb.of hP hf hn
  have hc := ctX2_read h hb S hS
  rw [show zpm σ L S = σ from hP.self, hw] at hc
  refine zCt.of (by decide) rfl (Nat.le_of_ble_eq_true rfl) (fun K C => ?_)
  refine x_iload_n C dX5_tell_0 rfl ?_
  refine x_callS C dX5_tell_1 (ctX5_isMatrix _ (by omega)) okX5_isMatrix lkX5_48 ⟨by decide, rfl, rfl, Nat.le_of_ble_eq_true rfl⟩ rfl (Or.inl ⟨rfl, rfl⟩) ?_
  refine x_ifne_d (tgt := 9) C dX5_tell_4 (by decide) (fun c4 => ?_) (fun c4 => ?_)
  · refine x_aload_n C dX5_tell_9 rfl ?_
    refine x_getfield C dX5_tell_10 lfX5_32 hB0 (by omega) rfl ?_
    refine x_callV C dX5_tell_13 hc okX2_read lkX5_52 ⟨⟨hP0, rfl, rfl⟩, (by omega)⟩ ⟨by decide, rfl, rfl, Nat.le_of_ble_eq_true rfl⟩ rfl (Or.inl ⟨rfl, rfl⟩) ?_
    refine x_ifne_b (tgt := 22) C dX5_tell_16 (by decide) (fun c16 => ?_) (fun c16 => ?_)
    · exact absurd c16 (by decide)
    · refine x_bipush C dX5_tell_19 (by decide) ?_
      exact x_iret (st := []) C dX5_tell_21 rfl ⟨congrArg (fun z => some (zi z)) (by first | rfl | omega), rfl, rfl, rfl⟩
  · exact absurd hm c4
theorem ctX5_tell (R : RepC σ n X o l Hs Sl f L) {Rv : zRVs} {V : Int → Bool × Int × Int} (h : isKT Rv V f L) {S : zPS} (hP : isPd σ n f L S.p S.x S.e S.t S.u S.v S.w) (hS : zBd S.e ∧ zSt S.t) (hf : ∀ j, 0 ≤ f j ∧ f j < 65536) (m : Int) (hm : 0 ≤ m ∧ m < 4) (hw : zwl L (zrd Rv V f L S) = true) : zCt 13 0 0 yX5_tell cX5_tell 2 (some .int) [zr 1, zi m] n σ (some (zi (zroom (zrd Rv V f L S).2.t 3 0 0))) n (zsu (sM (zbc (zpm σ L (zrd Rv V f L S).2) X o l) (2 + 2 + 3 * m) (zrd Rv V f L S).2.e (zrd Rv V f L S).2.t) 103 (zPO 0 (zrd Rv V f L S).2.p (zrd Rv V f L S).2.x)) := by
  have hB := R.1
  have hB0 := hB.1
  have hn := hB.2
  have hP0 := hP.1
  have hb := isPb.of hP hf hn
  have hc := ctX2_read h hb S hS
  have hS1 := zrd_is h hb hS
  rw [show zpm σ L S = σ from hP.self, hw] at hc
  generalize (zrd Rv V f L S).2 = T at hc hS1 ⊢
  have hP1 := zpm_Pd hb hS1
  have R1 := R.pad (zpm_ag σ L T) ⟨_, _, _, _, _, _, _, hP1⟩
  obtain ⟨hBr, ⟨hSr, hokr⟩, ⟨hHr, -⟩, -⟩ := R1
  refine zCt.of (by decide) rfl (Nat.le_of_ble_eq_true rfl) (fun K C => ?_)
  refine x_iload_n C dX5_tell_0 rfl ?_
  refine x_callS C dX5_tell_1 (ctX5_isMatrix _ (by omega)) okX5_isMatrix lkX5_48 ⟨by decide, rfl, rfl, Nat.le_of_ble_eq_true rfl⟩ rfl (Or.inl ⟨rfl, rfl⟩) ?_
  refine x_ifne_d (tgt := 9) C dX5_tell_4 (by decide) (fun c4 => ?_) (fun c4 => ?_)
  · refine x_aload_n C dX5_tell_9 rfl ?_
    refine x_getfield C dX5_tell_10 lfX5_32 hB0 (by omega) rfl ?_
    refine x_callV C dX5_tell_13 hc okX2_read lkX5_52 ⟨⟨hP0, rfl, rfl⟩, (by omega)⟩ ⟨by decide, rfl, rfl, Nat.le_of_ble_eq_true rfl⟩ rfl (Or.inl ⟨rfl, rfl⟩) ?_
    refine x_ifne_b (tgt := 22) C dX5_tell_16 (by decide) (fun c16 => ?_) (fun c16 => ?_)
    · have hB0 := hBr.1
      refine x_aload_n C dX5_tell_22 rfl ?_
      refine x_callV C dX5_tell_23 (ctX5_beginChange hBr hHr hSr) okX5_beginChange lkX5_56 ⟨⟨hB0, rfl, rfl⟩, (by omega)⟩ ⟨by decide, rfl, rfl, Nat.le_of_ble_eq_true rfl⟩ rfl (Or.inl ⟨rfl, rfl⟩) ?_
      obtain ⟨hH1, hS1r⟩ := zbc_is hHr hSr
      have hg1 := zbc_ag (σ := zpm σ L T) (X := X) (o := o) (l := l)
      obtain ⟨hN0, hN1, hin, hmat⟩ := id hS1r
      have hB1 := hBr.ag hg1 (by decide)
      have hB0 := hB1.1
      have hmm := hmat m hm.1 hm.2
      have hA := hmm.1
      have hP2 := hP1.ag hg1 (by decide)
      have hP0 := hP2.1
      have hT := hP2.2.2.1.1
      refine x_aload_n C dX5_tell_26 rfl ?_
      refine x_getfield C dX5_tell_27 lfX5_12 hB0 (by omega) rfl ?_
      refine x_getfieldN C dX5_tell_30 nfX5_59 hN0 (by omega) rfl ?_
      refine x_iload_n C dX5_tell_33 rfl ?_
      refine x_aaload3 C dX5_tell_34 hN1 (by omega) rfl ?_
      refine x_aload_n C dX5_tell_35 rfl ?_
      refine x_getfield C dX5_tell_36 lfX5_32 hB0 (by omega) rfl ?_
      refine x_getfieldN C dX5_tell_39 nfX5_63 hP0 (by omega) rfl ?_
      refine x_callV C dX5_tell_42 (ctX1_become2 hmm hP2.2.2.1 (by omega)) okX1_become lkX5_66 ⟨⟨hA, rfl, rfl⟩, (by omega)⟩ ⟨by decide, rfl, rfl, Nat.le_of_ble_eq_true rfl⟩ rfl (Or.inl ⟨rfl, rfl⟩) ?_
      have hg2 := zAg.sM (zbc (zpm σ L T) X o l) (2 + 2 + 3 * m) T.e T.t
      have hS2 := hS1r.setM hm T.e T.t
      obtain ⟨hN0, hN1, hin, hmat⟩ := id hS2
      have hB0 := (hB1.ag hg2 (by omega)).1
      have hmm2 := isM_s hmm T.e T.t
      have hA := hmm2.1
      have hP0 := (hP2.ag hg2 (by omega)).1
      have hT := (hP2.ag hg2 (by omega)).2.2.1.1
      refine x_aload_n C dX5_tell_45 rfl ?_
      refine x_getfield C dX5_tell_46 lfX5_32 hB0 (by omega) rfl ?_
      refine x_iconst C dX5_tell_49 ?_
      refine x_putIN C dX5_tell_50 nfX5_70 lyX2_1 hP0 (by omega) (Nat.le_of_ble_eq_true rfl) ?_
      refine x_nm (fun s50 e50 => ?_)
      have hB0 := (congrFun e50 1).trans ((zsu_n _ _ (by omega)).trans hB0)
      have hP0 := (congrFun e50 103).trans (zsu_s _ _ _)
      have hN0 := (congrFun e50 2).trans ((zsu_n _ _ (by omega)).trans hN0)
      have hN1 := (congrFun e50 3).trans ((zsu_n _ _ (by omega)).trans hN1)
      have hT := (congrFun e50 105).trans ((zsu_n _ _ (by omega)).trans hT)
      have hA := (congrFun e50 (2+2+3*m)).trans ((zsu_n _ _ (by omega)).trans hA)
      have hg3 : zAg (sM (zbc (zpm σ L T) X o l) (2 + 2 + 3 * m) T.e T.t) s50 103 103 := fun k hk => (congrFun e50 k).trans (zsu_n _ _ (by omega))
      have hmm3 := hmm2.ag hg3 (by omega)
      have hA := hmm3.1
      refine x_aload_n C dX5_tell_53 rfl ?_
      refine x_getfield C dX5_tell_54 lfX5_12 hB0 (by omega) rfl ?_
      refine x_getfieldN C dX5_tell_57 nfX5_59 hN0 (by omega) rfl ?_
      refine x_iload_n C dX5_tell_60 rfl ?_
      refine x_aaload3 C dX5_tell_61 hN1 (by omega) rfl ?_
      refine x_callV C dX5_tell_62 (ctX1_room hmm3 hS1.2.2) okX1_room lkX5_74 ⟨⟨hA, rfl, rfl⟩, (by omega)⟩ ⟨by decide, rfl, rfl, Nat.le_of_ble_eq_true rfl⟩ rfl (Or.inl ⟨rfl, rfl⟩) ?_
      exact x_iret (st := []) C dX5_tell_65 rfl ⟨congrArg (fun z => some (zi z)) (by first | rfl | omega), rfl, e50, rfl⟩
    · exact absurd c16 (by decide)
  · exact absurd hm c4
end
