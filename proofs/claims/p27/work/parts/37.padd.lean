theorem zpa_f {f : Int → Int} {L c : Int} {S : zPS} (h : zpk f L S.p c = false) : zpa f L c S = S := by
  unfold zpa
  rw [zpp_f h]
  rfl
/-- what stays true of a reading -/
def isS (S : zPS) : Prop := (0 ≤ S.p ∧ S.p ≤ 80) ∧ zBd S.e ∧ zSt S.t
theorem zsq_Bd2 {e : Int → Int} (he : zBd e) {row col q : Int} {v : Int → Int} (hv : ∀ j, (row ≤ j / 16 ∧ j / 16 < row + q) ∧ col ≤ j % 16 ∧ j % 16 < col + q → -1000000 ≤ v j ∧ v j ≤ 1000000) : zBd (zsq e row col q v) := by
  intro j
  unfold zsq
  split
  · rename_i c
    exact hv j c
  · exact he j
theorem zmu_in {a b : Int} (ha : -999 ≤ a ∧ a ≤ 999) (hb : -999 ≤ b ∧ b ≤ 999) : -1000000 ≤ a * b ∧ a * b ≤ 1000000 := by
  have h1 : a.natAbs ≤ 999 := by omega
  have h2 : b.natAbs ≤ 999 := by omega
  have h3 : (a * b).natAbs ≤ 999 * 999 := by
    rw [Int.natAbs_mul]
    exact Nat.mul_le_mul h1 h2
  omega
theorem zlt_is {S : zPS} (h : isS S) {d row col : Int} (hu : ∀ j, 0 ≤ j → j < zsz d → -999 ≤ S.u j ∧ S.u j ≤ 999) (hv : ∀ j, 0 ≤ j → j < zsz d → -999 ≤ S.v j ∧ S.v j ≤ 999) : isS (zlt d row col S) :=
  ⟨h.1, zsq_Bd2 h.2.1 (fun j c => zmu_in (hu _ (by omega) (by omega)) (hv _ (by omega) (by omega))), h.2.2.u _ (by decide)⟩
theorem zlw_is {S : zPS} (h : isS S) {d row col : Int} (hd : 0 ≤ d ∧ d ≤ 3) (hw : ∀ j, 0 ≤ j → j < zsz d * zsz d → -999 ≤ S.w j ∧ S.w j ≤ 999) : isS (zlw d row col S) := by
  refine ⟨h.1, zsq_Bd2 h.2.1 (fun j c => ?_), h.2.2.u _ (by decide)⟩
  have h2 : -999 ≤ S.w ((j / 16 - row) * zsz d + (j % 16 - col)) ∧ S.w ((j / 16 - row) * zsz d + (j % 16 - col)) ≤ 999 := by
    rcases zsz_v hd with ⟨-, q⟩ | ⟨-, q⟩ | ⟨-, q⟩ | ⟨-, q⟩ <;> rw [q] at c hw ⊢ <;> exact hw _ (by omega) (by omega)
  exact ⟨by omega, by omega⟩
def zle (d row col : Int) (S : zPS) : zPS := S.sm (zsq S.e row col (zsz d) (fun _ => 0)) (zu S.t (zno d row col) 0)
def zlc (d row col : Int) (S : zPS) : zPS := S.sm S.e (zu S.t (zno d row col) 3)
theorem zle_is {S : zPS} (h : isS S) (d row col : Int) : isS (zle d row col S) := ⟨h.1, zsq_Bd2 h.2.1 (fun j c => by decide), h.2.2.u _ (by decide)⟩
theorem zlc_is {S : zPS} (h : isS S) (d row col : Int) : isS (zlc d row col S) := ⟨h.1, h.2.1, h.2.2.u _ (by decide)⟩
def zR0 (R : zRVs) (V : Int → Bool × Int × Int) (f : Int → Int) (L d row col : Int) (S : zPS) (r : Bool × zPS) : Bool × zPS :=
  if zpk f L S.p 48 = true then (true, zle d row col (zpa f L 48 S))
  else if zpk f L S.p 100 = true then zRS V d row col (zpa f L 100 S)
  else if zpk f L S.p 117 = true then zRP R f L d row col (zpa f L 117 S)
  else if zpk f L S.p 102 = true then zRF R d row col (zpa f L 102 S)
  else r
def zps4 (B : Int → zPS → Bool × zPS) (S : zPS) : Nat → Bool × zPS
  | 0 => (true, S)
  | k + 1 => if (zps4 B S k).1 = true then B k (zps4 B S k).2 else zps4 B S k
def zRC (f : Int → Int) (L : Int) (T : Bool × zPS) : Bool × zPS := if T.1 = true then (zpk f L T.2.p 41, zpa f L 41 T.2) else T
def zRB (R : zRVs) (V : Int → Bool × Int × Int) (f : Int → Int) (L : Int) : Nat → Int → Int → Int → zPS → Bool × zPS
  | 0, d, row, col, S => zR0 R V f L d row col S (false, S)
  | g + 1, d, row, col, S => zR0 R V f L d row col S (if zpk f L S.p 40 = true then zRC f L (zps4 (fun q T => zRB R V f L g (d + 1) (row + q / 2 * zsz (d + 1)) (col + q % 2 * zsz (d + 1)) T) (zlc d row col (zpa f L 40 S)) 4) else (false, S))
theorem zps4_is {B : Int → zPS → Bool × zPS} (hB : ∀ (q : Int) (T : zPS), isS T → isS (B q T).2) {S : zPS} (h : isS S) : ∀ k, isS (zps4 B S k).2
  | 0 => h
  | k + 1 => by
    have ih := zps4_is hB h k
    unfold zps4
    split
    · exact hB _ _ ih
    · exact ih
theorem zps4_f {B : Int → zPS → Bool × zPS} {S : zPS} {k : Nat} (h : (zps4 B S k).1 = false) : ∀ j, zps4 B S (k + j) = zps4 B S k
  | 0 => rfl
  | j + 1 => by
    have ih := zps4_f h j
    have e : zps4 B S (k + (j + 1)) = if (zps4 B S (k + j)).1 = true then B ((k + j : Nat) : Int) (zps4 B S (k + j)).2 else zps4 B S (k + j) := rfl
    rw [e, ih, if_neg (by rw [h]; decide)]
section
variable {n : Nat} {σ : zS} {f : Int → Int} {L : Int}
theorem zpa_is (hb : isPb σ n f L) {S : zPS} (h : isS S) (c : Int) : isS (zpa f L c S) := by
  have h1 := zpa_in hb h.1 c
  exact ⟨⟨Int.le_trans h.1.1 h1.1, h1.2⟩, h.2⟩
theorem zRS_is {R : zRVs} {V : Int → Bool × Int × Int} (h : isKT R V f L) (hb : isPb σ n f L) {S : zPS} (hS : isS S) {d row col : Int} (hd : 0 ≤ d ∧ d ≤ 3) : isS (zRS V d row col S).2 := by
  obtain ⟨h1, h2, h3⟩ := h.v hb hS.1.2
  have hz := zsz_v hd
  unfold zRS
  dsimp only
  split
  · rename_i c
    have h3 := h3 c
    have e1 : ∀ (x : Int) (u : Int → Int) (j : Int), 0 ≤ j → j < zsz d → zfx 16 x u j = x := fun x u j j1 j2 => if_pos (by omega)
    have hS0 : 0 ≤ (V S.p).2.1 := Int.le_trans hS.1.1 h1
    refine zlt_is (S := ((S.sp ((V S.p).2.1) ((V S.p).2.2)).su (zfx 16 (V S.p).2.2 S.u)).sv (zfx 16 1 S.v)) ⟨⟨hS0, h2⟩, hS.2⟩ (fun j j1 j2 => ?_) (fun j j1 j2 => ?_)
    · show -999 ≤ zfx 16 (V S.p).2.2 S.u j ∧ zfx 16 (V S.p).2.2 S.u j ≤ 999
      rw [e1 _ _ j j1 j2]
      exact h3
    · show -999 ≤ zfx 16 1 S.v j ∧ zfx 16 1 S.v j ≤ 999
      rw [e1 _ _ j j1 j2]
      decide
  · exact ⟨⟨(show 0 ≤ (V S.p).2.1 from Int.le_trans hS.1.1 h1), h2⟩, hS.2⟩
theorem zRP_is {R : zRVs} {V : Int → Bool × Int × Int} (h : isKT R V f L) (hb : isPb σ n f L) {S : zPS} (hS : isS S) {d row col : Int} (hd : 0 ≤ d ∧ d ≤ 3) : isS (zRP R f L d row col S).2 := by
  have hz := zsz_v hd
  obtain ⟨h1, h2, h3⟩ := h.i hb S.x S.u (show 0 ≤ zsz d by omega) hS.1.2
  have hS1 : isS (zru R (zsz d) S) := ⟨⟨Int.le_trans hS.1.1 h1, h2⟩, hS.2⟩
  have hS2 := zpa_is hb hS1 118
  obtain ⟨g1, g2, g3⟩ := h.i hb (zpa f L 118 (zru R (zsz d) S)).x (zpa f L 118 (zru R (zsz d) S)).v (show 0 ≤ zsz d by omega) hS2.1.2
  have hS3 : isS (zrw R (zsz d) (zpa f L 118 (zru R (zsz d) S))) := ⟨⟨Int.le_trans hS2.1.1 g1, g2⟩, hS2.2⟩
  unfold zRP
  split
  · rename_i c
    split
    · split
      · rename_i c2
        exact zlt_is hS3 (h3 c) (g3 c2)
      · exact hS3
    · exact hS2
  · exact hS1
theorem zRF_is {R : zRVs} {V : Int → Bool × Int × Int} (h : isKT R V f L) (hb : isPb σ n f L) {S : zPS} (hS : isS S) {d row col : Int} (hd : 0 ≤ d ∧ d ≤ 3) : isS (zRF R d row col S).2 := by
  have hzz : 0 ≤ zsz d * zsz d := by
    rcases zsz_v hd with ⟨-, q⟩ | ⟨-, q⟩ | ⟨-, q⟩ | ⟨-, q⟩ <;> rw [q] <;> decide
  obtain ⟨h1, h2, h3⟩ := h.i hb S.x S.w hzz hS.1.2
  have hS1 : isS (zrx R (zsz d * zsz d) S) := ⟨⟨Int.le_trans hS.1.1 h1, h2⟩, hS.2⟩
  unfold zRF
  dsimp only
  split
  · rename_i c
    exact zlw_is hS1 hd (h3 c)
  · exact hS1
theorem zR0_is {R : zRVs} {V : Int → Bool × Int × Int} (h : isKT R V f L) (hb : isPb σ n f L) {S : zPS} (hS : isS S) {d row col : Int} (hd : 0 ≤ d ∧ d ≤ 3) {r : Bool × zPS} (hr : isS r.2) : isS (zR0 R V f L d row col S r).2 := by
  unfold zR0
  split
  · exact zle_is (zpa_is hb hS 48) d row col
  split
  · exact zRS_is h hb (zpa_is hb hS 100) hd
  split
  · exact zRP_is h hb (zpa_is hb hS 117) hd
  split
  · exact zRF_is h hb (zpa_is hb hS 102) hd
  · exact hr
theorem zRC_is (hb : isPb σ n f L) {T : Bool × zPS} (h : isS T.2) : isS (zRC f L T).2 := by
  unfold zRC
  split
  · exact zpa_is hb h 41
  · exact h
theorem zRB_is {R : zRVs} {V : Int → Bool × Int × Int} (h : isKT R V f L) (hb : isPb σ n f L) : ∀ (g : Nat) (d row col : Int) (S : zPS), isS S → d = 3 - g → 0 ≤ d → isS (zRB R V f L g d row col S).2
  | 0, d, row, col, S, hS, e, hd => zR0_is h hb hS (by omega) hS
  | g + 1, d, row, col, S, hS, e, hd => by
    refine zR0_is h hb hS (by omega) ?_
    split
    · exact zRC_is hb (zps4_is (fun q T hT => zRB_is h hb g _ _ _ T hT (by omega) (by omega)) (zlc_is (zpa_is hb hS 40) d row col) 4)
    · exact hS
theorem zce (hb : isPb σ n f L) (S : zPS) (d row col : Int) (hd : 0 ≤ d ∧ d ≤ 3) (hr : 0 ≤ row ∧ row + zsz d ≤ 16) (hc : 0 ≤ col ∧ col + zsz d ≤ 16) : zCt 3 0 0 yX1_setEmpty cX1_setEmpty 7 none [zr 105, zi d, zi row, zi col] n (zpm σ L S) none n (zpm σ L (zle d row col S)) := by
  have h := ctX1_setEmpty (zpm_M hb S) d row col hd hr hc
  rw [zpm_sM] at h
  exact h
theorem zcc (hb : isPb σ n f L) (S : zPS) (d row col : Int) (hd : 0 ≤ d ∧ d ≤ 3) (hr : 0 ≤ row ∧ row < 16) (hc : 0 ≤ col ∧ col < 16) : zCt 2 0 0 yX1_setSort cX1_setSort 5 none [zr 105, zi d, zi row, zi col, zi 3] n (zpm σ L S) none n (zpm σ L (zlc d row col S)) := by
  have h := ctX1_setSort2 (zpm_M hb S) d row col 3 hd hr hc
  rw [zpm_sM] at h
  exact h
theorem ctX2_readBlock {R : zRVs} {V : Int → Bool × Int × Int} (h : isKT R V f L) (hb : isPb σ n f L) : ∀ (g : Nat) (S : zPS) (d row col : Int), isS S → d = 3 - g → 0 ≤ d → (0 ≤ row ∧ row + zsz d ≤ 16) → (0 ≤ col ∧ col + zsz d ≤ 16) → zCt (5 + 2 * g) 0 0 yX2_readBlock cX2_readBlock 4 (some .boolean) [zr 103, zi d, zi row, zi col] n (zpm σ L S) (some (zi (zb (zRB R V f L g d row col S).1))) n (zpm σ L (zRB R V f L g d row col S).2) := by
  have hn := hb.2.2.2.2
  intro g
  induction g with
  | zero =>
    intro S d row col hS ed hd0 hr hc
    have hd : d = 3 := by omega
    have hP0 := zpm_0 σ L S
    have i1 := zpa_is hb hS 100
    have i2 := zpa_is hb hS 117
    have i3 := zpa_is hb hS 102
    have e0 : zRB R V f L 0 d row col S = zR0 R V f L d row col S (false, S) := rfl
    refine zCt.of (by decide) rfl (Nat.le_of_ble_eq_true rfl) (fun K C => ?_)
    refine x_aload_n C dX2_readBlock_0 rfl ?_
    refine x_bipush C dX2_readBlock_1 (by decide) ?_
    refine x_callV C dX2_readBlock_3 (zcp hb S hS.1 (by decide)) okX2_passes lkX2_46 ⟨⟨hP0, rfl, rfl⟩, (by omega)⟩ ⟨by omega, rfl, rfl, Nat.le_of_ble_eq_true rfl⟩ rfl (Or.inl ⟨rfl, rfl⟩) ?_
    refine x_ifeq_b (tgt := 21) C dX2_readBlock_6 (by decide) (fun c6 => ?_) (fun c6 => ?_)
    · rw [zpa_f c6]
      have e0 := e0.trans (if_neg (by rw [c6]; decide))
      refine x_aload_n C dX2_readBlock_21 rfl ?_
      refine x_bipush C dX2_readBlock_22 (by decide) ?_
      refine x_callV C dX2_readBlock_24 (zcp hb S hS.1 (by decide)) okX2_passes lkX2_46 ⟨⟨hP0, rfl, rfl⟩, (by omega)⟩ ⟨by omega, rfl, rfl, Nat.le_of_ble_eq_true rfl⟩ rfl (Or.inl ⟨rfl, rfl⟩) ?_
      refine x_ifeq_b (tgt := 38) C dX2_readBlock_27 (by decide) (fun c27 => ?_) (fun c27 => ?_)
      · rw [zpa_f c27]
        have e0 := e0.trans (if_neg (by rw [c27]; decide))
        refine x_aload_n C dX2_readBlock_38 rfl ?_
        refine x_bipush C dX2_readBlock_39 (by decide) ?_
        refine x_callV C dX2_readBlock_41 (zcp hb S hS.1 (by decide)) okX2_passes lkX2_46 ⟨⟨hP0, rfl, rfl⟩, (by omega)⟩ ⟨by omega, rfl, rfl, Nat.le_of_ble_eq_true rfl⟩ rfl (Or.inl ⟨rfl, rfl⟩) ?_
        refine x_ifeq_b (tgt := 55) C dX2_readBlock_44 (by decide) (fun c44 => ?_) (fun c44 => ?_)
        · rw [zpa_f c44]
          have e0 := e0.trans (if_neg (by rw [c44]; decide))
          refine x_aload_n C dX2_readBlock_55 rfl ?_
          refine x_bipush C dX2_readBlock_56 (by decide) ?_
          refine x_callV C dX2_readBlock_58 (zcp hb S hS.1 (by decide)) okX2_passes lkX2_46 ⟨⟨hP0, rfl, rfl⟩, (by omega)⟩ ⟨by omega, rfl, rfl, Nat.le_of_ble_eq_true rfl⟩ rfl (Or.inl ⟨rfl, rfl⟩) ?_
          refine x_ifeq_b (tgt := 72) C dX2_readBlock_61 (by decide) (fun c61 => ?_) (fun c61 => ?_)
          · rw [zpa_f c61]
            have eR := e0.trans (if_neg (by rw [c61]; decide))
            refine x_iload_n C dX2_readBlock_72 rfl ?_
            refine x_iconst C dX2_readBlock_73 ?_
            refine x_icmp_ge (tgt := 100) C dX2_readBlock_74 (by decide) (by omega) (fun c74 => ?_) (fun c74 => ?_)
            · refine x_iconst C dX2_readBlock_100 ?_
              exact x_zret (st := []) (b := false) C dX2_readBlock_101 rfl ⟨congrArg (fun z => some (zi (zb z))) (congrArg Prod.fst eR).symm, rfl, congrArg (fun z => zpm σ L z) (congrArg Prod.snd eR).symm, rfl⟩
            · exact absurd c74 (by omega)
          · have hP0 := zpm_0 σ L (zpa f L 102 S)
            have eR := e0.trans (if_pos c61)
            refine x_aload_n C dX2_readBlock_64 rfl ?_
            refine x_iload_n C dX2_readBlock_65 rfl ?_
            refine x_iload_n C dX2_readBlock_66 rfl ?_
            refine x_iload_n C dX2_readBlock_67 rfl ?_
            refine x_callV C dX2_readBlock_68 (ctX2_readFull h hb (zpa f L 102 S) i3.1 d row col (by omega) hr hc) okX2_readFull lkX2_60 ⟨⟨hP0, rfl, rfl⟩, (by omega)⟩ ⟨by omega, rfl, rfl, Nat.le_of_ble_eq_true rfl⟩ rfl (Or.inl ⟨rfl, rfl⟩) ?_
            exact x_zret (st := []) C dX2_readBlock_71 rfl ⟨congrArg (fun z => some (zi (zb z))) (congrArg Prod.fst eR).symm, rfl, congrArg (fun z => zpm σ L z) (congrArg Prod.snd eR).symm, rfl⟩
        · have hP0 := zpm_0 σ L (zpa f L 117 S)
          have eR := e0.trans (if_pos c44)
          refine x_aload_n C dX2_readBlock_47 rfl ?_
          refine x_iload_n C dX2_readBlock_48 rfl ?_
          refine x_iload_n C dX2_readBlock_49 rfl ?_
          refine x_iload_n C dX2_readBlock_50 rfl ?_
          refine x_callV C dX2_readBlock_51 (ctX2_readProduct h hb (zpa f L 117 S) i2.1 d row col (by omega) hr hc) okX2_readProduct lkX2_57 ⟨⟨hP0, rfl, rfl⟩, (by omega)⟩ ⟨by omega, rfl, rfl, Nat.le_of_ble_eq_true rfl⟩ rfl (Or.inl ⟨rfl, rfl⟩) ?_
          exact x_zret (st := []) C dX2_readBlock_54 rfl ⟨congrArg (fun z => some (zi (zb z))) (congrArg Prod.fst eR).symm, rfl, congrArg (fun z => zpm σ L z) (congrArg Prod.snd eR).symm, rfl⟩
      · have hP0 := zpm_0 σ L (zpa f L 100 S)
        have eR := e0.trans (if_pos c27)
        refine x_aload_n C dX2_readBlock_30 rfl ?_
        refine x_iload_n C dX2_readBlock_31 rfl ?_
        refine x_iload_n C dX2_readBlock_32 rfl ?_
        refine x_iload_n C dX2_readBlock_33 rfl ?_
        refine x_callV C dX2_readBlock_34 (ctX2_readSame h hb (zpa f L 100 S) i1.1 d row col (by omega) hr hc) okX2_readSame lkX2_54 ⟨⟨hP0, rfl, rfl⟩, (by omega)⟩ ⟨by omega, rfl, rfl, Nat.le_of_ble_eq_true rfl⟩ rfl (Or.inl ⟨rfl, rfl⟩) ?_
        exact x_zret (st := []) C dX2_readBlock_37 rfl ⟨congrArg (fun z => some (zi (zb z))) (congrArg Prod.fst eR).symm, rfl, congrArg (fun z => zpm σ L z) (congrArg Prod.snd eR).symm, rfl⟩
    · have hP0 := zpm_0 σ L (zpa f L 48 S)
      have hM := (zpm_M hb (zpa f L 48 S)).1
      have eR := e0.trans (if_pos c6)
      refine x_aload_n C dX2_readBlock_9 rfl ?_
      refine x_getfield C dX2_readBlock_10 lfX2_22 hP0 (by omega) rfl ?_
      refine x_iload_n C dX2_readBlock_13 rfl ?_
      refine x_iload_n C dX2_readBlock_14 rfl ?_
      refine x_iload_n C dX2_readBlock_15 rfl ?_
      refine x_callV C dX2_readBlock_16 (zce hb (zpa f L 48 S) d row col (by omega) hr hc) okX1_setEmpty lkX2_50 ⟨⟨hM, rfl, rfl⟩, (by omega)⟩ ⟨by omega, rfl, rfl, Nat.le_of_ble_eq_true rfl⟩ rfl (Or.inl ⟨rfl, rfl⟩) ?_
      refine x_iconst C dX2_readBlock_19 ?_
      exact x_zret (st := []) (b := true) C dX2_readBlock_20 rfl ⟨congrArg (fun z => some (zi (zb z))) (congrArg Prod.fst eR).symm, rfl, congrArg (fun z => zpm σ L z) (congrArg Prod.snd eR).symm, rfl⟩
  | succ g ih =>
    intro S d row col hS ed hd0 hr hc
    have hz := zsz_v (d := d) (by omega)
    have hP0 := zpm_0 σ L S
    have i1 := zpa_is hb hS 100
    have i2 := zpa_is hb hS 117
    have i3 := zpa_is hb hS 102
    have i4 := zpa_is hb hS 40
    have i5 := zlc_is i4 d row col
    generalize hB : (fun (q : Int) (T : zPS) => zRB R V f L g (d + 1) (row + q / 2 * zsz (d + 1)) (col + q % 2 * zsz (d + 1)) T) = B
    have e0 : zRB R V f L (g + 1) d row col S = zR0 R V f L d row col S (if zpk f L S.p 40 = true then zRC f L (zps4 B (zlc d row col (zpa f L 40 S)) 4) else (false, S)) := by
      rw [← hB]
      rfl
    have hBi : ∀ (q : Int) (T : zPS), isS T → isS (B q T).2 := by
      intro q T hT
      rw [← hB]
      exact zRB_is h hb g _ _ _ T hT (by omega) (by omega)
    have hBc : ∀ (q : Int) (T : zPS), isS T → 0 ≤ q ∧ q < 4 → zCt (5 + 2 * g) 0 0 yX2_readBlock cX2_readBlock 4 (some .boolean) [zr 103, zi (d + 1), zi (row + q / 2 * zsz (d + 1)), zi (col + q % 2 * zsz (d + 1))] n (zpm σ L T) (some (zi (zb (B q T).1))) n (zpm σ L (B q T).2) := by
      intro q T hT hq
      have hp1 := zpart (d := d) (row := row) (p := q) (by omega) hq hr
      have hp2 := zpart (d := d) (row := col) (p := q) (by omega) hq hc
      rw [← hB]
      exact ih T (d + 1) _ _ hT (by omega) (by omega) hp1.1 hp2.2
    have hparts : zCt (6 + 2 * g) 0 0 yX2_readParts cX2_readParts 7 (some .boolean) [zr 103, zi d, zi row, zi col] n (zpm σ L (zpa f L 40 S)) (some (zi (zb (zRC f L (zps4 B (zlc d row col (zpa f L 40 S)) 4)).1))) n (zpm σ L (zRC f L (zps4 B (zlc d row col (zpa f L 40 S)) 4)).2) := by
      have hP0 := zpm_0 σ L (zpa f L 40 S)
      have hM := (zpm_M hb (zpa f L 40 S)).1
      generalize hS1 : zlc d row col (zpa f L 40 S) = S1 at i5 ⊢
      refine zCt.of (by decide) rfl (Nat.le_of_ble_eq_true rfl) (fun K C => ?_)
      have loop : ∀ k : Nat, k ≤ 4 → (zps4 B S1 k).1 = true → K 14 [some (zr 103), some (zi d), some (zi row), some (zi col), some (zi (k : Int)), none, none] [] n (zpm σ L (zps4 B S1 k).2) 0 := by
        refine zloop _ 4 (fun k hk ih2 => ?_)
        intro hok
        have i6 := zps4_is hBi i5 k
        generalize hT : zps4 B S1 k = T at hok i6 ⊢
        have hP0 := zpm_0 σ L T.2
        refine x_iload C dX2_readParts_14 rfl ?_
        refine x_iconst C dX2_readParts_16 ?_
        refine x_icmp_ge (tgt := 60) C dX2_readParts_17 (by decide) (by omega) (fun c17 => ?_) (fun c17 => ?_)
        · refine x_aload_n C dX2_readParts_60 rfl ?_
          refine x_bipush C dX2_readParts_61 (by decide) ?_
          refine x_callV C dX2_readParts_63 (zcp hb T.2 i6.1 (by decide)) okX2_passes lkX2_46 ⟨⟨hP0, rfl, rfl⟩, (by omega)⟩ ⟨by omega, rfl, rfl, Nat.le_of_ble_eq_true rfl⟩ rfl (Or.inl ⟨rfl, rfl⟩) ?_
          exact x_zret (st := []) C dX2_readParts_66 rfl (by
  obtain rfl : k = 4 := by omega
  have eR : zRC f L (zps4 B S1 4) = _ := if_pos (by rw [hT]; exact hok)
  rw [eR, hT]
  exact ⟨rfl, rfl, rfl, rfl⟩)
        · refine x_iload_n C dX2_readParts_20 rfl ?_
          refine x_iload_n C dX2_readParts_21 rfl ?_
          refine x_iload C dX2_readParts_22 rfl ?_
          refine x_callSN C dX2_readParts_24 (ctX1_rowOfPart d row _ (by omega) (by omega)) okX1_rowOfPart nkX2_70 ⟨by omega, rfl, rfl, Nat.le_of_ble_eq_true rfl⟩ rfl (Or.inl ⟨rfl, rfl⟩) ?_
          refine x_istore C dX2_readParts_27 (by decide) ?_
          refine x_iload_n C dX2_readParts_29 rfl ?_
          refine x_iload_n C dX2_readParts_30 rfl ?_
          refine x_iload C dX2_readParts_31 rfl ?_
          refine x_callSN C dX2_readParts_33 (ctX1_columnOfPart d col _ (by omega) (by omega)) okX1_columnOfPart nkX2_74 ⟨by omega, rfl, rfl, Nat.le_of_ble_eq_true rfl⟩ rfl (Or.inl ⟨rfl, rfl⟩) ?_
          refine x_istore C dX2_readParts_36 (by decide) ?_
          refine x_aload_n C dX2_readParts_38 rfl ?_
          refine x_iload_n C dX2_readParts_39 rfl ?_
          refine x_iconst C dX2_readParts_40 ?_
          refine x_iadd C dX2_readParts_41 ?_
          refine x_iload C dX2_readParts_42 rfl ?_
          refine x_iload C dX2_readParts_44 rfl ?_
          refine x_callV C dX2_readParts_46 (hBc k T.2 i6 (by omega)) okX2_readBlock lkX2_42 ⟨⟨hP0, rfl, rfl⟩, (by omega)⟩ ⟨by omega, rfl, rfl, Nat.le_of_ble_eq_true rfl⟩ rfl (Or.inl ⟨rfl, rfl⟩) ?_
          refine x_ifne_b (tgt := 54) C dX2_readParts_49 (by decide) (fun c49 => ?_) (fun c49 => ?_)
          · have e7 : zps4 B S1 (k + 1) = B k T.2 := (if_pos (by rw [hT]; exact hok)).trans (by rw [hT])
            have ih2 := ih2 (by omega) (by rw [e7]; exact c49)
            rw [e7, show ((k + 1 : Nat) : Int) = (k : Int) + 1 by omega] at ih2
            refine x_iinc C dX2_readParts_54 rfl (by decide) ?_
            refine x_goto (tgt := 14) C dX2_readParts_57 (by decide) ?_
            exact x_wk C rfl ih2
          · refine x_iconst C dX2_readParts_52 ?_
            exact x_zret (st := []) (b := false) C dX2_readParts_53 rfl (by
  have e9 : zps4 B S1 4 = B k T.2 := by
    have e7 : zps4 B S1 (k + 1) = B k T.2 := (if_pos (by rw [hT]; exact hok)).trans (by rw [hT])
    have e8 := zps4_f (k := k + 1) (by rw [e7]; exact c49) (3 - k)
    rw [show k + 1 + (3 - k) = 4 by omega] at e8
    exact e8.trans e7
  have eR : zRC f L (zps4 B S1 4) = zps4 B S1 4 := if_neg (by rw [e9, c49]; decide)
  exact ⟨congrArg (fun z => some (zi (zb z))) (by rw [eR, e9]; exact c49.symm), rfl, by rw [eR, e9], rfl⟩)
      refine x_aload_n C dX2_readParts_0 rfl ?_
      refine x_getfield C dX2_readParts_1 lfX2_22 hP0 (by omega) rfl ?_
      refine x_iload_n C dX2_readParts_4 rfl ?_
      refine x_iload_n C dX2_readParts_5 rfl ?_
      refine x_iload_n C dX2_readParts_6 rfl ?_
      refine x_iconst C dX2_readParts_7 ?_
      refine x_callVN C dX2_readParts_8 (zcc hb (zpa f L 40 S) d row col (by omega) (by omega) (by omega)) okX1_setSort nkX2_66 ⟨⟨hM, rfl, rfl⟩, (by omega)⟩ ⟨by omega, rfl, rfl, Nat.le_of_ble_eq_true rfl⟩ rfl (Or.inl ⟨rfl, rfl⟩) ?_
      rw [hS1]
      refine x_iconst C dX2_readParts_11 ?_
      refine x_istore C dX2_readParts_12 (by decide) ?_
      exact loop 0 (by omega) rfl
    refine zCt.of (by decide) rfl (Nat.le_of_ble_eq_true rfl) (fun K C => ?_)
    refine x_aload_n C dX2_readBlock_0 rfl ?_
    refine x_bipush C dX2_readBlock_1 (by decide) ?_
    refine x_callV C dX2_readBlock_3 (zcp hb S hS.1 (by decide)) okX2_passes lkX2_46 ⟨⟨hP0, rfl, rfl⟩, (by omega)⟩ ⟨by omega, rfl, rfl, Nat.le_of_ble_eq_true rfl⟩ rfl (Or.inl ⟨rfl, rfl⟩) ?_
    refine x_ifeq_b (tgt := 21) C dX2_readBlock_6 (by decide) (fun c6 => ?_) (fun c6 => ?_)
    · rw [zpa_f c6]
      have e0 := e0.trans (if_neg (by rw [c6]; decide))
      refine x_aload_n C dX2_readBlock_21 rfl ?_
      refine x_bipush C dX2_readBlock_22 (by decide) ?_
      refine x_callV C dX2_readBlock_24 (zcp hb S hS.1 (by decide)) okX2_passes lkX2_46 ⟨⟨hP0, rfl, rfl⟩, (by omega)⟩ ⟨by omega, rfl, rfl, Nat.le_of_ble_eq_true rfl⟩ rfl (Or.inl ⟨rfl, rfl⟩) ?_
      refine x_ifeq_b (tgt := 38) C dX2_readBlock_27 (by decide) (fun c27 => ?_) (fun c27 => ?_)
      · rw [zpa_f c27]
        have e0 := e0.trans (if_neg (by rw [c27]; decide))
        refine x_aload_n C dX2_readBlock_38 rfl ?_
        refine x_bipush C dX2_readBlock_39 (by decide) ?_
        refine x_callV C dX2_readBlock_41 (zcp hb S hS.1 (by decide)) okX2_passes lkX2_46 ⟨⟨hP0, rfl, rfl⟩, (by omega)⟩ ⟨by omega, rfl, rfl, Nat.le_of_ble_eq_true rfl⟩ rfl (Or.inl ⟨rfl, rfl⟩) ?_
        refine x_ifeq_b (tgt := 55) C dX2_readBlock_44 (by decide) (fun c44 => ?_) (fun c44 => ?_)
        · rw [zpa_f c44]
          have e0 := e0.trans (if_neg (by rw [c44]; decide))
          refine x_aload_n C dX2_readBlock_55 rfl ?_
          refine x_bipush C dX2_readBlock_56 (by decide) ?_
          refine x_callV C dX2_readBlock_58 (zcp hb S hS.1 (by decide)) okX2_passes lkX2_46 ⟨⟨hP0, rfl, rfl⟩, (by omega)⟩ ⟨by omega, rfl, rfl, Nat.le_of_ble_eq_true rfl⟩ rfl (Or.inl ⟨rfl, rfl⟩) ?_
          refine x_ifeq_b (tgt := 72) C dX2_readBlock_61 (by decide) (fun c61 => ?_) (fun c61 => ?_)
          · rw [zpa_f c61]
            have e0 := e0.trans (if_neg (by rw [c61]; decide))
            refine x_iload_n C dX2_readBlock_72 rfl ?_
            refine x_iconst C dX2_readBlock_73 ?_
            refine x_icmp_ge (tgt := 100) C dX2_readBlock_74 (by decide) (by omega) (fun c74 => ?_) (fun c74 => ?_)
            · exact absurd c74 (by omega)
            · refine x_aload_n C dX2_readBlock_77 rfl ?_
              refine x_bipush C dX2_readBlock_78 (by decide) ?_
              refine x_callV C dX2_readBlock_80 (zcp hb S hS.1 (by decide)) okX2_passes lkX2_46 ⟨⟨hP0, rfl, rfl⟩, (by omega)⟩ ⟨by omega, rfl, rfl, Nat.le_of_ble_eq_true rfl⟩ rfl (Or.inl ⟨rfl, rfl⟩) ?_
              refine x_ifeq_b (tgt := 100) C dX2_readBlock_83 (by decide) (fun c83 => ?_) (fun c83 => ?_)
              · rw [zpa_f c83]
                have e0 := e0.trans (if_neg (by rw [c83]; decide))
                have c93 := rfl (a := false)
                refine x_iconst C dX2_readBlock_100 ?_
                exact x_zret (st := []) (b := false) C dX2_readBlock_101 rfl ⟨congrArg (fun z => some (zi (zb z))) ((congrArg Prod.fst e0).trans c93).symm, rfl, congrArg (fun z => zpm σ L z) (congrArg Prod.snd e0).symm, rfl⟩
              · have hP0 := zpm_0 σ L (zpa f L 40 S)
                have e0 := e0.trans (if_pos c83)
                refine x_aload_n C dX2_readBlock_86 rfl ?_
                refine x_iload_n C dX2_readBlock_87 rfl ?_
                refine x_iload_n C dX2_readBlock_88 rfl ?_
                refine x_iload_n C dX2_readBlock_89 rfl ?_
                refine x_callV C dX2_readBlock_90 hparts okX2_readParts lkX2_63 ⟨⟨hP0, rfl, rfl⟩, (by omega)⟩ ⟨by omega, rfl, rfl, Nat.le_of_ble_eq_true rfl⟩ rfl (Or.inl ⟨rfl, rfl⟩) ?_
                refine x_ifeq_b (tgt := 100) C dX2_readBlock_93 (by decide) (fun c93 => ?_) (fun c93 => ?_)
                · refine x_iconst C dX2_readBlock_100 ?_
                  exact x_zret (st := []) (b := false) C dX2_readBlock_101 rfl ⟨congrArg (fun z => some (zi (zb z))) ((congrArg Prod.fst e0).trans c93).symm, rfl, congrArg (fun z => zpm σ L z) (congrArg Prod.snd e0).symm, rfl⟩
                · refine x_iconst C dX2_readBlock_96 ?_
                  refine x_goto (tgt := 101) C dX2_readBlock_97 (by decide) ?_
                  exact x_zret (st := []) (b := true) C dX2_readBlock_101 rfl ⟨congrArg (fun z => some (zi (zb z))) ((congrArg Prod.fst e0).trans c93).symm, rfl, congrArg (fun z => zpm σ L z) (congrArg Prod.snd e0).symm, rfl⟩
          · have hP0 := zpm_0 σ L (zpa f L 102 S)
            have eR := e0.trans (if_pos c61)
            refine x_aload_n C dX2_readBlock_64 rfl ?_
            refine x_iload_n C dX2_readBlock_65 rfl ?_
            refine x_iload_n C dX2_readBlock_66 rfl ?_
            refine x_iload_n C dX2_readBlock_67 rfl ?_
            refine x_callV C dX2_readBlock_68 (ctX2_readFull h hb (zpa f L 102 S) i3.1 d row col (by omega) hr hc) okX2_readFull lkX2_60 ⟨⟨hP0, rfl, rfl⟩, (by omega)⟩ ⟨by omega, rfl, rfl, Nat.le_of_ble_eq_true rfl⟩ rfl (Or.inl ⟨rfl, rfl⟩) ?_
            exact x_zret (st := []) C dX2_readBlock_71 rfl ⟨congrArg (fun z => some (zi (zb z))) (congrArg Prod.fst eR).symm, rfl, congrArg (fun z => zpm σ L z) (congrArg Prod.snd eR).symm, rfl⟩
        · have hP0 := zpm_0 σ L (zpa f L 117 S)
          have eR := e0.trans (if_pos c44)
          refine x_aload_n C dX2_readBlock_47 rfl ?_
          refine x_iload_n C dX2_readBlock_48 rfl ?_
          refine x_iload_n C dX2_readBlock_49 rfl ?_
          refine x_iload_n C dX2_readBlock_50 rfl ?_
          refine x_callV C dX2_readBlock_51 (ctX2_readProduct h hb (zpa f L 117 S) i2.1 d row col (by omega) hr hc) okX2_readProduct lkX2_57 ⟨⟨hP0, rfl, rfl⟩, (by omega)⟩ ⟨by omega, rfl, rfl, Nat.le_of_ble_eq_true rfl⟩ rfl (Or.inl ⟨rfl, rfl⟩) ?_
          exact x_zret (st := []) C dX2_readBlock_54 rfl ⟨congrArg (fun z => some (zi (zb z))) (congrArg Prod.fst eR).symm, rfl, congrArg (fun z => zpm σ L z) (congrArg Prod.snd eR).symm, rfl⟩
      · have hP0 := zpm_0 σ L (zpa f L 100 S)
        have eR := e0.trans (if_pos c27)
        refine x_aload_n C dX2_readBlock_30 rfl ?_
        refine x_iload_n C dX2_readBlock_31 rfl ?_
        refine x_iload_n C dX2_readBlock_32 rfl ?_
        refine x_iload_n C dX2_readBlock_33 rfl ?_
        refine x_callV C dX2_readBlock_34 (ctX2_readSame h hb (zpa f L 100 S) i1.1 d row col (by omega) hr hc) okX2_readSame lkX2_54 ⟨⟨hP0, rfl, rfl⟩, (by omega)⟩ ⟨by omega, rfl, rfl, Nat.le_of_ble_eq_true rfl⟩ rfl (Or.inl ⟨rfl, rfl⟩) ?_
        exact x_zret (st := []) C dX2_readBlock_37 rfl ⟨congrArg (fun z => some (zi (zb z))) (congrArg Prod.fst eR).symm, rfl, congrArg (fun z => zpm σ L z) (congrArg Prod.snd eR).symm, rfl⟩
    · have hP0 := zpm_0 σ L (zpa f L 48 S)
      have hM := (zpm_M hb (zpa f L 48 S)).1
      have eR := e0.trans (if_pos c6)
      refine x_aload_n C dX2_readBlock_9 rfl ?_
      refine x_getfield C dX2_readBlock_10 lfX2_22 hP0 (by omega) rfl ?_
      refine x_iload_n C dX2_readBlock_13 rfl ?_
      refine x_iload_n C dX2_readBlock_14 rfl ?_
      refine x_iload_n C dX2_readBlock_15 rfl ?_
      refine x_callV C dX2_readBlock_16 (zce hb (zpa f L 48 S) d row col (by omega) hr hc) okX1_setEmpty lkX2_50 ⟨⟨hM, rfl, rfl⟩, (by omega)⟩ ⟨by omega, rfl, rfl, Nat.le_of_ble_eq_true rfl⟩ rfl (Or.inl ⟨rfl, rfl⟩) ?_
      refine x_iconst C dX2_readBlock_19 ?_
      exact x_zret (st := []) (b := true) C dX2_readBlock_20 rfl ⟨congrArg (fun z => some (zi (zb z))) (congrArg Prod.fst eR).symm, rfl, congrArg (fun z => zpm σ L z) (congrArg Prod.snd eR).symm, rfl⟩
end
