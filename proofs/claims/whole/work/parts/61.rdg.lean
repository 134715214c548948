/-- one part behind another -/
def zstp (B : Int → zPS → Bool × zPS) (T : Bool × zPS) (k : Int) : Bool × zPS := if T.1 = true then B k T.2 else T
/-- the parts behind the part q -/
def zsb (B : Int → zPS → Bool × zPS) (q : Int) (T : Bool × zPS) : Bool × zPS := if q = 0 then zstp B (zstp B (zstp B T 1) 2) 3 else if q = 1 then zstp B (zstp B T 2) 3 else if q = 2 then zstp B T 3 else T
def zBk (R : zRVs) (V : Int → Bool × Int × Int) (f : Int → Int) (L : Int) (l : Nat) (a b : Int) : Int → zPS → Bool × zPS := fun q T => zRB R V f L (2 - l) ((l : Int) + 1) (a * zsz l + q / 2 * zsz ((l : Int) + 1)) (b * zsz l + q % 2 * zsz ((l : Int) + 1)) T
/-- what comes behind a block -/
def zKc (R : zRVs) (V : Int → Bool × Int × Int) (f : Int → Int) (L : Int) : Nat → Int → Int → Bool × zPS → Bool × zPS
  | 0, _, _, T => T
  | l + 1, br, bc, T => zKc R V f L l (br / 2) (bc / 2) (zRC f L (zsb (zBk R V f L l (br / 2) (bc / 2)) (br % 2 * 2 + bc % 2) T))
theorem zstp_f {B : Int → zPS → Bool × zPS} {T : Bool × zPS} (h : T.1 = false) (k : Int) : zstp B T k = T := if_neg (by rw [h]; decide)
theorem zsb_f {B : Int → zPS → Bool × zPS} {T : Bool × zPS} (h : T.1 = false) (q : Int) : zsb B q T = T := by
  unfold zsb
  rw [zstp_f h, zstp_f h, zstp_f h]
  split
  · rfl
  split
  · rfl
  split <;> rfl
theorem zKc_f {R : zRVs} {V : Int → Bool × Int × Int} {f : Int → Int} {L : Int} : ∀ (l : Nat) (br bc : Int) (T : Bool × zPS), T.1 = false → zKc R V f L l br bc T = T
  | 0, _, _, _, _ => rfl
  | l + 1, br, bc, T, h => by
    have e : zKc R V f L (l + 1) br bc T = zKc R V f L l (br / 2) (bc / 2) (zRC f L (zsb (zBk R V f L l (br / 2) (bc / 2)) (br % 2 * 2 + bc % 2) T)) := rfl
    rw [e, zsb_f h, show zRC f L T = T from if_neg (by rw [h]; decide)]
    exact zKc_f l _ _ T h
theorem zps4_4 (B : Int → zPS → Bool × zPS) (S : zPS) : zps4 B S 4 = zsb B 0 (B 0 S) := rfl
theorem zsz_2 {l : Nat} (h : l ≤ 2) : zsz l = 2 * zsz ((l : Int) + 1) := by
  have h3 : l = 0 ∨ l = 1 ∨ l = 2 := by omega
  rcases h3 with rfl | rfl | rfl <;> decide
/-- the block of a level at its place -/
def zGB (R : zRVs) (V : Int → Bool × Int × Int) (f : Int → Int) (L : Int) (l : Nat) (br bc : Int) (S : zPS) : Bool × zPS := zRB R V f L (3 - l) l (br * zsz l) (bc * zsz l) S
theorem zBk_G {R : zRVs} {V : Int → Bool × Int × Int} {f : Int → Int} {L : Int} {l : Nat} (hl : l ≤ 2) (a b q : Int) (S : zPS) : zBk R V f L l a b q S = zGB R V f L (l + 1) (2 * a + q / 2) (2 * b + q % 2) S := by
  unfold zBk zGB
  rw [show 3 - (l + 1) = 2 - l by omega, show ((l + 1 : Nat) : Int) = (l : Int) + 1 by omega, zsz_2 hl, Int.add_mul, Int.add_mul, ← Int.mul_assoc, ← Int.mul_assoc, Int.mul_comm a 2, Int.mul_comm b 2]
/-- a block that begins with a bracket -/
theorem zGB_down {R : zRVs} {V : Int → Bool × Int × Int} {f : Int → Int} {L : Int} {l : Nat} (hl : l ≤ 2) (br bc : Int) (S : zPS) (h : zlr f L S.p = 40) : zKc R V f L l br bc (zGB R V f L l br bc S) = zKc R V f L (l + 1) (2 * br) (2 * bc) (zGB R V f L (l + 1) (2 * br) (2 * bc) (zlc l (br * zsz l) (bc * zsz l) (zpa f L 40 S))) := by
  have hk : ∀ c : Int, c ≠ 0 → zpk f L S.p c = decide (zlr f L S.p = c) := fun c hc => zlr_k hc
  have e1 : zGB R V f L l br bc S = zRC f L (zps4 (zBk R V f L l br bc) (zlc l (br * zsz l) (bc * zsz l) (zpa f L 40 S)) 4) := by
    unfold zGB
    rw [show 3 - l = (2 - l) + 1 by omega]
    have e2 : zRB R V f L ((2 - l) + 1) l (br * zsz l) (bc * zsz l) S = zR0 R V f L l (br * zsz l) (bc * zsz l) S (if zpk f L S.p 40 = true then zRC f L (zps4 (zBk R V f L l br bc) (zlc l (br * zsz l) (bc * zsz l) (zpa f L 40 S)) 4) else (false, S)) := rfl
    rw [e2]
    unfold zR0
    rw [hk 48 (by decide), hk 100 (by decide), hk 117 (by decide), hk 102 (by decide), hk 40 (by decide), h]
    rfl
  have e3 : zKc R V f L (l + 1) (2 * br) (2 * bc) (zGB R V f L (l + 1) (2 * br) (2 * bc) (zlc l (br * zsz l) (bc * zsz l) (zpa f L 40 S))) = zKc R V f L l (2 * br / 2) (2 * bc / 2) (zRC f L (zsb (zBk R V f L l (2 * br / 2) (2 * bc / 2)) (2 * br % 2 * 2 + 2 * bc % 2) (zGB R V f L (l + 1) (2 * br) (2 * bc) (zlc l (br * zsz l) (bc * zsz l) (zpa f L 40 S))))) := rfl
  rw [e1, e3, show 2 * br / 2 = br by omega, show 2 * bc / 2 = bc by omega, show 2 * br % 2 * 2 + 2 * bc % 2 = 0 by omega, zps4_4, zBk_G hl, show 2 * br + 0 / 2 = 2 * br by omega, show 2 * bc + 0 % 2 = 2 * bc by omega]
/-- another block -/
theorem zGB_leaf {R : zRVs} {V : Int → Bool × Int × Int} {f : Int → Int} {L : Int} {l : Nat} (br bc : Int) (S : zPS) (h : l = 3 ∨ zlr f L S.p ≠ 40) (hl : l ≤ 3) : zGB R V f L l br bc S = zR0 R V f L l (br * zsz l) (bc * zsz l) S (false, S) := by
  unfold zGB
  rcases h with rfl | h
  · rfl
  · by_cases h3 : l = 3
    · subst h3
      rfl
    · rw [show 3 - l = (2 - l) + 1 by omega]
      have e2 : zRB R V f L ((2 - l) + 1) l (br * zsz l) (bc * zsz l) S = zR0 R V f L l (br * zsz l) (bc * zsz l) S (if zpk f L S.p 40 = true then zRC f L (zps4 (zBk R V f L l br bc) (zlc l (br * zsz l) (bc * zsz l) (zpa f L 40 S)) 4) else (false, S)) := rfl
      rw [e2, zlr_k (show (40 : Int) ≠ 0 by decide), decide_eq_false h, if_neg (by decide)]
/-- behind a block that is read: the next one -/
theorem zKc_next {R : zRVs} {V : Int → Bool × Int × Int} {f : Int → Int} {L : Int} {l : Nat} (hl : l ≤ 2) {br bc br2 bc2 : Int} (S : zPS) (hq : ¬ (br % 2 = 1 ∧ bc % 2 = 1)) (h1 : br2 = br + bc % 2) (h2 : bc2 = bc + (if bc % 2 = 0 then 1 else -1)) : zKc R V f L (l + 1) br bc (true, S) = zKc R V f L (l + 1) br2 bc2 (zGB R V f L (l + 1) br2 bc2 S) := by
  have e1 : ∀ (a b : Int) (T : Bool × zPS), zKc R V f L (l + 1) a b T = zKc R V f L l (a / 2) (b / 2) (zRC f L (zsb (zBk R V f L l (a / 2) (b / 2)) (a % 2 * 2 + b % 2) T)) := fun _ _ _ => rfl
  rw [e1, e1]
  have k1 : br2 / 2 = br / 2 := by
    rw [h1]
    omega
  have k2 : bc2 / 2 = bc / 2 := by
    rw [h2]
    split <;> omega
  have k3 : br2 % 2 * 2 + bc2 % 2 = br % 2 * 2 + bc % 2 + 1 := by
    rw [h1, h2]
    split <;> omega
  have k4 : zGB R V f L (l + 1) br2 bc2 S = zBk R V f L l (br / 2) (bc / 2) (br % 2 * 2 + bc % 2 + 1) S := by
    rw [zBk_G hl, show 2 * (br / 2) + (br % 2 * 2 + bc % 2 + 1) / 2 = br2 by rw [← k3]; omega, show 2 * (bc / 2) + (br % 2 * 2 + bc % 2 + 1) % 2 = bc2 by rw [← k3]; omega]
  rw [k1, k2, k3, k4]
  generalize zBk R V f L l (br / 2) (bc / 2) = B
  have hv : br % 2 * 2 + bc % 2 = 0 ∨ br % 2 * 2 + bc % 2 = 1 ∨ br % 2 * 2 + bc % 2 = 2 := by omega
  rcases hv with hv | hv | hv <;> rw [hv] <;> rfl
/-- the last of the four is read: a bracket is wanted -/
theorem zKc_close {R : zRVs} {V : Int → Bool × Int × Int} {f : Int → Int} {L : Int} {l : Nat} {br bc : Int} (S : zPS) (hq : br % 2 = 1 ∧ bc % 2 = 1) : zKc R V f L (l + 1) br bc (true, S) = zKc R V f L l (br / 2) (bc / 2) (zpk f L S.p 41, zpa f L 41 S) := by
  have e1 : zKc R V f L (l + 1) br bc (true, S) = zKc R V f L l (br / 2) (bc / 2) (zRC f L (zsb (zBk R V f L l (br / 2) (bc / 2)) (br % 2 * 2 + bc % 2) (true, S))) := rfl
  rw [e1, hq.1, hq.2]
  rfl
section
variable {n : Nat} {σ : zS} {P f : Int → Int} {um L p lv br bc : Int} {w : Bool} {Rd Va Ot : Int → Int}
theorem ctX6_goesDown (hn : 155 ≤ n) (hl : 0 ≤ lv ∧ lv ≤ 2) (hb : 0 ≤ br ∧ br < zp2 lv) (hc : 0 ≤ bc ∧ bc < zp2 lv) : zCt 2 0 0 yX6_goesDown cX6_goesDown 1 none [zr 145] n (zqm σ um L p w lv br bc Rd Va Ot) none n (zqm σ um L (p + 1) w (lv + 1) (br * 2) (bc * 2) (zu Rd (zmn lv br bc) 3) Va Ot) := by
  have hz := zmn_in (show 0 ≤ lv ∧ lv ≤ 3 by omega) hb hc
  have hM := zqm_M (σ := σ) (um := um) (L := L) (p := p) (w := w) (lv := lv) (br := br) (bc := bc) (Rd := Rd) (Va := Va) (Ot := Ot)
  have hR := zqm_R (σ := σ) (um := um) (L := L) (p := p) (w := w) (lv := lv) (br := br) (bc := bc) (Rd := Rd) (Va := Va) (Ot := Ot)
  refine zCt.of (by decide) rfl (Nat.le_of_ble_eq_true rfl) (fun K C => ?_)
  refine x_aload_n C dX6_goesDown_0 rfl ?_
  refine x_getfield C dX6_goesDown_1 lfX6_29 hM (by omega) rfl ?_
  refine x_aload_n C dX6_goesDown_4 rfl ?_
  refine x_getfield C dX6_goesDown_5 lfX6_211 hM (by omega) rfl ?_
  refine x_aload_n C dX6_goesDown_8 rfl ?_
  refine x_getfield C dX6_goesDown_9 lfX6_214 hM (by omega) rfl ?_
  refine x_aload_n C dX6_goesDown_12 rfl ?_
  refine x_getfield C dX6_goesDown_13 lfX6_217 hM (by omega) rfl ?_
  refine x_callS C dX6_goesDown_16 (ctX6_node lv br bc (by omega)) okX6_node lkX6_49 ⟨by decide, rfl, rfl, Nat.le_of_ble_eq_true rfl⟩ rfl (Or.inl ⟨rfl, rfl⟩) ?_
  refine x_iconst C dX6_goesDown_19 ?_
  refine x_iastore C dX6_goesDown_20 hR (by omega) ?_
  refine x_nm (fun s20 e20 => ?_)
  have hM := (congrFun e20 145).trans ((zsu_n _ _ (by omega)).trans hM)
  have hR := (congrFun e20 152).trans (zsu_s _ _ _)
  refine x_aload_n C dX6_goesDown_21 rfl ?_
  refine x_dup C dX6_goesDown_22 rfl ?_
  refine x_getfield C dX6_goesDown_23 lfX6_195 hM (by omega) rfl ?_
  refine x_iconst C dX6_goesDown_26 ?_
  refine x_iadd C dX6_goesDown_27 ?_
  refine x_putI C dX6_goesDown_28 lfX6_195 lyX6_9 hM (by omega) (Nat.le_of_ble_eq_true rfl) ?_
  refine x_nm (fun s28 e28 => ?_)
  have hM := (congrFun e28 145).trans (zsu_s _ _ _)
  have hR := (congrFun e28 152).trans ((zsu_n _ _ (by omega)).trans hR)
  refine x_aload_n C dX6_goesDown_31 rfl ?_
  refine x_dup C dX6_goesDown_32 rfl ?_
  refine x_getfield C dX6_goesDown_33 lfX6_211 hM (by omega) rfl ?_
  refine x_iconst C dX6_goesDown_36 ?_
  refine x_iadd C dX6_goesDown_37 ?_
  refine x_putI C dX6_goesDown_38 lfX6_211 lyX6_14 hM (by omega) (Nat.le_of_ble_eq_true rfl) ?_
  refine x_nm (fun s38 e38 => ?_)
  have hM := (congrFun e38 145).trans (zsu_s _ _ _)
  have hR := (congrFun e38 152).trans ((zsu_n _ _ (by omega)).trans hR)
  refine x_aload_n C dX6_goesDown_41 rfl ?_
  refine x_dup C dX6_goesDown_42 rfl ?_
  refine x_getfield C dX6_goesDown_43 lfX6_214 hM (by omega) rfl ?_
  refine x_iconst C dX6_goesDown_46 ?_
  refine x_imul C dX6_goesDown_47 ?_
  refine x_putI C dX6_goesDown_48 lfX6_214 lyX6_15 hM (by omega) (Nat.le_of_ble_eq_true rfl) ?_
  refine x_nm (fun s48 e48 => ?_)
  have hM := (congrFun e48 145).trans (zsu_s _ _ _)
  have hR := (congrFun e48 152).trans ((zsu_n _ _ (by omega)).trans hR)
  refine x_aload_n C dX6_goesDown_51 rfl ?_
  refine x_dup C dX6_goesDown_52 rfl ?_
  refine x_getfield C dX6_goesDown_53 lfX6_217 hM (by omega) rfl ?_
  refine x_iconst C dX6_goesDown_56 ?_
  refine x_imul C dX6_goesDown_57 ?_
  refine x_putI C dX6_goesDown_58 lfX6_217 lyX6_16 hM (by omega) (Nat.le_of_ble_eq_true rfl) ?_
  refine x_nm (fun s58 e58 => ?_)
  have hM := (congrFun e58 145).trans (zsu_s _ _ _)
  have hR := (congrFun e58 152).trans ((zsu_n _ _ (by omega)).trans hR)
  exact x_vret (st := []) C dX6_goesDown_61 rfl ⟨rfl, rfl, by
  rw [e58, e48, e38, e28, e20, zsu_u, zsu_u, zsu_u, zqm_sR]
  exact zqm_sM (p + 1) w (lv + 1) (br * 2) (bc * 2), rfl⟩
end
