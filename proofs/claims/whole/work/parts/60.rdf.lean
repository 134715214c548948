def zqm (σ : zS) (um L p : Int) (w : Bool) (lv br bc : Int) (Rd Va Ot : Int → Int) : zS := zsu (zsu (zsu (zsu σ 152 (zA 341 Rd)) 153 (zA 256 Va)) 154 (zA 16 Ot)) 145 (zMO um L p w lv br bc)
/-- the model has read what the class has -/
def zMt (Rd : Int → Int) (S : zPS) : Prop := (∀ j, 0 ≤ j → j < 256 → S.e j = Rd (85 + j)) ∧ ∀ k, 0 ≤ k → k < 85 → S.t k = Rd k
theorem zno_b {d a b : Int} (hd : 0 ≤ d ∧ d ≤ 3) : zno d (a * zsz d) (b * zsz d) = zmn d a b := by
  have hz := zsz_v hd
  rw [zmn_no, Int.mul_ediv_cancel _ (by omega), Int.mul_ediv_cancel _ (by omega)]
theorem zMt_lay {lv br bc : Int} (hl : 0 ≤ lv ∧ lv ≤ 3) (hb : 0 ≤ br ∧ br < zp2 lv) (hc : 0 ≤ bc ∧ bc < zp2 lv) {Rd Va Ot : Int → Int} {S : zPS} (h : zMt Rd S) {s : Int} {vf : Int → Int} (hv : ∀ i j, (0 ≤ i ∧ i < zsz lv) → (0 ≤ j ∧ j < zsz lv) → vf ((br * zsz lv + i) * 16 + (bc * zsz lv + j)) = zlyv s (zsz lv) Va Ot (i * zsz lv + j)) : zMt (zlyF s (zsz lv) br bc Va Ot (zu Rd (zmn lv br bc) s) (zsz lv * zsz lv).toNat) (S.sm (zsq S.e (br * zsz lv) (bc * zsz lv) (zsz lv) vf) (zu S.t (zno lv (br * zsz lv) (bc * zsz lv)) s)) := by
  have h1 := zbl hl hb
  have h2 := zbl hl hc
  have hz := zmn_in hl hb hc
  rw [zno_b hl]
  obtain ⟨N, hN, hN2⟩ := zszN hl
  rw [hN] at h1 h2 hv ⊢
  rw [show ((N : Int) * N).toNat = N * N by rw [← Int.natCast_mul]; rfl]
  obtain ⟨g1, g2⟩ := zlyF_e (s := s) (Va := Va) (Ot := Ot) (Rd := zu Rd (zmn lv br bc) s) h1 h2 (N * N) (Nat.le_refl _)
  refine ⟨fun j j1 j2 => ?_, fun k k1 k2 => ?_⟩
  · rw [g2 j j1 j2, zu_n _ _ (by omega)]
    show zsq S.e (br * N) (bc * N) N vf j = _
    unfold zsq
    by_cases c : (br * (N : Int) ≤ j / 16 ∧ j / 16 < br * N + N) ∧ bc * N ≤ j % 16 ∧ j % 16 < bc * N + N
    · have hlt : (j / 16 - br * N) * (N : Int) + (j % 16 - bc * N) < ((N * N : Nat) : Int) := by
        have := zrq (r := j / 16 - br * N) (P := N) (a := j % 16 - bc * N) (N := N) (by omega) (by omega)
        rw [Int.natCast_mul]
        omega
      rw [if_pos c, if_pos ⟨c, hlt⟩, ← hv (j / 16 - br * N) (j % 16 - bc * N) (by omega) (by omega)]
      congr 1
      omega
    · rw [if_neg c, if_neg (fun z => c z.1)]
      exact h.1 j j1 j2
  · rw [g1 k k1 k2]
    show zu S.t (zmn lv br bc) s k = _
    unfold zu
    split
    · rfl
    · exact h.2 k k1 k2
/-- the sorts that were read are sorts, or what lay there -/
def zRk (A B : Int → Int) : Prop := ∀ k, 0 ≤ k → k < 85 → (0 ≤ B k ∧ B k ≤ 3) ∨ B k = A k
theorem zRk.rf (A : Int → Int) : zRk A A := fun _ _ _ => Or.inr rfl
theorem zRk.tr {A B C : Int → Int} (h : zRk A B) (h2 : zRk B C) : zRk A C := fun k k1 k2 => by
  rcases h2 k k1 k2 with a | a
  · exact Or.inl a
  · rw [a]
    exact h k k1 k2
theorem zRk.u (A : Int → Int) (i : Int) {v : Int} (hv : 0 ≤ v ∧ v ≤ 3) : zRk A (zu A i v) := fun k _ _ => by
  unfold zu
  split
  · exact Or.inl hv
  · exact Or.inr rfl
theorem zRk.ly {lv br bc : Int} (hl : 0 ≤ lv ∧ lv ≤ 3) (hb : 0 ≤ br ∧ br < zp2 lv) (hc : 0 ≤ bc ∧ bc < zp2 lv) (Rd Va Ot : Int → Int) {s : Int} (hs : 0 ≤ s ∧ s ≤ 3) : zRk Rd (zlyF s (zsz lv) br bc Va Ot (zu Rd (zmn lv br bc) s) (zsz lv * zsz lv).toNat) := by
  have h1 := zbl hl hb
  have h2 := zbl hl hc
  obtain ⟨N, hN, hN2⟩ := zszN hl
  rw [hN] at h1 h2 ⊢
  rw [show ((N : Int) * N).toNat = N * N by rw [← Int.natCast_mul]; rfl]
  have g1 := (zlyF_e (s := s) (Va := Va) (Ot := Ot) (Rd := zu Rd (zmn lv br bc) s) h1 h2 (N * N) (Nat.le_refl _)).1
  intro k k1 k2
  rw [g1 k k1 k2]
  exact zRk.u Rd _ hs k k1 k2
theorem isKT.i2 {R : zRVs} {V : Int → Bool × Int × Int} {f : Int → Int} {L : Int} (h : isKT R V f L) (hL : L ≤ 80) {m p : Int} (x : Int) (u : Int → Int) (hm : 0 ≤ m) (hp : p ≤ 80) : p ≤ (R m p x u).2.1 ∧ (R m p x u).2.1 ≤ 80 := by
  obtain ⟨hV, F, hF, hR⟩ := h
  rw [hR]
  have := zrv_in hF hV x u hL hm hp
  exact ⟨this.1, this.2.1⟩
section
variable {n : Nat} {σ : zS} {P f : Int → Int} {um L p lv br bc : Int} {w : Bool} {Rd Va Ot : Int → Int}
theorem zqm_M : zqm σ um L p w lv br bc Rd Va Ot 145 = zMO um L p w lv br bc := zsu_s _ _ _
theorem zqm_R : zqm σ um L p w lv br bc Rd Va Ot 152 = zA 341 Rd := (zsu_n _ _ (by decide)).trans ((zsu_n _ _ (by decide)).trans ((zsu_n _ _ (by decide)).trans (zsu_s _ _ _)))
theorem zqm_V : zqm σ um L p w lv br bc Rd Va Ot 153 = zA 256 Va := (zsu_n _ _ (by decide)).trans ((zsu_n _ _ (by decide)).trans (zsu_s _ _ _))
theorem zqm_O : zqm σ um L p w lv br bc Rd Va Ot 154 = zA 16 Ot := (zsu_n _ _ (by decide)).trans (zsu_s _ _ _)
theorem zqm_o {k : Int} (h : k ≠ 145 ∧ k ≠ 152 ∧ k ≠ 153 ∧ k ≠ 154) : zqm σ um L p w lv br bc Rd Va Ot k = σ k := (zsu_n _ _ h.1).trans ((zsu_n _ _ h.2.2.2).trans ((zsu_n _ _ h.2.2.1).trans (zsu_n _ _ h.2.1)))
theorem zqm_sM (p2 : Int) (w2 : Bool) (lv2 br2 bc2 : Int) : zsu (zqm σ um L p w lv br bc Rd Va Ot) 145 (zMO um L p2 w2 lv2 br2 bc2) = zqm σ um L p2 w2 lv2 br2 bc2 Rd Va Ot := zsu_u _ _ _ _
theorem zqm_sR (R2 : Int → Int) : zsu (zqm σ um L p w lv br bc Rd Va Ot) 152 (zA 341 R2) = zqm σ um L p w lv br bc R2 Va Ot := by
  unfold zqm
  rw [zsu_comm _ _ _ (show (145 : Int) ≠ 152 by decide), zsu_comm _ _ _ (show (154 : Int) ≠ 152 by decide), zsu_comm _ _ _ (show (153 : Int) ≠ 152 by decide), zsu_u]
theorem zqm_sV (V2 : Int → Int) : zsu (zqm σ um L p w lv br bc Rd Va Ot) 153 (zA 256 V2) = zqm σ um L p w lv br bc Rd V2 Ot := by
  unfold zqm
  rw [zsu_comm _ _ _ (show (145 : Int) ≠ 153 by decide), zsu_comm _ _ _ (show (154 : Int) ≠ 153 by decide), zsu_u]
theorem zqm_sO (O2 : Int → Int) : zsu (zqm σ um L p w lv br bc Rd Va Ot) 154 (zA 16 O2) = zqm σ um L p w lv br bc Rd Va O2 := by
  unfold zqm
  rw [zsu_comm _ _ _ (show (145 : Int) ≠ 154 by decide), zsu_u]
theorem zqc_l (hP : σ 151 = zA 80 P) (hn : 155 ≤ n) (hm : isPm P f L) (hp : 0 ≤ p ∧ p ≤ 80) : zCt 1 0 0 yX6_letter cX6_letter 1 (some .int) [zr 145] n (zqm σ um L p w lv br bc Rd Va Ot) (some (zi (zlr f L p))) n (zqm σ um L p w lv br bc Rd Va Ot) :=
  ctX6_letter zqm_M ((zqm_o (by decide)).trans hP) hn hm hp
theorem zqc_w (hP : σ 151 = zA 80 P) (hn : 155 ≤ n) (hm : isPm P f L) (hp : 0 ≤ p ∧ p ≤ 80) (c : Int) (hc : 0 < c ∧ c < 65536) : zCt 2 0 0 yX6_wants cX6_wants 2 none [zr 145, zi c] n (zqm σ um L p w lv br bc Rd Va Ot) none n (zqm σ um L (if w = true then zpp f L p c else p) (w && zpk f L p c) lv br bc Rd Va Ot) := by
  have h := ctX6_wants (zqm_M (σ := σ) (Rd := Rd) (Va := Va) (Ot := Ot) (um := um) (L := L) (p := p) (w := w) (lv := lv) (br := br) (bc := bc)) ((zqm_o (by decide)).trans hP) hn hm hp c hc
  rw [zqm_sM] at h
  exact h
theorem zqc_v (hP : σ 151 = zA 80 P) (hn : 155 ≤ n) (hm : isPm P f L) (hp : 0 ≤ p ∧ p ≤ 80) : zCt 3 0 0 yX6_value cX6_value 3 (some .int) [zr 145] n (zqm σ um L p true lv br bc Rd Va Ot) (some (zi (zvr f L true p))) n (zqm σ um L (zvl f L p).2.1 (zvl f L p).1 lv br bc Rd Va Ot) := by
  have h := ctX6_value (zqm_M (σ := σ) (Rd := Rd) (Va := Va) (Ot := Ot) (um := um) (L := L) (p := p) (w := true) (lv := lv) (br := br) (bc := bc)) ((zqm_o (by decide)).trans hP) hn hm hp
  rw [zqm_sM] at h
  exact h
theorem zqc_r (hP : σ 151 = zA 80 P) (hn : 155 ≤ n) (hm : isPm P f L) (hp : 0 ≤ p ∧ p ≤ 80) (m : Int) (hmm : 0 ≤ m ∧ m ≤ 256) : zCt 4 0 0 yX6_readsValues cX6_readsValues 5 none [zr 145, zi m] n (zqm σ um L p w lv br bc Rd Va Ot) none n (zqm σ um L (zmvF f L m w p Va).2.1 (zmvF f L m w p Va).1 lv br bc Rd (zmvF f L m w p Va).2.2 Ot) := by
  have h := ctX6_readsValues (zqm_M (σ := σ) (Rd := Rd) (Va := Va) (Ot := Ot) (um := um) (L := L) (p := p) (w := w) (lv := lv) (br := br) (bc := bc)) ((zqm_o (by decide)).trans hP) zqm_V hn hm hp m hmm
  rw [zqm_sV, zqm_sM] at h
  exact h
theorem zqc_k (hn : 155 ≤ n) (m : Int) (hmm : 0 ≤ m ∧ m ≤ 16) (b : Bool) : zCt 1 0 0 yX6_keepsValues cX6_keepsValues 4 none [zr 145, zi m, zi (zb b)] n (zqm σ um L p w lv br bc Rd Va Ot) none n (zqm σ um L p w lv br bc Rd (if b = true then zfv Va 0 m 1 else Va) (zcpy Ot Va m)) := by
  have h := ctX6_keepsValues (zqm_M (σ := σ) (Rd := Rd) (Va := Va) (Ot := Ot) (um := um) (L := L) (p := p) (w := w) (lv := lv) (br := br) (bc := bc)) zqm_V zqm_O hn m hmm b
  rw [zqm_sO, zqm_sV] at h
  exact h
theorem zqc_y (hn : 155 ≤ n) (hl : 0 ≤ lv ∧ lv ≤ 3) (hb : 0 ≤ br ∧ br < zp2 lv) (hc : 0 ≤ bc ∧ bc < zp2 lv) (s : Int) (hs : 0 ≤ s ∧ s ≤ 2) : zCt 2 0 0 yX6_laysRead cX6_laysRead 5 none [zr 145, zi s] n (zqm σ um L p w lv br bc Rd Va Ot) none n (zqm σ um L p w lv br bc (zlyF s (zsz lv) br bc Va Ot (zu Rd (zmn lv br bc) s) (zsz lv * zsz lv).toNat) Va Ot) := by
  have h := ctX6_laysRead (zqm_M (σ := σ) (Rd := Rd) (Va := Va) (Ot := Ot) (um := um) (L := L) (p := p) (w := w) (lv := lv) (br := br) (bc := bc)) zqm_R zqm_V zqm_O hn hl hb hc s hs
  rw [zqm_sR] at h
  exact h

theorem ctX6_readsBlock0 {R : zRVs} {V : Int → Bool × Int × Int} (h : isKT R V f L) (hP : σ 151 = zA 80 P) (hn : 155 ≤ n) (hm : isPm P f L) (hl : 0 ≤ lv ∧ lv ≤ 3) (hb : 0 ≤ br ∧ br < zp2 lv) (hc : 0 ≤ bc ∧ bc < zp2 lv) (S : zPS) (hp : 0 ≤ S.p ∧ S.p ≤ 80) (hMt : zMt Rd S) (hch : zlr f L S.p = 48) : ∃ (p2 : Int) (w2 : Bool) (Rd2 Va2 Ot2 : Int → Int), zCt 6 0 0 yX6_readsBlock cX6_readsBlock 5 none [zr 145] n (zqm σ um L S.p true lv br bc Rd Va Ot) none n (zqm σ um L p2 w2 lv br bc Rd2 Va2 Ot2) ∧ w2 = (zR0 R V f L lv (br * zsz lv) (bc * zsz lv) S (false, S)).1 ∧ p2 = (zR0 R V f L lv (br * zsz lv) (bc * zsz lv) S (false, S)).2.p ∧ (w2 = true → zMt Rd2 (zR0 R V f L lv (br * zsz lv) (bc * zsz lv) S (false, S)).2) ∧ (0 ≤ p2 ∧ p2 ≤ 80) ∧ (w2 = true → S.p + 1 ≤ p2) ∧ zRk Rd Rd2 := by
  have hl9 := hm.l S.p
  have hLt := zqc_l (um := um) (w := true) (lv := lv) (br := br) (bc := bc) (Rd := Rd) (Va := Va) (Ot := Ot) hP hn hm hp
  rw [hch] at hLt
  have hM := zqm_M (σ := σ) (um := um) (L := L) (p := S.p) (w := true) (lv := lv) (br := br) (bc := bc) (Rd := Rd) (Va := Va) (Ot := Ot)
  have hk : ∀ c : Int, c ≠ 0 → zpk f L S.p c = decide (zlr f L S.p = c) := fun c hc => zlr_k hc
  have hSz := ctX6_sizeAt (n := n) (σ := zqm σ um L S.p true lv br bc Rd Va Ot) lv hl
  have hz4 := zsz_v hl
  have hk1 : zpk f L S.p 48 = true := by rw [hk 48 (by decide), hch]; rfl
  have eT : zR0 R V f L lv (br * zsz lv) (bc * zsz lv) S (false, S) = (true, zle lv (br * zsz lv) (bc * zsz lv) (zpa f L 48 S)) := if_pos hk1
  rw [eT]
  refine ⟨S.p + 1, true, zlyF 0 (zsz lv) br bc Va Ot (zu Rd (zmn lv br bc) 0) (zsz lv * zsz lv).toNat, Va, Ot, zCt.of (by decide) rfl (Nat.le_of_ble_eq_true rfl) (fun K C => ?_), rfl, (zpp_t hk1).symm, fun _ => zMt_lay hl hb hc hMt (s := 0) (Va := Va) (Ot := Ot) (fun i j _ _ => rfl), ⟨by have := zpk_in hk1; have := hm.1; omega, by have := zpk_in hk1; have := hm.1; omega⟩, fun _ => Int.le_refl _, zRk.ly hl hb hc _ _ _ (by decide)⟩
  refine x_aload_n C dX6_readsBlock_0 rfl ?_
  refine x_getfield C dX6_readsBlock_1 lfX6_211 hM (by omega) rfl ?_
  refine x_callS C dX6_readsBlock_4 hSz okX6_sizeAt lkX6_67 ⟨by decide, rfl, rfl, Nat.le_of_ble_eq_true rfl⟩ rfl (Or.inl ⟨rfl, rfl⟩) ?_
  refine x_istore_n C dX6_readsBlock_7 (by decide) ?_
  refine x_aload_n C dX6_readsBlock_8 rfl ?_
  refine x_callV C dX6_readsBlock_9 hLt okX6_letter lkX6_202 ⟨⟨hM, rfl, rfl⟩, (by omega)⟩ ⟨by decide, rfl, rfl, Nat.le_of_ble_eq_true rfl⟩ rfl (Or.inl ⟨rfl, rfl⟩) ?_
  refine x_istore_n C dX6_readsBlock_12 (by decide) ?_
  refine x_aload_n C dX6_readsBlock_13 rfl ?_
  refine x_iload_n C dX6_readsBlock_14 rfl ?_
  refine x_bipush C dX6_readsBlock_15 (by decide) ?_
  refine x_icmp_eq (tgt := 38) C dX6_readsBlock_17 (by decide) (by omega) (fun c17 => ?_) (fun c17 => ?_)
  · refine x_iconst C dX6_readsBlock_38 ?_
    refine x_goto (tgt := 43) C dX6_readsBlock_39 (by decide) ?_
    refine x_putZ C dX6_readsBlock_43 lfX6_198 lyX6_10 (by first | decide | omega) hM (by omega) (Nat.le_of_ble_eq_true rfl) ?_
    refine x_nm (fun s43 e43 => ?_)
    have hM := (congrFun e43 145).trans (zsu_s _ _ _)
    refine x_aload_n C dX6_readsBlock_46 rfl ?_
    refine x_dup C dX6_readsBlock_47 rfl ?_
    refine x_getfield C dX6_readsBlock_48 lfX6_195 hM (by omega) rfl ?_
    refine x_aload_n C dX6_readsBlock_51 rfl ?_
    refine x_getfield C dX6_readsBlock_52 lfX6_198 hM (by omega) rfl ?_
    refine x_if_eq (tgt := 62) C dX6_readsBlock_55 (by decide) (by omega) (fun c55 => ?_) (fun c55 => ?_)
    · exfalso; omega
    · refine x_iconst C dX6_readsBlock_58 ?_
      refine x_goto (tgt := 63) C dX6_readsBlock_59 (by decide) ?_
      refine x_iadd C dX6_readsBlock_63 ?_
      refine x_putI C dX6_readsBlock_64 lfX6_195 lyX6_9 hM (by omega) (Nat.le_of_ble_eq_true rfl) ?_
      refine x_nm (fun s64 e64 => ?_)
      have hM := (congrFun e64 145).trans (zsu_s _ _ _)
      have e64 : s64 = zqm σ um L (S.p + 1) true lv br bc Rd Va Ot := by
        rw [e64, e43, zsu_u]
        exact zqm_sM (S.p + 1) true lv br bc
      subst e64
      have hM := zqm_M (σ := σ) (um := um) (L := L) (p := S.p + 1) (w := true) (lv := lv) (br := br) (bc := bc) (Rd := Rd) (Va := Va) (Ot := Ot)
      refine x_iload_n C dX6_readsBlock_67 rfl ?_
      refine x_lookup (off := 44) (tgt := 112) C dX6_readsBlock_68 (by decide) (by decide) rfl (by decide) ?_
      refine x_aload_n C dX6_readsBlock_112 rfl ?_
      refine x_iconst C dX6_readsBlock_113 ?_
      refine x_callV C dX6_readsBlock_114 (zqc_y hn hl hb hc 0 (by decide)) okX6_laysRead lkX6_220 ⟨⟨hM, rfl, rfl⟩, (by omega)⟩ ⟨by decide, rfl, rfl, Nat.le_of_ble_eq_true rfl⟩ rfl (Or.inl ⟨rfl, rfl⟩) ?_
      refine x_goto (tgt := 207) C dX6_readsBlock_117 (by decide) ?_
      exact x_vret (st := []) C dX6_readsBlock_207 rfl ⟨rfl, rfl, rfl, rfl⟩
  · exfalso; omega

theorem ctX6_readsBlockN {R : zRVs} {V : Int → Bool × Int × Int} (h : isKT R V f L) (hP : σ 151 = zA 80 P) (hn : 155 ≤ n) (hm : isPm P f L) (hl : 0 ≤ lv ∧ lv ≤ 3) (hb : 0 ≤ br ∧ br < zp2 lv) (hc : 0 ≤ bc ∧ bc < zp2 lv) (S : zPS) (hp : 0 ≤ S.p ∧ S.p ≤ 80) (hMt : zMt Rd S) (hch : zlr f L S.p ≠ 48 ∧ zlr f L S.p ≠ 100 ∧ zlr f L S.p ≠ 117 ∧ zlr f L S.p ≠ 102) : ∃ (p2 : Int) (w2 : Bool) (Rd2 Va2 Ot2 : Int → Int), zCt 6 0 0 yX6_readsBlock cX6_readsBlock 5 none [zr 145] n (zqm σ um L S.p true lv br bc Rd Va Ot) none n (zqm σ um L p2 w2 lv br bc Rd2 Va2 Ot2) ∧ w2 = (zR0 R V f L lv (br * zsz lv) (bc * zsz lv) S (false, S)).1 ∧ p2 = (zR0 R V f L lv (br * zsz lv) (bc * zsz lv) S (false, S)).2.p ∧ (w2 = true → zMt Rd2 (zR0 R V f L lv (br * zsz lv) (bc * zsz lv) S (false, S)).2) ∧ (0 ≤ p2 ∧ p2 ≤ 80) ∧ (w2 = true → S.p + 1 ≤ p2) ∧ zRk Rd Rd2 := by
  have hl9 := hm.l S.p
  have hLt := zqc_l (um := um) (w := true) (lv := lv) (br := br) (bc := bc) (Rd := Rd) (Va := Va) (Ot := Ot) hP hn hm hp
  have hM := zqm_M (σ := σ) (um := um) (L := L) (p := S.p) (w := true) (lv := lv) (br := br) (bc := bc) (Rd := Rd) (Va := Va) (Ot := Ot)
  have hk : ∀ c : Int, c ≠ 0 → zpk f L S.p c = decide (zlr f L S.p = c) := fun c hc => zlr_k hc
  have hSz := ctX6_sizeAt (n := n) (σ := zqm σ um L S.p true lv br bc Rd Va Ot) lv hl
  have hz4 := zsz_v hl
  have eT : zR0 R V f L lv (br * zsz lv) (bc * zsz lv) S (false, S) = (false, S) := by
    unfold zR0
    rw [hk 48 (by decide), hk 100 (by decide), hk 117 (by decide), hk 102 (by decide), decide_eq_false hch.1, decide_eq_false hch.2.1, decide_eq_false hch.2.2.1, decide_eq_false hch.2.2.2, if_neg (by decide), if_neg (by decide), if_neg (by decide), if_neg (by decide)]
  rw [eT]
  refine ⟨S.p, false, Rd, Va, Ot, zCt.of (by decide) rfl (Nat.le_of_ble_eq_true rfl) (fun K C => ?_), rfl, rfl, fun z => (by cases z), hp, fun z => (by cases z), zRk.rf _⟩
  refine x_aload_n C dX6_readsBlock_0 rfl ?_
  refine x_getfield C dX6_readsBlock_1 lfX6_211 hM (by omega) rfl ?_
  refine x_callS C dX6_readsBlock_4 hSz okX6_sizeAt lkX6_67 ⟨by decide, rfl, rfl, Nat.le_of_ble_eq_true rfl⟩ rfl (Or.inl ⟨rfl, rfl⟩) ?_
  refine x_istore_n C dX6_readsBlock_7 (by decide) ?_
  refine x_aload_n C dX6_readsBlock_8 rfl ?_
  refine x_callV C dX6_readsBlock_9 hLt okX6_letter lkX6_202 ⟨⟨hM, rfl, rfl⟩, (by omega)⟩ ⟨by decide, rfl, rfl, Nat.le_of_ble_eq_true rfl⟩ rfl (Or.inl ⟨rfl, rfl⟩) ?_
  refine x_istore_n C dX6_readsBlock_12 (by decide) ?_
  refine x_aload_n C dX6_readsBlock_13 rfl ?_
  refine x_iload_n C dX6_readsBlock_14 rfl ?_
  refine x_bipush C dX6_readsBlock_15 (by decide) ?_
  refine x_icmp_eq (tgt := 38) C dX6_readsBlock_17 (by decide) (by omega) (fun c17 => ?_) (fun c17 => ?_)
  · exfalso; omega
  · refine x_iload_n C dX6_readsBlock_20 rfl ?_
    refine x_bipush C dX6_readsBlock_21 (by decide) ?_
    refine x_icmp_eq (tgt := 38) C dX6_readsBlock_23 (by decide) (by omega) (fun c23 => ?_) (fun c23 => ?_)
    · exfalso; omega
    · refine x_iload_n C dX6_readsBlock_26 rfl ?_
      refine x_bipush C dX6_readsBlock_27 (by decide) ?_
      refine x_icmp_eq (tgt := 38) C dX6_readsBlock_29 (by decide) (by omega) (fun c29 => ?_) (fun c29 => ?_)
      · exfalso; omega
      · refine x_iload_n C dX6_readsBlock_32 rfl ?_
        refine x_bipush C dX6_readsBlock_33 (by decide) ?_
        refine x_icmp_ne (tgt := 42) C dX6_readsBlock_35 (by decide) (by omega) (fun c35 => ?_) (fun c35 => ?_)
        · refine x_iconst C dX6_readsBlock_42 ?_
          refine x_putZ C dX6_readsBlock_43 lfX6_198 lyX6_10 (by first | decide | omega) hM (by omega) (Nat.le_of_ble_eq_true rfl) ?_
          refine x_nm (fun s43 e43 => ?_)
          have hM := (congrFun e43 145).trans (zsu_s _ _ _)
          refine x_aload_n C dX6_readsBlock_46 rfl ?_
          refine x_dup C dX6_readsBlock_47 rfl ?_
          refine x_getfield C dX6_readsBlock_48 lfX6_195 hM (by omega) rfl ?_
          refine x_aload_n C dX6_readsBlock_51 rfl ?_
          refine x_getfield C dX6_readsBlock_52 lfX6_198 hM (by omega) rfl ?_
          refine x_if_eq (tgt := 62) C dX6_readsBlock_55 (by decide) (by omega) (fun c55 => ?_) (fun c55 => ?_)
          · refine x_iconst C dX6_readsBlock_62 ?_
            refine x_iadd C dX6_readsBlock_63 ?_
            refine x_putI C dX6_readsBlock_64 lfX6_195 lyX6_9 hM (by omega) (Nat.le_of_ble_eq_true rfl) ?_
            refine x_nm (fun s64 e64 => ?_)
            have hM := (congrFun e64 145).trans (zsu_s _ _ _)
            refine x_iload_n C dX6_readsBlock_67 rfl ?_
            refine x_lookup (off := 139) (tgt := 207) C dX6_readsBlock_68 (by omega) (by decide) (by
              show Op.lookupswitch.offset [(48, 44), (100, 52), (102, 124), (117, 94)] 139 (zlr f L S.p) = 139
              simp [Op.lookupswitch.offset, Ne.symm hch.1, Ne.symm hch.2.1, Ne.symm hch.2.2.1, Ne.symm hch.2.2.2, hch.1, hch.2.1, hch.2.2.1, hch.2.2.2]) (by decide) ?_
            exact x_vret (st := []) C dX6_readsBlock_207 rfl ⟨rfl, rfl, by
  rw [e64, e43, zsu_u, Int.add_zero]
  exact zqm_sM S.p false lv br bc, rfl⟩
          · exact absurd rfl c55
        · exfalso; omega

theorem ctX6_readsBlockF {R : zRVs} {V : Int → Bool × Int × Int} (h : isKT R V f L) (hP : σ 151 = zA 80 P) (hn : 155 ≤ n) (hm : isPm P f L) (hl : 0 ≤ lv ∧ lv ≤ 3) (hb : 0 ≤ br ∧ br < zp2 lv) (hc : 0 ≤ bc ∧ bc < zp2 lv) (S : zPS) (hp : 0 ≤ S.p ∧ S.p ≤ 80) (hMt : zMt Rd S) (hch : zlr f L S.p = 102) : ∃ (p2 : Int) (w2 : Bool) (Rd2 Va2 Ot2 : Int → Int), zCt 6 0 0 yX6_readsBlock cX6_readsBlock 5 none [zr 145] n (zqm σ um L S.p true lv br bc Rd Va Ot) none n (zqm σ um L p2 w2 lv br bc Rd2 Va2 Ot2) ∧ w2 = (zR0 R V f L lv (br * zsz lv) (bc * zsz lv) S (false, S)).1 ∧ p2 = (zR0 R V f L lv (br * zsz lv) (bc * zsz lv) S (false, S)).2.p ∧ (w2 = true → zMt Rd2 (zR0 R V f L lv (br * zsz lv) (bc * zsz lv) S (false, S)).2) ∧ (0 ≤ p2 ∧ p2 ≤ 80) ∧ (w2 = true → S.p + 1 ≤ p2) ∧ zRk Rd Rd2 := by
  have hl9 := hm.l S.p
  have hLt := zqc_l (um := um) (w := true) (lv := lv) (br := br) (bc := bc) (Rd := Rd) (Va := Va) (Ot := Ot) hP hn hm hp
  rw [hch] at hLt
  have hM := zqm_M (σ := σ) (um := um) (L := L) (p := S.p) (w := true) (lv := lv) (br := br) (bc := bc) (Rd := Rd) (Va := Va) (Ot := Ot)
  have hk : ∀ c : Int, c ≠ 0 → zpk f L S.p c = decide (zlr f L S.p = c) := fun c hc => zlr_k hc
  have hSz := ctX6_sizeAt (n := n) (σ := zqm σ um L S.p true lv br bc Rd Va Ot) lv hl
  have hz4 := zsz_v hl
  have hk1 : zpk f L S.p 102 = true := by rw [hk 102 (by decide), hch]; rfl
  have eT : zR0 R V f L lv (br * zsz lv) (bc * zsz lv) S (false, S) = zRF R lv (br * zsz lv) (bc * zsz lv) (zpa f L 102 S) := by
    unfold zR0
    rw [hk 48 (by decide), hk 100 (by decide), hk 117 (by decide), hk1, hch]
    rfl
  have eP : (zpa f L 102 S).p = S.p + 1 := zpp_t hk1
  have hp1 : 0 ≤ S.p + 1 ∧ S.p + 1 ≤ 80 := by
    have := zpk_in hk1
    have := hm.1
    omega
  have hzz : 0 ≤ zsz lv * zsz lv ∧ zsz lv * zsz lv ≤ 256 := by
    rcases hz4 with ⟨-, q⟩ | ⟨-, q⟩ | ⟨-, q⟩ | ⟨-, q⟩ <;> rw [q] <;> decide
  obtain ⟨g1, g2, g3⟩ := zmvF_R h hm.1 hzz.1 hp1 S.x Va S.w
  have eF : zRF R lv (br * zsz lv) (bc * zsz lv) (zpa f L 102 S) = ((R (zsz lv * zsz lv) (S.p + 1) S.x S.w).1, if (R (zsz lv * zsz lv) (S.p + 1) S.x S.w).1 = true then zlw lv (br * zsz lv) (bc * zsz lv) (zrx R (zsz lv * zsz lv) (zpa f L 102 S)) else zrx R (zsz lv * zsz lv) (zpa f L 102 S)) := by
    unfold zRF
    rw [eP]
    rfl
  have eX : (zrx R (zsz lv * zsz lv) (zpa f L 102 S)).p = (R (zsz lv * zsz lv) (S.p + 1) S.x S.w).2.1 := by
    unfold zrx
    rw [eP]
    rfl
  have eW : (zrx R (zsz lv * zsz lv) (zpa f L 102 S)).w = (R (zsz lv * zsz lv) (S.p + 1) S.x S.w).2.2.2 := by
    unfold zrx
    rw [eP]
    rfl
  rw [eT, eF]
  refine ⟨(zmvF f L (zsz lv * zsz lv) true (S.p + 1) Va).2.1, (zmvF f L (zsz lv * zsz lv) true (S.p + 1) Va).1, zlyF 1 (zsz lv) br bc (zmvF f L (zsz lv * zsz lv) true (S.p + 1) Va).2.2 Ot (zu Rd (zmn lv br bc) 1) (zsz lv * zsz lv).toNat, (zmvF f L (zsz lv * zsz lv) true (S.p + 1) Va).2.2, Ot, zCt.of (by decide) rfl (Nat.le_of_ble_eq_true rfl) (fun K C => ?_), g1, ?_, fun hok => ?_, by have g4 := h.i2 hm.1.2 S.x S.w hzz.1 hp1.2; rw [g2]; omega, fun _ => (by have g4 := h.i2 hm.1.2 S.x S.w hzz.1 hp1.2; rw [g2]; omega), zRk.ly hl hb hc _ _ _ (by decide)⟩
  rotate_left
  · rw [g2]
    dsimp only
    split
    · exact eX.symm
    · exact eX.symm
  · have hok : (R (zsz lv * zsz lv) (S.p + 1) S.x S.w).1 = true := g1.symm.trans hok
    dsimp only
    rw [if_pos hok]
    refine zMt_lay hl hb hc (S := zrx R (zsz lv * zsz lv) (zpa f L 102 S)) hMt (s := 1) (Va := (zmvF f L (zsz lv * zsz lv) true (S.p + 1) Va).2.2) (Ot := Ot) (fun i j hi hj => ?_)
    have hij := zrq hi hj
    have hz16 : (br * zsz lv + i) * 16 + (bc * zsz lv + j) = ((br * zsz lv + i) * 16 + (bc * zsz lv + j)) := rfl
    have hb2 := zbl hl hb
    have hc2 := zbl hl hc
    show (zrx R (zsz lv * zsz lv) (zpa f L 102 S)).w ((((br * zsz lv + i) * 16 + (bc * zsz lv + j)) / 16 - br * zsz lv) * zsz lv + (((br * zsz lv + i) * 16 + (bc * zsz lv + j)) % 16 - bc * zsz lv)) = (zmvF f L (zsz lv * zsz lv) true (S.p + 1) Va).2.2 (i * zsz lv + j)
    rw [show ((br * zsz lv + i) * 16 + (bc * zsz lv + j)) / 16 - br * zsz lv = i by omega, show ((br * zsz lv + i) * 16 + (bc * zsz lv + j)) % 16 - bc * zsz lv = j by omega, g3 hok _ hij.1 hij.2, eW]
  refine x_aload_n C dX6_readsBlock_0 rfl ?_
  refine x_getfield C dX6_readsBlock_1 lfX6_211 hM (by omega) rfl ?_
  refine x_callS C dX6_readsBlock_4 hSz okX6_sizeAt lkX6_67 ⟨by decide, rfl, rfl, Nat.le_of_ble_eq_true rfl⟩ rfl (Or.inl ⟨rfl, rfl⟩) ?_
  refine x_istore_n C dX6_readsBlock_7 (by decide) ?_
  refine x_aload_n C dX6_readsBlock_8 rfl ?_
  refine x_callV C dX6_readsBlock_9 hLt okX6_letter lkX6_202 ⟨⟨hM, rfl, rfl⟩, (by omega)⟩ ⟨by decide, rfl, rfl, Nat.le_of_ble_eq_true rfl⟩ rfl (Or.inl ⟨rfl, rfl⟩) ?_
  refine x_istore_n C dX6_readsBlock_12 (by decide) ?_
  refine x_aload_n C dX6_readsBlock_13 rfl ?_
  refine x_iload_n C dX6_readsBlock_14 rfl ?_
  refine x_bipush C dX6_readsBlock_15 (by decide) ?_
  refine x_icmp_eq (tgt := 38) C dX6_readsBlock_17 (by decide) (by omega) (fun c17 => ?_) (fun c17 => ?_)
  · exfalso; omega
  · refine x_iload_n C dX6_readsBlock_20 rfl ?_
    refine x_bipush C dX6_readsBlock_21 (by decide) ?_
    refine x_icmp_eq (tgt := 38) C dX6_readsBlock_23 (by decide) (by omega) (fun c23 => ?_) (fun c23 => ?_)
    · exfalso; omega
    · refine x_iload_n C dX6_readsBlock_26 rfl ?_
      refine x_bipush C dX6_readsBlock_27 (by decide) ?_
      refine x_icmp_eq (tgt := 38) C dX6_readsBlock_29 (by decide) (by omega) (fun c29 => ?_) (fun c29 => ?_)
      · exfalso; omega
      · refine x_iload_n C dX6_readsBlock_32 rfl ?_
        refine x_bipush C dX6_readsBlock_33 (by decide) ?_
        refine x_icmp_ne (tgt := 42) C dX6_readsBlock_35 (by decide) (by omega) (fun c35 => ?_) (fun c35 => ?_)
        · exfalso; omega
        · refine x_iconst C dX6_readsBlock_38 ?_
          refine x_goto (tgt := 43) C dX6_readsBlock_39 (by decide) ?_
          refine x_putZ C dX6_readsBlock_43 lfX6_198 lyX6_10 (by first | decide | omega) hM (by omega) (Nat.le_of_ble_eq_true rfl) ?_
          refine x_nm (fun s43 e43 => ?_)
          have hM := (congrFun e43 145).trans (zsu_s _ _ _)
          refine x_aload_n C dX6_readsBlock_46 rfl ?_
          refine x_dup C dX6_readsBlock_47 rfl ?_
          refine x_getfield C dX6_readsBlock_48 lfX6_195 hM (by omega) rfl ?_
          refine x_aload_n C dX6_readsBlock_51 rfl ?_
          refine x_getfield C dX6_readsBlock_52 lfX6_198 hM (by omega) rfl ?_
          refine x_if_eq (tgt := 62) C dX6_readsBlock_55 (by decide) (by omega) (fun c55 => ?_) (fun c55 => ?_)
          · exfalso; omega
          · refine x_iconst C dX6_readsBlock_58 ?_
            refine x_goto (tgt := 63) C dX6_readsBlock_59 (by decide) ?_
            refine x_iadd C dX6_readsBlock_63 ?_
            refine x_putI C dX6_readsBlock_64 lfX6_195 lyX6_9 hM (by omega) (Nat.le_of_ble_eq_true rfl) ?_
            refine x_nm (fun s64 e64 => ?_)
            have hM := (congrFun e64 145).trans (zsu_s _ _ _)
            have e64 : s64 = zqm σ um L (S.p + 1) true lv br bc Rd Va Ot := by
              rw [e64, e43, zsu_u]
              exact zqm_sM (S.p + 1) true lv br bc
            subst e64
            have hM := zqm_M (σ := σ) (um := um) (L := L) (p := S.p + 1) (w := true) (lv := lv) (br := br) (bc := bc) (Rd := Rd) (Va := Va) (Ot := Ot)
            refine x_iload_n C dX6_readsBlock_67 rfl ?_
            refine x_lookup (off := 124) (tgt := 192) C dX6_readsBlock_68 (by decide) (by decide) rfl (by decide) ?_
            refine x_aload_n C dX6_readsBlock_192 rfl ?_
            refine x_iload_n C dX6_readsBlock_193 rfl ?_
            refine x_iload_n C dX6_readsBlock_194 rfl ?_
            refine x_imul C dX6_readsBlock_195 ?_
            refine x_callV C dX6_readsBlock_196 (zqc_r hP hn hm hp1 (zsz lv * zsz lv) hzz) okX6_readsValues lkX6_227 ⟨⟨hM, rfl, rfl⟩, (by omega)⟩ ⟨by decide, rfl, rfl, Nat.le_of_ble_eq_true rfl⟩ rfl (Or.inl ⟨rfl, rfl⟩) ?_
            have hM := zqm_M (σ := σ) (um := um) (L := L) (p := (zmvF f L (zsz lv * zsz lv) true (S.p + 1) Va).2.1) (w := (zmvF f L (zsz lv * zsz lv) true (S.p + 1) Va).1) (lv := lv) (br := br) (bc := bc) (Rd := Rd) (Va := (zmvF f L (zsz lv * zsz lv) true (S.p + 1) Va).2.2) (Ot := Ot)
            refine x_aload_n C dX6_readsBlock_199 rfl ?_
            refine x_iconst C dX6_readsBlock_200 ?_
            refine x_callV C dX6_readsBlock_201 (zqc_y hn hl hb hc 1 (by decide)) okX6_laysRead lkX6_220 ⟨⟨hM, rfl, rfl⟩, (by omega)⟩ ⟨by decide, rfl, rfl, Nat.le_of_ble_eq_true rfl⟩ rfl (Or.inl ⟨rfl, rfl⟩) ?_
            refine x_goto (tgt := 207) C dX6_readsBlock_204 (by decide) ?_
            exact x_vret (st := []) C dX6_readsBlock_207 rfl ⟨rfl, rfl, rfl, rfl⟩

theorem ctX6_readsBlockD {R : zRVs} {V : Int → Bool × Int × Int} (h : isKT R V f L) (hP : σ 151 = zA 80 P) (hn : 155 ≤ n) (hm : isPm P f L) (hl : 0 ≤ lv ∧ lv ≤ 3) (hb : 0 ≤ br ∧ br < zp2 lv) (hc : 0 ≤ bc ∧ bc < zp2 lv) (S : zPS) (hp : 0 ≤ S.p ∧ S.p ≤ 80) (hMt : zMt Rd S) (hch : zlr f L S.p = 100) : ∃ (p2 : Int) (w2 : Bool) (Rd2 Va2 Ot2 : Int → Int), zCt 6 0 0 yX6_readsBlock cX6_readsBlock 5 none [zr 145] n (zqm σ um L S.p true lv br bc Rd Va Ot) none n (zqm σ um L p2 w2 lv br bc Rd2 Va2 Ot2) ∧ w2 = (zR0 R V f L lv (br * zsz lv) (bc * zsz lv) S (false, S)).1 ∧ p2 = (zR0 R V f L lv (br * zsz lv) (bc * zsz lv) S (false, S)).2.p ∧ (w2 = true → zMt Rd2 (zR0 R V f L lv (br * zsz lv) (bc * zsz lv) S (false, S)).2) ∧ (0 ≤ p2 ∧ p2 ≤ 80) ∧ (w2 = true → S.p + 1 ≤ p2) ∧ zRk Rd Rd2 := by
  have hl9 := hm.l S.p
  have hLt := zqc_l (um := um) (w := true) (lv := lv) (br := br) (bc := bc) (Rd := Rd) (Va := Va) (Ot := Ot) hP hn hm hp
  rw [hch] at hLt
  have hM := zqm_M (σ := σ) (um := um) (L := L) (p := S.p) (w := true) (lv := lv) (br := br) (bc := bc) (Rd := Rd) (Va := Va) (Ot := Ot)
  have hk : ∀ c : Int, c ≠ 0 → zpk f L S.p c = decide (zlr f L S.p = c) := fun c hc => zlr_k hc
  have hSz := ctX6_sizeAt (n := n) (σ := zqm σ um L S.p true lv br bc Rd Va Ot) lv hl
  have hz4 := zsz_v hl
  have hk1 : zpk f L S.p 100 = true := by rw [hk 100 (by decide), hch]; rfl
  have eT : zR0 R V f L lv (br * zsz lv) (bc * zsz lv) S (false, S) = zRS V lv (br * zsz lv) (bc * zsz lv) (zpa f L 100 S) := by
    unfold zR0
    rw [hk 48 (by decide), hk1, hch]
    rfl
  have eP : (zpa f L 100 S).p = S.p + 1 := zpp_t hk1
  have hp1 : 0 ≤ S.p + 1 ∧ S.p + 1 ≤ 80 := by
    have := zpk_in hk1
    have := hm.1
    omega
  have hV := h.1
  have eF : zRS V lv (br * zsz lv) (bc * zsz lv) (zpa f L 100 S) = ((zvl f L (S.p + 1)).1, if (zvl f L (S.p + 1)).1 = true then zlt lv (br * zsz lv) (bc * zsz lv) ((((zpa f L 100 S).sp (zvl f L (S.p + 1)).2.1 (zvl f L (S.p + 1)).2.2).su (zfx 16 (zvl f L (S.p + 1)).2.2 S.u)).sv (zfx 16 1 S.v)) else (zpa f L 100 S).sp (zvl f L (S.p + 1)).2.1 (zvl f L (S.p + 1)).2.2) := by
    unfold zRS
    rw [eP, hV]
    rfl
  obtain ⟨N, hN, hN2⟩ := zszN hl
  rw [eT, eF]
  have hx9 := znbr_in hm true (zvq f L true (S.p + 1))
  refine ⟨(zvl f L (S.p + 1)).2.1, (zvl f L (S.p + 1)).1, zlyF 2 (zsz lv) br bc (zfv (zfv Va 0 (zsz lv) (zvr f L true (S.p + 1))) 0 (zsz lv) 1) (zcpy Ot (zfv Va 0 (zsz lv) (zvr f L true (S.p + 1))) (zsz lv)) (zu Rd (zmn lv br bc) 2) (zsz lv * zsz lv).toNat, zfv (zfv Va 0 (zsz lv) (zvr f L true (S.p + 1))) 0 (zsz lv) 1, zcpy Ot (zfv Va 0 (zsz lv) (zvr f L true (S.p + 1))) (zsz lv), zCt.of (by decide) rfl (Nat.le_of_ble_eq_true rfl) (fun K C => ?_), rfl, ?_, fun hok => ?_, by have g4 := zvl_in (f := f) (L := L) (p := S.p + 1) hm.1.2 hp1.2; omega, fun _ => (by have g4 := zvl_in (f := f) (L := L) (p := S.p + 1) hm.1.2 hp1.2; omega), zRk.ly hl hb hc _ _ _ (by decide)⟩
  rotate_left
  · dsimp only
    split <;> rfl
  · dsimp only
    rw [if_pos hok]
    refine zMt_lay hl hb hc (S := (((zpa f L 100 S).sp (zvl f L (S.p + 1)).2.1 (zvl f L (S.p + 1)).2.2).su (zfx 16 (zvl f L (S.p + 1)).2.2 S.u)).sv (zfx 16 1 S.v)) hMt (s := 2) (fun i j hi hj => ?_)
    have hb2 := zbl hl hb
    have hc2 := zbl hl hc
    show zfx 16 (zvl f L (S.p + 1)).2.2 S.u (((br * zsz lv + i) * 16 + (bc * zsz lv + j)) / 16 - br * zsz lv) * zfx 16 1 S.v (((br * zsz lv + i) * 16 + (bc * zsz lv + j)) % 16 - bc * zsz lv) = zcpy Ot (zfv Va 0 (zsz lv) (zvr f L true (S.p + 1))) (zsz lv) ((i * zsz lv + j) / zsz lv) * zfv (zfv Va 0 (zsz lv) (zvr f L true (S.p + 1))) 0 (zsz lv) 1 ((i * zsz lv + j) % zsz lv)
    have hq := zdq (q := N) (i := i) (j := j) (by omega)
    rw [← hN] at hq
    rw [show ((br * zsz lv + i) * 16 + (bc * zsz lv + j)) / 16 - br * zsz lv = i by omega, show ((br * zsz lv + i) * 16 + (bc * zsz lv + j)) % 16 - bc * zsz lv = j by omega, hq.1, hq.2, zcpy_in _ _ hi, zvr_v hok]
    unfold zfx zfv
    rw [if_pos (by omega), if_pos (by omega), if_pos (by omega), if_pos (by omega)]
  have loop : ∀ k : Nat, k ≤ N → K 128 [some (zr 145), some (zi (zsz lv)), none, some (zi (zvr f L true (S.p + 1))), some (zi (k : Int))] [] n (zqm σ um L (zvl f L (S.p + 1)).2.1 (zvl f L (S.p + 1)).1 lv br bc Rd (zfv Va 0 k (zvr f L true (S.p + 1))) Ot) 0 := by
    refine zloop _ N (fun k hk ih => ?_)
    generalize hW : zfv Va 0 (k : Int) (zvr f L true (S.p + 1)) = W
    have hM := zqm_M (σ := σ) (um := um) (L := L) (p := (zvl f L (S.p + 1)).2.1) (w := (zvl f L (S.p + 1)).1) (lv := lv) (br := br) (bc := bc) (Rd := Rd) (Va := W) (Ot := Ot)
    have hV9 := zqm_V (σ := σ) (um := um) (L := L) (p := (zvl f L (S.p + 1)).2.1) (w := (zvl f L (S.p + 1)).1) (lv := lv) (br := br) (bc := bc) (Rd := Rd) (Va := W) (Ot := Ot)
    refine x_iload C dX6_readsBlock_128 rfl ?_
    refine x_iload_n C dX6_readsBlock_130 rfl ?_
    refine x_icmp_ge (tgt := 148) C dX6_readsBlock_131 (by decide) (by omega) (fun c131 => ?_) (fun c131 => ?_)
    · have hWm : W = zfv Va 0 (zsz lv) (zvr f L true (S.p + 1)) := by rw [← hW, show (k : Int) = zsz lv by omega]
      clear hW ih
      subst hWm
      refine x_aload_n C dX6_readsBlock_148 rfl ?_
      refine x_iload_n C dX6_readsBlock_149 rfl ?_
      refine x_iconst C dX6_readsBlock_150 ?_
      refine x_callV C dX6_readsBlock_151 (zqc_k hn (zsz lv) (by omega) true) okX6_keepsValues lkX6_223 ⟨⟨hM, rfl, rfl⟩, (by omega)⟩ ⟨by decide, rfl, rfl, Nat.le_of_ble_eq_true rfl⟩ rfl (Or.inl ⟨rfl, rfl⟩) ?_
      have hM := zqm_M (σ := σ) (um := um) (L := L) (p := (zvl f L (S.p + 1)).2.1) (w := (zvl f L (S.p + 1)).1) (lv := lv) (br := br) (bc := bc) (Rd := Rd) (Va := zfv (zfv Va 0 (zsz lv) (zvr f L true (S.p + 1))) 0 (zsz lv) 1) (Ot := zcpy Ot (zfv Va 0 (zsz lv) (zvr f L true (S.p + 1))) (zsz lv))
      refine x_aload_n C dX6_readsBlock_154 rfl ?_
      refine x_iconst C dX6_readsBlock_155 ?_
      refine x_callV C dX6_readsBlock_156 (zqc_y hn hl hb hc 2 (by decide)) okX6_laysRead lkX6_220 ⟨⟨hM, rfl, rfl⟩, (by omega)⟩ ⟨by decide, rfl, rfl, Nat.le_of_ble_eq_true rfl⟩ rfl (Or.inl ⟨rfl, rfl⟩) ?_
      refine x_goto (tgt := 207) C dX6_readsBlock_159 (by decide) ?_
      exact x_vret (st := []) C dX6_readsBlock_207 rfl ⟨rfl, rfl, rfl, rfl⟩
    · refine x_aload_n C dX6_readsBlock_134 rfl ?_
      refine x_getfield C dX6_readsBlock_135 lfX6_32 hM (by omega) rfl ?_
      refine x_iload C dX6_readsBlock_138 rfl ?_
      refine x_iload_n C dX6_readsBlock_140 rfl ?_
      refine x_iastore C dX6_readsBlock_141 hV9 (by omega) ?_
      refine x_nm (fun s141 e141 => ?_)
      have hM := (congrFun e141 145).trans ((zsu_n _ _ (by omega)).trans hM)
      have hV9 := (congrFun e141 153).trans (zsu_s _ _ _)
      have ih := ih (by omega)
      rw [show zfv Va 0 ((k + 1 : Nat) : Int) (zvr f L true (S.p + 1)) = zu W k (zvr f L true (S.p + 1)) by
        rw [← hW]
        funext i
        unfold zu zfv
        by_cases q : i = (k : Int)
        · rw [if_pos q, if_pos (by omega)]
        · rw [if_neg q]
          by_cases q2 : 0 ≤ i ∧ i < (k : Int)
          · rw [if_pos q2, if_pos (by omega)]
          · rw [if_neg q2, if_neg (by omega)]] at ih
      rw [e141, zqm_sV]
      refine x_iinc C dX6_readsBlock_142 rfl (by decide) ?_
      refine x_goto (tgt := 128) C dX6_readsBlock_145 (by decide) ?_
      exact ih
  refine x_aload_n C dX6_readsBlock_0 rfl ?_
  refine x_getfield C dX6_readsBlock_1 lfX6_211 hM (by omega) rfl ?_
  refine x_callS C dX6_readsBlock_4 hSz okX6_sizeAt lkX6_67 ⟨by decide, rfl, rfl, Nat.le_of_ble_eq_true rfl⟩ rfl (Or.inl ⟨rfl, rfl⟩) ?_
  refine x_istore_n C dX6_readsBlock_7 (by decide) ?_
  refine x_aload_n C dX6_readsBlock_8 rfl ?_
  refine x_callV C dX6_readsBlock_9 hLt okX6_letter lkX6_202 ⟨⟨hM, rfl, rfl⟩, (by omega)⟩ ⟨by decide, rfl, rfl, Nat.le_of_ble_eq_true rfl⟩ rfl (Or.inl ⟨rfl, rfl⟩) ?_
  refine x_istore_n C dX6_readsBlock_12 (by decide) ?_
  refine x_aload_n C dX6_readsBlock_13 rfl ?_
  refine x_iload_n C dX6_readsBlock_14 rfl ?_
  refine x_bipush C dX6_readsBlock_15 (by decide) ?_
  refine x_icmp_eq (tgt := 38) C dX6_readsBlock_17 (by decide) (by omega) (fun c17 => ?_) (fun c17 => ?_)
  · exfalso; omega
  · refine x_iload_n C dX6_readsBlock_20 rfl ?_
    refine x_bipush C dX6_readsBlock_21 (by decide) ?_
    refine x_icmp_eq (tgt := 38) C dX6_readsBlock_23 (by decide) (by omega) (fun c23 => ?_) (fun c23 => ?_)
    · refine x_iconst C dX6_readsBlock_38 ?_
      refine x_goto (tgt := 43) C dX6_readsBlock_39 (by decide) ?_
      refine x_putZ C dX6_readsBlock_43 lfX6_198 lyX6_10 (by first | decide | omega) hM (by omega) (Nat.le_of_ble_eq_true rfl) ?_
      refine x_nm (fun s43 e43 => ?_)
      have hM := (congrFun e43 145).trans (zsu_s _ _ _)
      refine x_aload_n C dX6_readsBlock_46 rfl ?_
      refine x_dup C dX6_readsBlock_47 rfl ?_
      refine x_getfield C dX6_readsBlock_48 lfX6_195 hM (by omega) rfl ?_
      refine x_aload_n C dX6_readsBlock_51 rfl ?_
      refine x_getfield C dX6_readsBlock_52 lfX6_198 hM (by omega) rfl ?_
      refine x_if_eq (tgt := 62) C dX6_readsBlock_55 (by decide) (by omega) (fun c55 => ?_) (fun c55 => ?_)
      · exfalso; omega
      · refine x_iconst C dX6_readsBlock_58 ?_
        refine x_goto (tgt := 63) C dX6_readsBlock_59 (by decide) ?_
        refine x_iadd C dX6_readsBlock_63 ?_
        refine x_putI C dX6_readsBlock_64 lfX6_195 lyX6_9 hM (by omega) (Nat.le_of_ble_eq_true rfl) ?_
        refine x_nm (fun s64 e64 => ?_)
        have hM := (congrFun e64 145).trans (zsu_s _ _ _)
        have e64 : s64 = zqm σ um L (S.p + 1) true lv br bc Rd Va Ot := by
          rw [e64, e43, zsu_u]
          exact zqm_sM (S.p + 1) true lv br bc
        subst e64
        have hM := zqm_M (σ := σ) (um := um) (L := L) (p := S.p + 1) (w := true) (lv := lv) (br := br) (bc := bc) (Rd := Rd) (Va := Va) (Ot := Ot)
        refine x_iload_n C dX6_readsBlock_67 rfl ?_
        refine x_lookup (off := 52) (tgt := 120) C dX6_readsBlock_68 (by decide) (by decide) rfl (by decide) ?_
        refine x_aload_n C dX6_readsBlock_120 rfl ?_
        refine x_callV C dX6_readsBlock_121 (zqc_v hP hn hm hp1) okX6_value lkX6_208 ⟨⟨hM, rfl, rfl⟩, (by omega)⟩ ⟨by decide, rfl, rfl, Nat.le_of_ble_eq_true rfl⟩ rfl (Or.inl ⟨rfl, rfl⟩) ?_
        refine x_istore_n C dX6_readsBlock_124 (by decide) ?_
        refine x_iconst C dX6_readsBlock_125 ?_
        refine x_istore C dX6_readsBlock_126 (by decide) ?_
        have l0 := loop 0 (by omega)
        rw [show zfv Va 0 ((0 : Nat) : Int) (zvr f L true (S.p + 1)) = Va from funext fun k => if_neg (by omega)] at l0
        exact x_wk C rfl l0
    · exfalso; omega

theorem ctX6_readsBlockU {R : zRVs} {V : Int → Bool × Int × Int} (h : isKT R V f L) (hP : σ 151 = zA 80 P) (hn : 155 ≤ n) (hm : isPm P f L) (hl : 0 ≤ lv ∧ lv ≤ 3) (hb : 0 ≤ br ∧ br < zp2 lv) (hc : 0 ≤ bc ∧ bc < zp2 lv) (S : zPS) (hp : 0 ≤ S.p ∧ S.p ≤ 80) (hMt : zMt Rd S) (hch : zlr f L S.p = 117) : ∃ (p2 : Int) (w2 : Bool) (Rd2 Va2 Ot2 : Int → Int), zCt 6 0 0 yX6_readsBlock cX6_readsBlock 5 none [zr 145] n (zqm σ um L S.p true lv br bc Rd Va Ot) none n (zqm σ um L p2 w2 lv br bc Rd2 Va2 Ot2) ∧ w2 = (zR0 R V f L lv (br * zsz lv) (bc * zsz lv) S (false, S)).1 ∧ p2 = (zR0 R V f L lv (br * zsz lv) (bc * zsz lv) S (false, S)).2.p ∧ (w2 = true → zMt Rd2 (zR0 R V f L lv (br * zsz lv) (bc * zsz lv) S (false, S)).2) ∧ (0 ≤ p2 ∧ p2 ≤ 80) ∧ (w2 = true → S.p + 1 ≤ p2) ∧ zRk Rd Rd2 := by
  have hl9 := hm.l S.p
  have hLt := zqc_l (um := um) (w := true) (lv := lv) (br := br) (bc := bc) (Rd := Rd) (Va := Va) (Ot := Ot) hP hn hm hp
  rw [hch] at hLt
  have hM := zqm_M (σ := σ) (um := um) (L := L) (p := S.p) (w := true) (lv := lv) (br := br) (bc := bc) (Rd := Rd) (Va := Va) (Ot := Ot)
  have hk : ∀ c : Int, c ≠ 0 → zpk f L S.p c = decide (zlr f L S.p = c) := fun c hc => zlr_k hc
  have hSz := ctX6_sizeAt (n := n) (σ := zqm σ um L S.p true lv br bc Rd Va Ot) lv hl
  have hz4 := zsz_v hl
  have hk1 : zpk f L S.p 117 = true := by rw [hk 117 (by decide), hch]; rfl
  have eT : zR0 R V f L lv (br * zsz lv) (bc * zsz lv) S (false, S) = zRP R f L lv (br * zsz lv) (bc * zsz lv) (zpa f L 117 S) := by
    unfold zR0
    rw [hk 48 (by decide), hk 100 (by decide), hk1, hch]
    rfl
  have hp1 : 0 ≤ S.p + 1 ∧ S.p + 1 ≤ 80 := by
    have := zpk_in hk1
    have := hm.1
    omega
  have hz16 : 0 ≤ zsz lv ∧ zsz lv ≤ 16 := by omega
  obtain ⟨S1, hS1⟩ : ∃ S1, S1 = zpa f L 117 S := ⟨_, rfl⟩
  have eP : S1.p = S.p + 1 := by
    rw [hS1]
    exact zpp_t hk1
  have eu : S1.e = S.e ∧ S1.t = S.t := by
    rw [hS1]
    exact ⟨rfl, rfl⟩
  rw [eT, ← hS1]
  clear hS1
  obtain ⟨g1, g2, g3⟩ := zmvF_R h hm.1 hz16.1 hp1 S1.x Va S1.u
  rw [← eP] at g1 g2 g3 hp1
  have g4 := h.i2 hm.1.2 S1.x S1.u hz16.1 hp1.2
  obtain ⟨F1, hF1⟩ : ∃ F1, F1 = zmvF f L (zsz lv) true S1.p Va := ⟨_, rfl⟩
  rw [← hF1] at g1 g2 g3
  have hpF1 : 0 ≤ F1.2.1 ∧ F1.2.1 ≤ 80 := by rw [g2]; omega
  obtain ⟨p2, hp2⟩ : ∃ p2, p2 = if F1.1 = true then zpp f L F1.2.1 118 else F1.2.1 := ⟨_, rfl⟩
  obtain ⟨w2, hw2⟩ : ∃ w2, w2 = (F1.1 && zpk f L F1.2.1 118) := ⟨_, rfl⟩
  have hpp := zpp_in (f := f) (L := L) (p := F1.2.1) 118 ⟨hpF1.2, hm.1.2⟩
  have hp2i : F1.2.1 ≤ p2 ∧ p2 ≤ 80 := by
    rw [hp2]
    split <;> omega
  obtain ⟨F2, hF2⟩ : ∃ F2, F2 = zmvF f L (zsz lv) w2 p2 F1.2.2 := ⟨_, rfl⟩
  have main : F2.1 = (zRP R f L lv (br * zsz lv) (bc * zsz lv) S1).1 ∧ F2.2.1 = (zRP R f L lv (br * zsz lv) (bc * zsz lv) S1).2.p ∧ (F2.1 = true → zMt (zlyF 2 (zsz lv) br bc F2.2.2 (zcpy Ot F1.2.2 (zsz lv)) (zu Rd (zmn lv br bc) 2) (zsz lv * zsz lv).toNat) (zRP R f L lv (br * zsz lv) (bc * zsz lv) S1).2) ∧ (0 ≤ F2.2.1 ∧ F2.2.1 ≤ 80) ∧ (F2.1 = true → S.p + 1 ≤ F2.2.1) := by
    by_cases c1 : (R (zsz lv) S1.p S1.x S1.u).1 = true
    · have e1 : F1.1 = true := g1.trans c1
      have eS2 : (zru R (zsz lv) S1).p = F1.2.1 := g2.symm
      by_cases c2 : zpk f L F1.2.1 118 = true
      · have e2 : w2 = true := by rw [hw2, e1, c2]; rfl
        have e3 : p2 = zpp f L F1.2.1 118 := by rw [hp2, if_pos e1]
        have eS3 : (zpa f L 118 (zru R (zsz lv) S1)).p = p2 := by
          rw [e3, ← eS2]
          rfl
        obtain ⟨S3, hS3⟩ : ∃ S3, S3 = zpa f L 118 (zru R (zsz lv) S1) := ⟨_, rfl⟩
        have eu3 : S3.u = (R (zsz lv) S1.p S1.x S1.u).2.2.2 ∧ S3.e = S.e ∧ S3.t = S.t := by
          rw [hS3]
          exact ⟨rfl, eu.1, eu.2⟩
        rw [← hS3] at eS3
        obtain ⟨k1, k2, k3⟩ := zmvF_R h hm.1 hz16.1 (p := p2) (by omega) S3.x F1.2.2 S3.v
        have k4 := h.i2 hm.1.2 (p := p2) S3.x S3.v hz16.1 hp2i.2
        rw [← e2, ← hF2] at k1 k2 k3
        have eR : zRP R f L lv (br * zsz lv) (bc * zsz lv) S1 = if (R (zsz lv) S3.p S3.x S3.v).1 = true then (true, zlt lv (br * zsz lv) (bc * zsz lv) (zrw R (zsz lv) S3)) else (false, zrw R (zsz lv) S3) := by
          rw [hS3]
          exact (if_pos c1).trans (if_pos (by rw [eS2]; exact c2))
        have eW : (zrw R (zsz lv) S3).p = (R (zsz lv) p2 S3.x S3.v).2.1 := by
          rw [← eS3]
          rfl
        have eV : (zrw R (zsz lv) S3).v = (R (zsz lv) p2 S3.x S3.v).2.2.2 := by
          rw [← eS3]
          rfl
        rw [eS3] at eR
        rw [eR]
        by_cases c3 : (R (zsz lv) p2 S3.x S3.v).1 = true
        · rw [if_pos c3]
          refine ⟨k1.trans c3, k2.trans eW.symm, fun _ => ?_, by rw [k2]; omega, fun _ => by rw [k2]; omega⟩
          refine zMt_lay hl hb hc (S := zrw R (zsz lv) S3) (Rd := Rd) ⟨fun j j1 j2 => ?_, fun k q1 q2 => ?_⟩ (s := 2) (fun i j hi hj => ?_)
          · show S3.e j = _
            rw [eu3.2.1]
            exact hMt.1 j j1 j2
          · show S3.t k = _
            rw [eu3.2.2]
            exact hMt.2 k q1 q2
          · have hb2 := zbl hl hb
            have hc2 := zbl hl hc
            obtain ⟨N, hN, hN2⟩ := zszN hl
            show (zrw R (zsz lv) S3).u (((br * zsz lv + i) * 16 + (bc * zsz lv + j)) / 16 - br * zsz lv) * (zrw R (zsz lv) S3).v (((br * zsz lv + i) * 16 + (bc * zsz lv + j)) % 16 - bc * zsz lv) = zcpy Ot F1.2.2 (zsz lv) ((i * zsz lv + j) / zsz lv) * F2.2.2 ((i * zsz lv + j) % zsz lv)
            have hq := zdq (q := N) (i := i) (j := j) (by omega)
            rw [← hN] at hq
            rw [show ((br * zsz lv + i) * 16 + (bc * zsz lv + j)) / 16 - br * zsz lv = i by omega, show ((br * zsz lv + i) * 16 + (bc * zsz lv + j)) % 16 - bc * zsz lv = j by omega, hq.1, hq.2, zcpy_in _ _ hi, g3 c1 i hi.1 hi.2, k3 (c3.trans e2.symm) j hj.1 hj.2, eV, ← eu3.1]
            rfl
        · rw [if_neg c3]
          have c30 : (R (zsz lv) p2 S3.x S3.v).1 = false := by cases hq : (R (zsz lv) p2 S3.x S3.v).1; rfl; exact absurd hq c3
          exact ⟨k1.trans c30, k2.trans eW.symm, fun z => (by rw [k1, c30] at z; cases z), by rw [k2]; omega, fun z => (by rw [k1, c30] at z; cases z)⟩
      · have c20 : zpk f L F1.2.1 118 = false := by cases hq : zpk f L F1.2.1 118; rfl; exact absurd hq c2
        have e2 : w2 = false := by rw [hw2, e1, c20]; rfl
        have e3 : p2 = zpp f L F1.2.1 118 := by rw [hp2, if_pos e1]
        have eR : zRP R f L lv (br * zsz lv) (bc * zsz lv) S1 = (false, zpa f L 118 (zru R (zsz lv) S1)) := (if_pos c1).trans (if_neg (by rw [eS2]; exact c2))
        have k1 := zmvF_N f L (zsz lv) p2 F1.2.2
        rw [← e2, ← hF2, e2] at k1
        rw [eR]
        exact ⟨k1.1, k1.2.trans (e3.trans (by rw [← eS2]; rfl)), fun z => (by rw [k1.1] at z; cases z), by rw [k1.2]; omega, fun z => (by rw [k1.1] at z; cases z)⟩
    · have c10 : (R (zsz lv) S1.p S1.x S1.u).1 = false := by cases hq : (R (zsz lv) S1.p S1.x S1.u).1; rfl; exact absurd hq c1
      have e1 : F1.1 = false := g1.trans c10
      have e2 : w2 = false := by rw [hw2, e1]; rfl
      have e3 : p2 = F1.2.1 := by rw [hp2, if_neg (by rw [e1]; decide)]
      have eR : zRP R f L lv (br * zsz lv) (bc * zsz lv) S1 = (false, zru R (zsz lv) S1) := if_neg c1
      have k1 := zmvF_N f L (zsz lv) p2 F1.2.2
      rw [← e2, ← hF2, e2] at k1
      rw [eR]
      exact ⟨k1.1, k1.2.trans (e3.trans g2), fun z => (by rw [k1.1] at z; cases z), by rw [k1.2]; omega, fun z => (by rw [k1.1] at z; cases z)⟩
  refine ⟨F2.2.1, F2.1, zlyF 2 (zsz lv) br bc F2.2.2 (zcpy Ot F1.2.2 (zsz lv)) (zu Rd (zmn lv br bc) 2) (zsz lv * zsz lv).toNat, F2.2.2, zcpy Ot F1.2.2 (zsz lv), zCt.of (by decide) rfl (Nat.le_of_ble_eq_true rfl) (fun K C => ?_), main.1, main.2.1, main.2.2.1, main.2.2.2.1, main.2.2.2.2, zRk.ly hl hb hc _ _ _ (by decide)⟩
  have cr1 := zqc_r (um := um) (w := true) (lv := lv) (br := br) (bc := bc) (Rd := Rd) (Va := Va) (Ot := Ot) hP hn hm hp1 (zsz lv) (by omega)
  rw [← hF1, eP] at cr1
  have ck := zqc_k (σ := σ) (um := um) (L := L) (p := F1.2.1) (w := F1.1) (lv := lv) (br := br) (bc := bc) (Rd := Rd) (Va := F1.2.2) (Ot := Ot) hn (zsz lv) hz16 false
  rw [if_neg (by decide)] at ck
  have cw := zqc_w (um := um) (w := F1.1) (lv := lv) (br := br) (bc := bc) (Rd := Rd) (Va := F1.2.2) (Ot := zcpy Ot F1.2.2 (zsz lv)) hP hn hm hpF1 118 (by decide)
  rw [← hp2, ← hw2] at cw
  have cr2 := zqc_r (um := um) (w := w2) (lv := lv) (br := br) (bc := bc) (Rd := Rd) (Va := F1.2.2) (Ot := zcpy Ot F1.2.2 (zsz lv)) hP hn hm (show 0 ≤ p2 ∧ p2 ≤ 80 by omega) (zsz lv) (by omega)
  rw [← hF2] at cr2
  refine x_aload_n C dX6_readsBlock_0 rfl ?_
  refine x_getfield C dX6_readsBlock_1 lfX6_211 hM (by omega) rfl ?_
  refine x_callS C dX6_readsBlock_4 hSz okX6_sizeAt lkX6_67 ⟨by decide, rfl, rfl, Nat.le_of_ble_eq_true rfl⟩ rfl (Or.inl ⟨rfl, rfl⟩) ?_
  refine x_istore_n C dX6_readsBlock_7 (by decide) ?_
  refine x_aload_n C dX6_readsBlock_8 rfl ?_
  refine x_callV C dX6_readsBlock_9 hLt okX6_letter lkX6_202 ⟨⟨hM, rfl, rfl⟩, (by omega)⟩ ⟨by decide, rfl, rfl, Nat.le_of_ble_eq_true rfl⟩ rfl (Or.inl ⟨rfl, rfl⟩) ?_
  refine x_istore_n C dX6_readsBlock_12 (by decide) ?_
  refine x_aload_n C dX6_readsBlock_13 rfl ?_
  refine x_iload_n C dX6_readsBlock_14 rfl ?_
  refine x_bipush C dX6_readsBlock_15 (by decide) ?_
  refine x_icmp_eq (tgt := 38) C dX6_readsBlock_17 (by decide) (by omega) (fun c17 => ?_) (fun c17 => ?_)
  · exfalso; omega
  · refine x_iload_n C dX6_readsBlock_20 rfl ?_
    refine x_bipush C dX6_readsBlock_21 (by decide) ?_
    refine x_icmp_eq (tgt := 38) C dX6_readsBlock_23 (by decide) (by omega) (fun c23 => ?_) (fun c23 => ?_)
    · exfalso; omega
    · refine x_iload_n C dX6_readsBlock_26 rfl ?_
      refine x_bipush C dX6_readsBlock_27 (by decide) ?_
      refine x_icmp_eq (tgt := 38) C dX6_readsBlock_29 (by decide) (by omega) (fun c29 => ?_) (fun c29 => ?_)
      · refine x_iconst C dX6_readsBlock_38 ?_
        refine x_goto (tgt := 43) C dX6_readsBlock_39 (by decide) ?_
        refine x_putZ C dX6_readsBlock_43 lfX6_198 lyX6_10 (by first | decide | omega) hM (by omega) (Nat.le_of_ble_eq_true rfl) ?_
        refine x_nm (fun s43 e43 => ?_)
        have hM := (congrFun e43 145).trans (zsu_s _ _ _)
        refine x_aload_n C dX6_readsBlock_46 rfl ?_
        refine x_dup C dX6_readsBlock_47 rfl ?_
        refine x_getfield C dX6_readsBlock_48 lfX6_195 hM (by omega) rfl ?_
        refine x_aload_n C dX6_readsBlock_51 rfl ?_
        refine x_getfield C dX6_readsBlock_52 lfX6_198 hM (by omega) rfl ?_
        refine x_if_eq (tgt := 62) C dX6_readsBlock_55 (by decide) (by omega) (fun c55 => ?_) (fun c55 => ?_)
        · exfalso; omega
        · refine x_iconst C dX6_readsBlock_58 ?_
          refine x_goto (tgt := 63) C dX6_readsBlock_59 (by decide) ?_
          refine x_iadd C dX6_readsBlock_63 ?_
          refine x_putI C dX6_readsBlock_64 lfX6_195 lyX6_9 hM (by omega) (Nat.le_of_ble_eq_true rfl) ?_
          refine x_nm (fun s64 e64 => ?_)
          have hM := (congrFun e64 145).trans (zsu_s _ _ _)
          have e64 : s64 = zqm σ um L (S.p + 1) true lv br bc Rd Va Ot := by
            rw [e64, e43, zsu_u]
            exact zqm_sM (S.p + 1) true lv br bc
          subst e64
          have hM := zqm_M (σ := σ) (um := um) (L := L) (p := S.p + 1) (w := true) (lv := lv) (br := br) (bc := bc) (Rd := Rd) (Va := Va) (Ot := Ot)
          refine x_iload_n C dX6_readsBlock_67 rfl ?_
          refine x_lookup (off := 94) (tgt := 162) C dX6_readsBlock_68 (by decide) (by decide) rfl (by decide) ?_
          refine x_aload_n C dX6_readsBlock_162 rfl ?_
          refine x_iload_n C dX6_readsBlock_163 rfl ?_
          refine x_callV C dX6_readsBlock_164 cr1 okX6_readsValues lkX6_227 ⟨⟨hM, rfl, rfl⟩, (by omega)⟩ ⟨by decide, rfl, rfl, Nat.le_of_ble_eq_true rfl⟩ rfl (Or.inl ⟨rfl, rfl⟩) ?_
          have hM := zqm_M (σ := σ) (um := um) (L := L) (p := F1.2.1) (w := F1.1) (lv := lv) (br := br) (bc := bc) (Rd := Rd) (Va := F1.2.2) (Ot := Ot)
          refine x_aload_n C dX6_readsBlock_167 rfl ?_
          refine x_iload_n C dX6_readsBlock_168 rfl ?_
          refine x_iconst C dX6_readsBlock_169 ?_
          refine x_callV C dX6_readsBlock_170 ck okX6_keepsValues lkX6_223 ⟨⟨hM, rfl, rfl⟩, (by omega)⟩ ⟨by decide, rfl, rfl, Nat.le_of_ble_eq_true rfl⟩ rfl (Or.inl ⟨rfl, rfl⟩) ?_
          have hM := zqm_M (σ := σ) (um := um) (L := L) (p := F1.2.1) (w := F1.1) (lv := lv) (br := br) (bc := bc) (Rd := Rd) (Va := F1.2.2) (Ot := zcpy Ot F1.2.2 (zsz lv))
          refine x_aload_n C dX6_readsBlock_173 rfl ?_
          refine x_bipush C dX6_readsBlock_174 (by decide) ?_
          refine x_callV C dX6_readsBlock_176 cw okX6_wants lkX6_230 ⟨⟨hM, rfl, rfl⟩, (by omega)⟩ ⟨by decide, rfl, rfl, Nat.le_of_ble_eq_true rfl⟩ rfl (Or.inl ⟨rfl, rfl⟩) ?_
          have hM := zqm_M (σ := σ) (um := um) (L := L) (p := p2) (w := w2) (lv := lv) (br := br) (bc := bc) (Rd := Rd) (Va := F1.2.2) (Ot := zcpy Ot F1.2.2 (zsz lv))
          refine x_aload_n C dX6_readsBlock_179 rfl ?_
          refine x_iload_n C dX6_readsBlock_180 rfl ?_
          refine x_callV C dX6_readsBlock_181 cr2 okX6_readsValues lkX6_227 ⟨⟨hM, rfl, rfl⟩, (by omega)⟩ ⟨by decide, rfl, rfl, Nat.le_of_ble_eq_true rfl⟩ rfl (Or.inl ⟨rfl, rfl⟩) ?_
          have hM := zqm_M (σ := σ) (um := um) (L := L) (p := F2.2.1) (w := F2.1) (lv := lv) (br := br) (bc := bc) (Rd := Rd) (Va := F2.2.2) (Ot := zcpy Ot F1.2.2 (zsz lv))
          refine x_aload_n C dX6_readsBlock_184 rfl ?_
          refine x_iconst C dX6_readsBlock_185 ?_
          refine x_callV C dX6_readsBlock_186 (zqc_y hn hl hb hc 2 (by decide)) okX6_laysRead lkX6_220 ⟨⟨hM, rfl, rfl⟩, (by omega)⟩ ⟨by decide, rfl, rfl, Nat.le_of_ble_eq_true rfl⟩ rfl (Or.inl ⟨rfl, rfl⟩) ?_
          refine x_goto (tgt := 207) C dX6_readsBlock_189 (by decide) ?_
          exact x_vret (st := []) C dX6_readsBlock_207 rfl ⟨rfl, rfl, rfl, rfl⟩
      · exfalso; omega

theorem ctX6_readsBlock {R : zRVs} {V : Int → Bool × Int × Int} (h : isKT R V f L) (hP : σ 151 = zA 80 P) (hn : 155 ≤ n) (hm : isPm P f L) (hl : 0 ≤ lv ∧ lv ≤ 3) (hb : 0 ≤ br ∧ br < zp2 lv) (hc : 0 ≤ bc ∧ bc < zp2 lv) (S : zPS) (hp : 0 ≤ S.p ∧ S.p ≤ 80) (hMt : zMt Rd S) : ∃ (p2 : Int) (w2 : Bool) (Rd2 Va2 Ot2 : Int → Int), zCt 6 0 0 yX6_readsBlock cX6_readsBlock 5 none [zr 145] n (zqm σ um L S.p true lv br bc Rd Va Ot) none n (zqm σ um L p2 w2 lv br bc Rd2 Va2 Ot2) ∧ w2 = (zR0 R V f L lv (br * zsz lv) (bc * zsz lv) S (false, S)).1 ∧ p2 = (zR0 R V f L lv (br * zsz lv) (bc * zsz lv) S (false, S)).2.p ∧ (w2 = true → zMt Rd2 (zR0 R V f L lv (br * zsz lv) (bc * zsz lv) S (false, S)).2) ∧ (0 ≤ p2 ∧ p2 ≤ 80) ∧ (w2 = true → S.p + 1 ≤ p2) ∧ zRk Rd Rd2 := by
  by_cases c1 : zlr f L S.p = 48
  · exact ctX6_readsBlock0 h hP hn hm hl hb hc S hp hMt c1
  by_cases c2 : zlr f L S.p = 100
  · exact ctX6_readsBlockD h hP hn hm hl hb hc S hp hMt c2
  by_cases c3 : zlr f L S.p = 117
  · exact ctX6_readsBlockU h hP hn hm hl hb hc S hp hMt c3
  by_cases c4 : zlr f L S.p = 102
  · exact ctX6_readsBlockF h hP hn hm hl hb hc S hp hMt c4
  · exact ctX6_readsBlockN h hP hn hm hl hb hc S hp hMt ⟨c1, c2, c3, c4⟩
end
