/-- the next character of the text, 0 behind its end -/
def zlr (f : Int → Int) (L p : Int) : Int := if p < L then f p else 0
theorem zlr_k {f : Int → Int} {L p c : Int} (hc : c ≠ 0) : zpk f L p c = decide (zlr f L p = c) := by
  unfold zpk zlr
  refine decide_eq_decide.mpr ?_
  split <;> omega
theorem zlr_d (f : Int → Int) (L p : Int) : (zdg f L p = -1 ∧ ¬ (48 ≤ zlr f L p ∧ zlr f L p ≤ 57)) ∨ (zdg f L p = zlr f L p - 48 ∧ (48 ≤ zlr f L p ∧ zlr f L p ≤ 57) ∧ p < L) := by
  unfold zdg zlr
  split <;> split <;> omega
/-- the model's text is the class's -/
def isPm (P f : Int → Int) (L : Int) : Prop := (0 ≤ L ∧ L ≤ 80) ∧ (∀ j, 0 ≤ j → j < L → P j = f j) ∧ ∀ j, 0 ≤ f j ∧ f j < 65536
theorem isPm.l {P f : Int → Int} {L : Int} (h : isPm P f L) (p : Int) : 0 ≤ zlr f L p ∧ zlr f L p < 65536 := by
  have h1 := h.2.2 p
  unfold zlr
  split <;> omega
/-- a number without its sign -/
def znu (f : Int → Int) (L q : Int) : Bool × Int × Int := if zpk f L q 48 = true then (true, q + 1, 0) else if zdg f L q < 0 then (false, q, 0) else zvd f L 80 q 0
theorem zvl_nu (f : Int → Int) (L p : Int) : zvl f L p = zvs (zpk f L p 45) (znu f L (zpp f L p 45)) := by
  unfold zvl znu
  split
  · unfold zvs
    dsimp only
    split <;> rfl
  · split
    · unfold zvs
      dsimp only
      rw [if_neg (fun q => by cases q.1)]
    · rfl
section
variable {n : Nat} {σ : zS} {P f : Int → Int} {um L p lv br bc : Int} {wl : Bool}
theorem ctX6_letter (hM : σ 145 = zMO um L p wl lv br bc) (hP : σ 151 = zA 80 P) (hn : 155 ≤ n) (hm : isPm P f L) (hp : 0 ≤ p ∧ p ≤ 80) : zCt 1 0 0 yX6_letter cX6_letter 1 (some .int) [zr 145] n σ (some (zi (zlr f L p))) n σ := by
  have hL := hm.1
  refine zCt.of (by decide) rfl (Nat.le_of_ble_eq_true rfl) (fun K C => ?_)
  refine x_aload_n C dX6_letter_0 rfl ?_
  refine x_getfield C dX6_letter_1 lfX6_195 hM (by omega) rfl ?_
  refine x_aload_n C dX6_letter_4 rfl ?_
  refine x_getfield C dX6_letter_5 lfX6_115 hM (by omega) rfl ?_
  refine x_icmp_ge (tgt := 23) C dX6_letter_8 (by decide) (by omega) (fun c8 => ?_) (fun c8 => ?_)
  · refine x_iconst C dX6_letter_23 ?_
    exact x_iret (st := []) C dX6_letter_24 rfl ⟨congrArg (fun z => some (zi z)) (by unfold zlr; first | rw [if_pos (by omega), hm.2.1 p hp.1 (by omega)] | rw [if_neg (by omega)]), rfl, rfl, rfl⟩
  · refine x_aload_n C dX6_letter_11 rfl ?_
    refine x_getfield C dX6_letter_12 lfX6_26 hM (by omega) rfl ?_
    refine x_aload_n C dX6_letter_15 rfl ?_
    refine x_getfield C dX6_letter_16 lfX6_195 hM (by omega) rfl ?_
    refine x_iaload C dX6_letter_19 hP (by omega) ?_
    refine x_goto (tgt := 24) C dX6_letter_20 (by decide) ?_
    exact x_iret (st := []) C dX6_letter_24 rfl ⟨congrArg (fun z => some (zi z)) (by unfold zlr; first | rw [if_pos (by omega), hm.2.1 p hp.1 (by omega)] | rw [if_neg (by omega)]), rfl, rfl, rfl⟩
theorem ctX6_wants (hM : σ 145 = zMO um L p wl lv br bc) (hP : σ 151 = zA 80 P) (hn : 155 ≤ n) (hm : isPm P f L) (hp : 0 ≤ p ∧ p ≤ 80) (c : Int) (hc : 0 < c ∧ c < 65536) : zCt 2 0 0 yX6_wants cX6_wants 2 none [zr 145, zi c] n σ none n (zsu σ 145 (zMO um L (if wl = true then zpp f L p c else p) (wl && zpk f L p c) lv br bc)) := by
  have hl := hm.l p
  have hLt := ctX6_letter (n := n) hM hP hn hm hp
  have hk := zlr_k (f := f) (L := L) (p := p) (show c ≠ 0 by omega)
  refine zCt.of (by decide) rfl (Nat.le_of_ble_eq_true rfl) (fun K C => ?_)
  have part : ∀ b : Bool, b = (wl && zpk f L p c) → K 21 [some (zr 145), some (zi c)] [zi (zb b), zr 145] n σ 0 := by
    intro b hb
    refine x_putZ C dX6_wants_21 lfX6_198 lyX6_10 (zb_01 _) hM (by omega) (Nat.le_of_ble_eq_true rfl) ?_
    refine x_nm (fun s21 e21 => ?_)
    have hM := (congrFun e21 145).trans (zsu_s _ _ _)
    refine x_aload_n C dX6_wants_24 rfl ?_
    refine x_dup C dX6_wants_25 rfl ?_
    refine x_getfield C dX6_wants_26 lfX6_195 hM (by omega) rfl ?_
    refine x_aload_n C dX6_wants_29 rfl ?_
    refine x_getfield C dX6_wants_30 lfX6_198 hM (by omega) rfl ?_
    refine x_ifeq_b (tgt := 40) C dX6_wants_33 (by decide) (fun c33 => ?_) (fun c33 => ?_)
    · have hk1 : (if wl = true then zpp f L p c else p) = p := by
        rw [c33] at hb
        cases wl
        · rfl
        · exact (if_pos rfl).trans (zpp_f (by rw [hb]; rfl))
      refine x_iconst C dX6_wants_40 ?_
      refine x_iadd C dX6_wants_41 ?_
      refine x_putI C dX6_wants_42 lfX6_195 lyX6_9 hM (by omega) (Nat.le_of_ble_eq_true rfl) ?_
      refine x_nm (fun s42 e42 => ?_)
      have hM := (congrFun e42 145).trans (zsu_s _ _ _)
      exact x_vret (st := []) C dX6_wants_45 rfl ⟨rfl, rfl, by first | (rw [e42, e21, zsu_u, hk1, hw, if_pos rfl, zpp_t hk1, c33]; rfl) | (rw [e42, e21, zsu_u, hk1, ← hb, c33, Int.add_zero]; rfl), rfl⟩
    · have hw : wl = true := by
        cases wl
        · rw [c33] at hb; cases hb
        · rfl
      have hk1 : zpk f L p c = true := by rw [← c33, hb, hw]; rfl
      refine x_iconst C dX6_wants_36 ?_
      refine x_goto (tgt := 41) C dX6_wants_37 (by decide) ?_
      refine x_iadd C dX6_wants_41 ?_
      refine x_putI C dX6_wants_42 lfX6_195 lyX6_9 hM (by omega) (Nat.le_of_ble_eq_true rfl) ?_
      refine x_nm (fun s42 e42 => ?_)
      have hM := (congrFun e42 145).trans (zsu_s _ _ _)
      exact x_vret (st := []) C dX6_wants_45 rfl ⟨rfl, rfl, by first | (rw [e42, e21, zsu_u, hk1, hw, if_pos rfl, zpp_t hk1, c33]; rfl) | (rw [e42, e21, zsu_u, hk1, ← hb, c33, Int.add_zero]; rfl), rfl⟩
  refine x_aload_n C dX6_wants_0 rfl ?_
  refine x_aload_n C dX6_wants_1 rfl ?_
  refine x_getfield C dX6_wants_2 lfX6_198 hM (by omega) rfl ?_
  refine x_ifeq_b (tgt := 20) C dX6_wants_5 (by decide) (fun c5 => ?_) (fun c5 => ?_)
  · have hb : false = (wl && zpk f L p c) := by rw [c5]; rfl
    refine x_iconst C dX6_wants_20 ?_
    exact part _ hb
  · refine x_aload_n C dX6_wants_8 rfl ?_
    refine x_callV C dX6_wants_9 hLt okX6_letter lkX6_202 ⟨⟨hM, rfl, rfl⟩, (by omega)⟩ ⟨by decide, rfl, rfl, Nat.le_of_ble_eq_true rfl⟩ rfl (Or.inl ⟨rfl, rfl⟩) ?_
    refine x_iload_n C dX6_wants_12 rfl ?_
    refine x_icmp_ne (tgt := 20) C dX6_wants_13 (by decide) (by omega) (fun c13 => ?_) (fun c13 => ?_)
    · have hb : false = (wl && zpk f L p c) := by rw [hk, decide_eq_false (by omega), Bool.and_false]
      refine x_iconst C dX6_wants_20 ?_
      exact part _ hb
    · have hb : true = (wl && zpk f L p c) := by rw [c5, hk, decide_eq_true (by omega)]; rfl
      refine x_iconst C dX6_wants_16 ?_
      refine x_goto (tgt := 21) C dX6_wants_17 (by decide) ?_
      exact part _ hb
theorem znu_1 {f : Int → Int} {L p : Int} (h : 1 ≤ zdg f L p) : znu f L p = zvd f L 80 p 0 := by
  have hdg := zlr_d f L p
  have hk := zlr_k (f := f) (L := L) (p := p) (show (48 : Int) ≠ 0 by decide)
  unfold znu
  rw [hk, decide_eq_false (by omega), if_neg (by decide), if_neg (by omega)]
theorem zvd_s (f : Int → Int) (L : Int) (k : Nat) (p x : Int) : zvd f L (k + 1) p x = if 0 ≤ zdg f L p then (if 999 < x * 10 + zdg f L p then (false, p, x * 10 + zdg f L p) else zvd f L k (p + 1) (x * 10 + zdg f L p)) else (true, p, x) := rfl
theorem zvd_n {f : Int → Int} {L : Int} {k : Nat} {p x : Int} (h : zdg f L p < 0) : zvd f L k p x = (true, p, x) := by
  cases k with
  | zero => rfl
  | succ k => rw [zvd_s, if_neg (by omega)]
theorem zvd_x {f : Int → Int} {L : Int} : ∀ (k : Nat) (p x : Int), 0 ≤ x ∧ x ≤ 999 → 0 ≤ (zvd f L k p x).2.2 ∧ (zvd f L k p x).2.2 ≤ 10000
  | 0, p, x, h => by
    show 0 ≤ x ∧ x ≤ 10000
    omega
  | k + 1, p, x, h => by
    have hd := zdg_in f L p
    rw [zvd_s]
    split
    · split
      · show 0 ≤ x * 10 + zdg f L p ∧ x * 10 + zdg f L p ≤ 10000
        omega
      · exact zvd_x k _ _ (by omega)
    · show 0 ≤ x ∧ x ≤ 10000
      omega
/-- what number() answers, also where there is none -/
def znbr (f : Int → Int) (L : Int) (w : Bool) (p : Int) : Int := if w = true ∧ 1 ≤ zdg f L p then (zvd f L 80 p 0).2.2 else zlr f L p - 48
theorem znbr_v {f : Int → Int} {L p : Int} (h : (znu f L p).1 = true) : znbr f L true p = (znu f L p).2.2 := by
  have hk := zlr_k (f := f) (L := L) (p := p) (show (48 : Int) ≠ 0 by decide)
  have hdg := zlr_d f L p
  unfold znbr
  by_cases q : 1 ≤ zdg f L p
  · rw [if_pos ⟨rfl, q⟩, znu_1 q]
  · rw [if_neg (fun z => q z.2)]
    unfold znu at h ⊢
    by_cases q2 : zpk f L p 48 = true
    · rw [if_pos q2]
      rw [hk] at q2
      have := of_decide_eq_true q2
      show zlr f L p - 48 = 0
      omega
    · rw [if_neg q2] at h
      rw [hk] at q2
      have q3 : ¬ zlr f L p = 48 := fun z => q2 (decide_eq_true z)
      rw [if_pos (by omega)] at h
      cases h
theorem znbr_in {P f : Int → Int} {L : Int} (hm : isPm P f L) (w : Bool) (p : Int) : -100000 ≤ znbr f L w p ∧ znbr f L w p ≤ 100000 := by
  have hl := hm.l p
  have hx9 := zvd_x (f := f) (L := L) 80 p 0 (by decide)
  unfold znbr
  split <;> omega
theorem ctX6_number (hM : σ 145 = zMO um L p true lv br bc) (hP : σ 151 = zA 80 P) (hn : 155 ≤ n) (hm : isPm P f L) (hp : 0 ≤ p ∧ p ≤ 80) : zCt 2 0 0 yX6_number cX6_number 2 (some .int) [zr 145] n σ (some (zi (znbr f L true p))) n (zsu σ 145 (zMO um L (znu f L p).2.1 (znu f L p).1 lv br bc)) := by
  have hL := hm.1
  have hl := hm.l p
  have hLt := ctX6_letter (n := n) hM hP hn hm hp
  have hk := zlr_k (f := f) (L := L) (p := p) (show (48 : Int) ≠ 0 by decide)
  have hdg := zlr_d f L p
  have hx9 := zvd_x (f := f) (L := L) 80 p 0 (by decide)
  obtain ⟨r, hr⟩ : ∃ r, r = znbr f L true p := ⟨_, rfl⟩
  have hr1 : 1 ≤ zdg f L p → r = (zvd f L 80 p 0).2.2 := fun h => by rw [hr, znbr, if_pos ⟨rfl, h⟩]
  have hr0 : ¬ 1 ≤ zdg f L p → r = zlr f L p - 48 := fun h => by rw [hr, znbr, if_neg (fun z => h z.2)]
  rw [← hr]
  refine zCt.of (by decide) rfl (Nat.le_of_ble_eq_true rfl) (fun K C => ?_)
  have exitF : 1 ≤ zdg f L p → ∀ (p2 x2 : Int), zvd f L 80 p 0 = (false, p2, x2) → K 59 [some (zr 145), some (zi x2)] [] n (zsu σ 145 (zMO um L p2 false lv br bc)) 0 := by
    intro hd p2 x2 he
    have hM := zsu_s σ 145 (zMO um L p2 false lv br bc)
    refine x_aload_n C dX6_number_59 rfl ?_
    refine x_getfield C dX6_number_60 lfX6_198 hM (by omega) rfl ?_
    refine x_ifeq_b (tgt := 137) C dX6_number_63 (by decide) (fun c63 => ?_) (fun c63 => ?_)
    · refine x_iload_n C dX6_number_137 rfl ?_
      exact x_iret (st := []) C dX6_number_138 rfl ⟨congrArg (fun z => some (zi z)) (by rw [hr1 hd, he]), rfl, by rw [znu_1 hd, he], rfl⟩
    · cases c63
  have loop : 1 ≤ zdg f L p → ∀ j : Nat, j ≤ 80 → ∀ x : Int, (1 ≤ x ∧ x ≤ 999) → zvd f L 80 p 0 = zvd f L (80 - j) (p + j) x → p + j ≤ 80 → K 59 [some (zr 145), some (zi x)] [] n (zsu σ 145 (zMO um L (p + j) true lv br bc)) 0 := by
    intro hd1
    refine zloop _ 80 (fun j hj ih => ?_)
    intro x hx he hpj
    have hM := zsu_s σ 145 (zMO um L (p + j) true lv br bc)
    have hP := (zsu_n σ (zMO um L (p + j) true lv br bc) (show (151 : Int) ≠ 145 by decide)).trans hP
    have hl := hm.l (p + j)
    have hLt := ctX6_letter (n := n) hM hP hn hm (show 0 ≤ p + (j : Int) ∧ p + (j : Int) ≤ 80 by omega)
    have hdg := zlr_d f L (p + j)
    have back : ∀ (x2 : Int) (b : Bool), 0 ≤ zdg f L (p + j) → x2 = x * 10 + zdg f L (p + j) → (b = true ↔ x2 ≤ 999) → K 110 [some (zr 145), some (zi x2)] [zi (zb b), zr 145] n (zsu σ 145 (zMO um L (p + j) true lv br bc)) 0 := by
      intro x2 b hd0 hx2 hb
      have he2 := zvd_s f L (80 - (j + 1)) (p + j) x
      rw [show 80 - (j + 1) + 1 = 80 - j by omega, if_pos hd0, ← hx2, ← he] at he2
      refine x_putZ C dX6_number_110 lfX6_198 lyX6_10 (zb_01 _) hM (by omega) (Nat.le_of_ble_eq_true rfl) ?_
      refine x_nm (fun s110 e110 => ?_)
      have hM := (congrFun e110 145).trans (zsu_s _ _ _)
      refine x_aload_n C dX6_number_113 rfl ?_
      refine x_dup C dX6_number_114 rfl ?_
      refine x_getfield C dX6_number_115 lfX6_195 hM (by omega) rfl ?_
      refine x_aload_n C dX6_number_118 rfl ?_
      refine x_getfield C dX6_number_119 lfX6_198 hM (by omega) rfl ?_
      refine x_ifeq_b (tgt := 129) C dX6_number_122 (by decide) (fun c122 => ?_) (fun c122 => ?_)
      · have hF := exitF hd1 (p + j) x2 (by
          rw [he2]
          refine if_pos ?_
          by_cases q : x2 ≤ 999
          · rw [hb.mpr q] at c122; cases c122
          · omega)
        subst c122
        have e59 : ∀ s131 : zS, s131 = zsu s110 145 (zO 6 ([zi 0, zr 146, zr 147, zr 148, zi um, zr 149, zr 150, zr 151, zi L, zi (p + (j : Int)), zi (zb false), zr 152, zr 153, zr 154, zi lv, zi br, zi bc, zr 155].set 9 (zi (p + (j : Int) + 0)))) → K 59 [some (zr 145), some (zi x2)] [] n s131 0 := by
          intro s131 e131
          rw [e131, e110, zsu_u, zsu_u, Int.add_zero]
          exact hF
        refine x_iconst C dX6_number_129 ?_
        refine x_iadd C dX6_number_130 ?_
        refine x_putI C dX6_number_131 lfX6_195 lyX6_9 hM (by omega) (Nat.le_of_ble_eq_true rfl) ?_
        refine x_nm (fun s131 e131 => ?_)
        have hM := (congrFun e131 145).trans (zsu_s _ _ _)
        refine x_goto (tgt := 59) C dX6_number_134 (by decide) ?_
        exact e59 s131 e131
      · have ih := ih (by omega) x2 (by have := hb.mp c122; omega) (by rw [he2, if_neg (by have := hb.mp c122; omega)]; congr 1; omega) (by omega)
        rw [show p + ((j + 1 : Nat) : Int) = p + (j : Int) + 1 by omega] at ih
        subst c122
        have e59 : ∀ s131 : zS, s131 = zsu s110 145 (zO 6 ([zi 0, zr 146, zr 147, zr 148, zi um, zr 149, zr 150, zr 151, zi L, zi (p + (j : Int)), zi (zb true), zr 152, zr 153, zr 154, zi lv, zi br, zi bc, zr 155].set 9 (zi (p + (j : Int) + 1)))) → K 59 [some (zr 145), some (zi x2)] [] n s131 0 := by
          intro s131 e131
          rw [e131, e110, zsu_u, zsu_u]
          exact ih
        refine x_iconst C dX6_number_125 ?_
        refine x_goto (tgt := 130) C dX6_number_126 (by decide) ?_
        refine x_iadd C dX6_number_130 ?_
        refine x_putI C dX6_number_131 lfX6_195 lyX6_9 hM (by omega) (Nat.le_of_ble_eq_true rfl) ?_
        refine x_nm (fun s131 e131 => ?_)
        have hM := (congrFun e131 145).trans (zsu_s _ _ _)
        refine x_goto (tgt := 59) C dX6_number_134 (by decide) ?_
        exact e59 s131 e131
    refine x_aload_n C dX6_number_59 rfl ?_
    refine x_getfield C dX6_number_60 lfX6_198 hM (by omega) rfl ?_
    refine x_ifeq_b (tgt := 137) C dX6_number_63 (by decide) (fun c63 => ?_) (fun c63 => ?_)
    · cases c63
    · refine x_iload_n C dX6_number_66 rfl ?_
      refine x_if_le (tgt := 137) C dX6_number_67 (by decide) (by omega) (fun c67 => ?_) (fun c67 => ?_)
      · exfalso; omega
      · refine x_aload_n C dX6_number_70 rfl ?_
        refine x_callV C dX6_number_71 hLt okX6_letter lkX6_202 ⟨⟨hM, rfl, rfl⟩, (by omega)⟩ ⟨by decide, rfl, rfl, Nat.le_of_ble_eq_true rfl⟩ rfl (Or.inl ⟨rfl, rfl⟩) ?_
        refine x_bipush C dX6_number_74 (by decide) ?_
        refine x_bipush C dX6_number_76 (by decide) ?_
        refine x_callS C dX6_number_78 (ctX6_in _ _ _ (by omega) (by omega) (by omega)) okX6_in lkX6_45 ⟨by decide, rfl, rfl, Nat.le_of_ble_eq_true rfl⟩ rfl (Or.inl ⟨rfl, rfl⟩) ?_
        refine x_ifeq_d (tgt := 137) C dX6_number_81 (by decide) (fun c81 => ?_) (fun c81 => ?_)
        · refine x_iload_n C dX6_number_137 rfl ?_
          exact x_iret (st := []) C dX6_number_138 rfl ⟨congrArg (fun z => some (zi z)) (by rw [hr1 hd1, he, zvd_n (by omega)]), rfl, by rw [znu_1 hd1, he, zvd_n (by omega)], rfl⟩
        · refine x_bipush C dX6_number_84 (by decide) ?_
          refine x_iload_n C dX6_number_86 rfl ?_
          refine x_imul C dX6_number_87 ?_
          refine x_aload_n C dX6_number_88 rfl ?_
          refine x_callV C dX6_number_89 hLt okX6_letter lkX6_202 ⟨⟨hM, rfl, rfl⟩, (by omega)⟩ ⟨by decide, rfl, rfl, Nat.le_of_ble_eq_true rfl⟩ rfl (Or.inl ⟨rfl, rfl⟩) ?_
          refine x_iadd C dX6_number_92 ?_
          refine x_bipush C dX6_number_93 (by decide) ?_
          refine x_isub C dX6_number_95 ?_
          refine x_istore_n C dX6_number_96 (by decide) ?_
          refine x_aload_n C dX6_number_97 rfl ?_
          refine x_iload_n C dX6_number_98 rfl ?_
          refine x_sipush C dX6_number_99 (by decide) ?_
          refine x_icmp_gt (tgt := 109) C dX6_number_102 (by decide) (by omega) (fun c102 => ?_) (fun c102 => ?_)
          · have hb : (false = true ↔ 10 * x + zlr f L (p + (j : Int)) - 48 ≤ 999) := ⟨fun z => (by cases z), fun z => absurd z (by omega)⟩
            refine x_iconst C dX6_number_109 ?_
            exact back _ _ (by omega) (by omega) hb
          · have hb : (true = true ↔ 10 * x + zlr f L (p + (j : Int)) - 48 ≤ 999) := ⟨fun _ => by omega, fun _ => rfl⟩
            refine x_iconst C dX6_number_105 ?_
            refine x_goto (tgt := 110) C dX6_number_106 (by decide) ?_
            exact back _ _ (by omega) (by omega) hb
  have part : ∀ b : Bool, (b = true ↔ 0 ≤ zdg f L p) → K 27 [some (zr 145), none] [zi (zb b), zr 145] n σ 0 := by
    intro b hb
    refine x_putZ C dX6_number_27 lfX6_198 lyX6_10 (zb_01 _) hM (by omega) (Nat.le_of_ble_eq_true rfl) ?_
    refine x_nm (fun s27 e27 => ?_)
    have hM := (congrFun e27 145).trans (zsu_s _ _ _)
    have hP := (congrFun e27 151).trans ((zsu_n σ _ (show (151 : Int) ≠ 145 by decide)).trans hP)
    have hLt2 := ctX6_letter (wl := b) (n := n) hM hP hn hm hp
    refine x_aload_n C dX6_number_30 rfl ?_
    refine x_callV C dX6_number_31 hLt2 okX6_letter lkX6_202 ⟨⟨hM, rfl, rfl⟩, (by omega)⟩ ⟨by decide, rfl, rfl, Nat.le_of_ble_eq_true rfl⟩ rfl (Or.inl ⟨rfl, rfl⟩) ?_
    refine x_bipush C dX6_number_34 (by decide) ?_
    refine x_isub C dX6_number_36 ?_
    refine x_istore_n C dX6_number_37 (by decide) ?_
    refine x_aload_n C dX6_number_38 rfl ?_
    refine x_dup C dX6_number_39 rfl ?_
    refine x_getfield C dX6_number_40 lfX6_195 hM (by omega) rfl ?_
    refine x_aload_n C dX6_number_43 rfl ?_
    refine x_getfield C dX6_number_44 lfX6_198 hM (by omega) rfl ?_
    refine x_ifeq_b (tgt := 54) C dX6_number_47 (by decide) (fun c47 => ?_) (fun c47 => ?_)
    · subst c47
      have hd0 : ¬ 0 ≤ zdg f L p := fun z => by have := hb.mpr z; cases this
      have e59 : ∀ s56 : zS, s56 = zsu s27 145 (zO 6 ([zi 0, zr 146, zr 147, zr 148, zi um, zr 149, zr 150, zr 151, zi L, zi p, zi (zb false), zr 152, zr 153, zr 154, zi lv, zi br, zi bc, zr 155].set 9 (zi (p + 0)))) → K 59 [some (zr 145), some (zi (zlr f L p - 48))] [] n s56 0 := by
        intro s56 e56
        have e56 : s56 = zsu σ 145 (zMO um L p false lv br bc) := by rw [e56, e27, zsu_u, Int.add_zero]; rfl
        have hM := (congrFun e56 145).trans (zsu_s _ _ _)
        have hz : znu f L p = (false, p, 0) := by
          unfold znu
          rw [hk, decide_eq_false (by omega), if_neg (by decide), if_pos (by omega)]
        refine x_aload_n C dX6_number_59 rfl ?_
        refine x_getfield C dX6_number_60 lfX6_198 hM (by omega) rfl ?_
        refine x_ifeq_b (tgt := 137) C dX6_number_63 (by decide) (fun c63 => ?_) (fun c63 => ?_)
        · refine x_iload_n C dX6_number_137 rfl ?_
          exact x_iret (st := []) C dX6_number_138 rfl ⟨congrArg (fun z => some (zi z)) (hr0 (by omega)).symm, rfl, by rw [e56, hz], rfl⟩
        · cases c63
      refine x_iconst C dX6_number_54 ?_
      refine x_iadd C dX6_number_55 ?_
      refine x_putI C dX6_number_56 lfX6_195 lyX6_9 hM (by omega) (Nat.le_of_ble_eq_true rfl) ?_
      refine x_nm (fun s56 e56 => ?_)
      have hM := (congrFun e56 145).trans (zsu_s _ _ _)
      exact e59 s56 e56
    · subst c47
      have hd0 := hb.mp rfl
      have e59 : ∀ s56 : zS, s56 = zsu s27 145 (zO 6 ([zi 0, zr 146, zr 147, zr 148, zi um, zr 149, zr 150, zr 151, zi L, zi p, zi (zb true), zr 152, zr 153, zr 154, zi lv, zi br, zi bc, zr 155].set 9 (zi (p + 1)))) → K 59 [some (zr 145), some (zi (zlr f L p - 48))] [] n s56 0 := by
        intro s56 e56
        have e56 : s56 = zsu σ 145 (zMO um L (p + 1) true lv br bc) := by rw [e56, e27, zsu_u]; rfl
        by_cases q1 : 1 ≤ zdg f L p
        · have l1 := loop q1 1 (by decide) (zlr f L p - 48) (by omega) (by
            rw [zvd_s f L 79 p 0, if_pos hd0, if_neg (by omega)]
            congr 1
            omega) (by omega)
          rw [e56]
          exact l1
        · have hM := (congrFun e56 145).trans (zsu_s _ _ _)
          have hz : znu f L p = (true, p + 1, 0) := by
            unfold znu
            rw [hk, decide_eq_true (by omega), if_pos rfl]
          refine x_aload_n C dX6_number_59 rfl ?_
          refine x_getfield C dX6_number_60 lfX6_198 hM (by omega) rfl ?_
          refine x_ifeq_b (tgt := 137) C dX6_number_63 (by decide) (fun c63 => ?_) (fun c63 => ?_)
          · cases c63
          · refine x_iload_n C dX6_number_66 rfl ?_
            refine x_if_le (tgt := 137) C dX6_number_67 (by decide) (by omega) (fun c67 => ?_) (fun c67 => ?_)
            · refine x_iload_n C dX6_number_137 rfl ?_
              exact x_iret (st := []) C dX6_number_138 rfl ⟨congrArg (fun z => some (zi z)) (hr0 q1).symm, rfl, by rw [e56, hz], rfl⟩
            · exfalso; omega
      refine x_iconst C dX6_number_50 ?_
      refine x_goto (tgt := 55) C dX6_number_51 (by decide) ?_
      refine x_iadd C dX6_number_55 ?_
      refine x_putI C dX6_number_56 lfX6_195 lyX6_9 hM (by omega) (Nat.le_of_ble_eq_true rfl) ?_
      refine x_nm (fun s56 e56 => ?_)
      have hM := (congrFun e56 145).trans (zsu_s _ _ _)
      exact e59 s56 e56
  refine x_aload_n C dX6_number_0 rfl ?_
  refine x_aload_n C dX6_number_1 rfl ?_
  refine x_getfield C dX6_number_2 lfX6_198 hM (by omega) rfl ?_
  refine x_ifeq_b (tgt := 26) C dX6_number_5 (by decide) (fun c5 => ?_) (fun c5 => ?_)
  · cases c5
  · refine x_aload_n C dX6_number_8 rfl ?_
    refine x_callV C dX6_number_9 hLt okX6_letter lkX6_202 ⟨⟨hM, rfl, rfl⟩, (by omega)⟩ ⟨by decide, rfl, rfl, Nat.le_of_ble_eq_true rfl⟩ rfl (Or.inl ⟨rfl, rfl⟩) ?_
    refine x_bipush C dX6_number_12 (by decide) ?_
    refine x_bipush C dX6_number_14 (by decide) ?_
    refine x_callS C dX6_number_16 (ctX6_in _ _ _ (by omega) (by omega) (by omega)) okX6_in lkX6_45 ⟨by decide, rfl, rfl, Nat.le_of_ble_eq_true rfl⟩ rfl (Or.inl ⟨rfl, rfl⟩) ?_
    refine x_ifeq_d (tgt := 26) C dX6_number_19 (by decide) (fun c19 => ?_) (fun c19 => ?_)
    · have hb : (false = true ↔ 0 ≤ zdg f L p) := ⟨fun z => (by cases z), fun z => (by omega)⟩
      refine x_iconst C dX6_number_26 ?_
      exact part _ hb
    · have hb : (true = true ↔ 0 ≤ zdg f L p) := ⟨fun _ => (by omega), fun _ => rfl⟩
      refine x_iconst C dX6_number_22 ?_
      refine x_goto (tgt := 27) C dX6_number_23 (by decide) ?_
      exact part _ hb
end
