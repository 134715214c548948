/-- the sign of a value, where it begins, what value() answers -/
def zls (f : Int → Int) (L : Int) (w : Bool) (p : Int) : Bool := w && decide (zlr f L p = 45)
def zvq (f : Int → Int) (L : Int) (w : Bool) (p : Int) : Int := if zls f L w p = true then p + 1 else p
def zvr (f : Int → Int) (L : Int) (w : Bool) (p : Int) : Int := if zls f L w p = true then -(znbr f L w (zvq f L w p)) else znbr f L w (zvq f L w p)
theorem zls_t (f : Int → Int) (L p : Int) : zls f L true p = zpk f L p 45 := by
  rw [zlr_k (show (45 : Int) ≠ 0 by decide)]
  rfl
theorem zvq_t (f : Int → Int) (L p : Int) : zvq f L true p = zpp f L p 45 := by
  unfold zvq
  rw [zls_t]
  by_cases h : zpk f L p 45 = true
  · rw [if_pos h, zpp_t h]
  · rw [if_neg h, zpp_f (by cases hk : zpk f L p 45; rfl; exact absurd hk h)]
theorem zvq_f (f : Int → Int) (L p : Int) : zvq f L false p = p := if_neg (fun z => by cases z)
theorem zvr_v {f : Int → Int} {L p : Int} (h : (zvl f L p).1 = true) : zvr f L true p = (zvl f L p).2.2 := by
  rw [zvl_nu] at h ⊢
  have h1 : (znu f L (zpp f L p 45)).1 = true := h
  unfold zvr zvs
  rw [zvq_t, zls_t, znbr_v h1]
  dsimp only
  rw [h1]
  by_cases q : zpk f L p 45 = true
  · rw [if_pos q, if_pos ⟨rfl, q⟩]
  · rw [if_neg q, if_neg (fun z => q z.2)]
/-- so many places of a row, from one on -/
def zfv (Va : Int → Int) (a m x : Int) : Int → Int := fun j => if a ≤ j ∧ j < m then x else Va j
/-- one row of values: what follows behind commas -/
def zmv (f : Int → Int) (L m : Int) : Nat → Bool → Int → Int → (Int → Int) → Bool × Int × (Int → Int)
  | 0, w, p, _, Va => (w, p, Va)
  | k + 1, w, p, a, Va => if w = true ∧ zlr f L p = 44 then zmv f L m k (zvl f L (p + 1)).1 (zvl f L (p + 1)).2.1 (a + 1) (zfv Va (a + 1) m (zvr f L true (p + 1))) else (w, p, Va)
def zmvF (f : Int → Int) (L m : Int) (w : Bool) (p : Int) (Va : Int → Int) : Bool × Int × (Int → Int) := zmv f L m 81 (w && (zvl f L p).1) (if w = true then (zvl f L p).2.1 else p) 0 (zfv Va 0 m (zvr f L w p))
section
variable {n : Nat} {σ : zS} {P f : Int → Int} {um L p lv br bc : Int} {wl : Bool}
theorem ctX6_numberN (hM : σ 145 = zMO um L p false lv br bc) (hP : σ 151 = zA 80 P) (hn : 155 ≤ n) (hm : isPm P f L) (hp : 0 ≤ p ∧ p ≤ 80) : zCt 2 0 0 yX6_number cX6_number 2 (some .int) [zr 145] n σ (some (zi (znbr f L false p))) n σ := by
  have hl := hm.l p
  have hLt := ctX6_letter (n := n) hM hP hn hm hp
  have hM0 := hM
  refine zCt.of (by decide) rfl (Nat.le_of_ble_eq_true rfl) (fun K C => ?_)
  refine x_aload_n C dX6_number_0 rfl ?_
  refine x_aload_n C dX6_number_1 rfl ?_
  refine x_getfield C dX6_number_2 lfX6_198 hM (by omega) rfl ?_
  refine x_ifeq_b (tgt := 26) C dX6_number_5 (by decide) (fun c5 => ?_) (fun c5 => ?_)
  · refine x_iconst C dX6_number_26 ?_
    refine x_putZ C dX6_number_27 lfX6_198 lyX6_10 (by first | decide | omega) hM (by omega) (Nat.le_of_ble_eq_true rfl) ?_
    refine x_nm (fun s27 e27 => ?_)
    rw [show s27 = σ from e27.trans (zsu_self hM0)]
    clear e27 s27
    refine x_aload_n C dX6_number_30 rfl ?_
    refine x_callV C dX6_number_31 hLt okX6_letter lkX6_202 ⟨⟨hM, rfl, rfl⟩, (by omega)⟩ ⟨by decide, rfl, rfl, Nat.le_of_ble_eq_true rfl⟩ rfl (Or.inl ⟨rfl, rfl⟩) ?_
    refine x_bipush C dX6_number_34 (by decide) ?_
    refine x_isub C dX6_number_36 ?_
    refine x_istore_n C dX6_number_37 (by decide) ?_
    refine x_aload_n C dX6_number_38 rfl ?_
    refine x_dup C dX6_number_39 rfl ?_
    refine x_getfield C dX6_number_40 lfX6_195 hM (by omega) rfl ?_
    refine x_aload_n C dX6_number_43 rfl ?_
    refine x_getfield C dX6_number_44 lfX6_198 hM (by omega) rfl ?_
    refine x_ifeq_b (tgt := 54) C dX6_number_47 (by decide) (fun c47 => ?_) (fun c47 => ?_)
    · refine x_iconst C dX6_number_54 ?_
      refine x_iadd C dX6_number_55 ?_
      refine x_putI C dX6_number_56 lfX6_195 lyX6_9 hM (by omega) (Nat.le_of_ble_eq_true rfl) ?_
      refine x_nm (fun s56 e56 => ?_)
      rw [Int.add_zero] at e56
      rw [show s56 = σ from e56.trans (zsu_self hM0)]
      clear e56 s56
      refine x_aload_n C dX6_number_59 rfl ?_
      refine x_getfield C dX6_number_60 lfX6_198 hM (by omega) rfl ?_
      refine x_ifeq_b (tgt := 137) C dX6_number_63 (by decide) (fun c63 => ?_) (fun c63 => ?_)
      · refine x_iload_n C dX6_number_137 rfl ?_
        exact x_iret (st := []) C dX6_number_138 rfl ⟨congrArg (fun z => some (zi z)) (by unfold znbr; rw [if_neg (fun z => by cases z.1)]), rfl, rfl, rfl⟩
      · cases c63
    · cases c47
  · cases c5
theorem ctX6_valueN (hM : σ 145 = zMO um L p false lv br bc) (hP : σ 151 = zA 80 P) (hn : 155 ≤ n) (hm : isPm P f L) (hp : 0 ≤ p ∧ p ≤ 80) : zCt 3 0 0 yX6_value cX6_value 3 (some .int) [zr 145] n σ (some (zi (zvr f L false p))) n σ := by
  have hl := hm.l p
  have hLt := ctX6_letter (n := n) hM hP hn hm hp
  have hM0 := hM
  refine zCt.of (by decide) rfl (Nat.le_of_ble_eq_true rfl) (fun K C => ?_)
  refine x_aload_n C dX6_value_0 rfl ?_
  refine x_getfield C dX6_value_1 lfX6_198 hM (by omega) rfl ?_
  refine x_ifeq_b (tgt := 20) C dX6_value_4 (by decide) (fun c4 => ?_) (fun c4 => ?_)
  · refine x_iconst C dX6_value_20 ?_
    refine x_istore_n C dX6_value_21 (by decide) ?_
    refine x_aload_n C dX6_value_22 rfl ?_
    refine x_dup C dX6_value_23 rfl ?_
    refine x_getfield C dX6_value_24 lfX6_195 hM (by omega) rfl ?_
    refine x_iload_n C dX6_value_27 rfl ?_
    refine x_if_eq (tgt := 35) C dX6_value_28 (by decide) (by omega) (fun c28 => ?_) (fun c28 => ?_)
    · refine x_iconst C dX6_value_35 ?_
      refine x_iadd C dX6_value_36 ?_
      refine x_putI C dX6_value_37 lfX6_195 lyX6_9 hM (by omega) (Nat.le_of_ble_eq_true rfl) ?_
      refine x_nm (fun s37 e37 => ?_)
      rw [Int.add_zero] at e37
      rw [show s37 = σ from e37.trans (zsu_self hM0)]
      clear e37 s37
      refine x_aload_n C dX6_value_40 rfl ?_
      refine x_callV C dX6_value_41 (ctX6_numberN hM0 hP hn hm hp) okX6_number lkX6_205 ⟨⟨hM, rfl, rfl⟩, (by omega)⟩ ⟨by decide, rfl, rfl, Nat.le_of_ble_eq_true rfl⟩ rfl (Or.inl ⟨rfl, rfl⟩) ?_
      refine x_istore_n C dX6_value_44 (by decide) ?_
      refine x_iload_n C dX6_value_45 rfl ?_
      refine x_if_eq (tgt := 54) C dX6_value_46 (by decide) (by omega) (fun c46 => ?_) (fun c46 => ?_)
      · refine x_iload_n C dX6_value_54 rfl ?_
        exact x_iret (st := []) C dX6_value_55 rfl ⟨congrArg (fun z => some (zi z)) (by unfold zvr; rw [if_neg (fun z => by cases z), zvq_f]), rfl, rfl, rfl⟩
      · exact absurd rfl c46
    · exact absurd rfl c28
  · cases c4
theorem ctX6_value (hM : σ 145 = zMO um L p true lv br bc) (hP : σ 151 = zA 80 P) (hn : 155 ≤ n) (hm : isPm P f L) (hp : 0 ≤ p ∧ p ≤ 80) : zCt 3 0 0 yX6_value cX6_value 3 (some .int) [zr 145] n σ (some (zi (zvr f L true p))) n (zsu σ 145 (zMO um L (zvl f L p).2.1 (zvl f L p).1 lv br bc)) := by
  have hl := hm.l p
  have hLt := ctX6_letter (n := n) hM hP hn hm hp
  have hM0 := hM
  have hL := hm.1
  have hpp := zpp_in (f := f) (L := L) 45 ⟨hp.2, hL.2⟩
  have ez : (zvl f L p).2.1 = (znu f L (zpp f L p 45)).2.1 ∧ (zvl f L p).1 = (znu f L (zpp f L p 45)).1 := by
    rw [zvl_nu]
    exact ⟨rfl, rfl⟩
  refine zCt.of (by decide) rfl (Nat.le_of_ble_eq_true rfl) (fun K C => ?_)
  have part : ∀ b : Bool, b = zls f L true p → K 22 [some (zr 145), some (zi (zb b)), none] [] n σ 0 := by
    intro b hb
    refine x_aload_n C dX6_value_22 rfl ?_
    refine x_dup C dX6_value_23 rfl ?_
    refine x_getfield C dX6_value_24 lfX6_195 hM (by omega) rfl ?_
    refine x_iload_n C dX6_value_27 rfl ?_
    refine x_ifeq_b (tgt := 35) C dX6_value_28 (by decide) (fun c28 => ?_) (fun c28 => ?_)
    · have hpq : zpp f L p 45 = p + 0 := by rw [← zvq_t, zvq, ← hb, c28, if_neg (by decide), Int.add_zero]
      refine x_iconst C dX6_value_35 ?_
      refine x_iadd C dX6_value_36 ?_
      refine x_putI C dX6_value_37 lfX6_195 lyX6_9 hM (by omega) (Nat.le_of_ble_eq_true rfl) ?_
      refine x_nm (fun s37 e37 => ?_)
      have hM := (congrFun e37 145).trans (zsu_s _ _ _)
      have e37 : s37 = zsu σ 145 (zMO um L (zpp f L p 45) true lv br bc) := e37.trans (by rw [hpq]; rfl)
      have hM := (congrFun e37 145).trans (zsu_s _ _ _)
      have hP := (congrFun e37 151).trans ((zsu_n σ _ (show (151 : Int) ≠ 145 by decide)).trans hP)
      have hNu := ctX6_number (n := n) hM hP hn hm (show 0 ≤ zpp f L p 45 ∧ zpp f L p 45 ≤ 80 by omega)
      rw [← zvq_t] at hNu
      refine x_aload_n C dX6_value_40 rfl ?_
      refine x_callV C dX6_value_41 hNu okX6_number lkX6_205 ⟨⟨hM, rfl, rfl⟩, (by omega)⟩ ⟨by decide, rfl, rfl, Nat.le_of_ble_eq_true rfl⟩ rfl (Or.inl ⟨rfl, rfl⟩) ?_
      refine x_istore_n C dX6_value_44 (by decide) ?_
      refine x_iload_n C dX6_value_45 rfl ?_
      refine x_ifeq_b (tgt := 54) C dX6_value_46 (by decide) (fun c46 => ?_) (fun c46 => ?_)
      · refine x_iload_n C dX6_value_54 rfl ?_
        exact x_iret (st := []) C dX6_value_55 rfl (by first | exact absurd (c28.symm.trans c46) (by decide) | exact ⟨congrArg (fun z => some (zi z)) (by unfold zvr; rw [← hb, c28]; rfl), rfl, by rw [e37, zsu_u, ez.1, ez.2, zvq_t], rfl⟩)
      · refine x_iload_n C dX6_value_49 rfl ?_
        refine x_ineg C dX6_value_50 ?_
        refine x_goto (tgt := 55) C dX6_value_51 (by decide) ?_
        exact x_iret (st := []) C dX6_value_55 rfl (by first | exact absurd (c28.symm.trans c46) (by decide) | exact ⟨congrArg (fun z => some (zi z)) (by unfold zvr; rw [← hb, c28]; rfl), rfl, by rw [e37, zsu_u, ez.1, ez.2, zvq_t], rfl⟩)
    · have hpq : zpp f L p 45 = p + 1 := by rw [← zvq_t, zvq, ← hb, c28, if_pos rfl]
      refine x_iconst C dX6_value_31 ?_
      refine x_goto (tgt := 36) C dX6_value_32 (by decide) ?_
      refine x_iadd C dX6_value_36 ?_
      refine x_putI C dX6_value_37 lfX6_195 lyX6_9 hM (by omega) (Nat.le_of_ble_eq_true rfl) ?_
      refine x_nm (fun s37 e37 => ?_)
      have hM := (congrFun e37 145).trans (zsu_s _ _ _)
      have e37 : s37 = zsu σ 145 (zMO um L (zpp f L p 45) true lv br bc) := e37.trans (by rw [hpq]; rfl)
      have hM := (congrFun e37 145).trans (zsu_s _ _ _)
      have hP := (congrFun e37 151).trans ((zsu_n σ _ (show (151 : Int) ≠ 145 by decide)).trans hP)
      have hNu := ctX6_number (n := n) hM hP hn hm (show 0 ≤ zpp f L p 45 ∧ zpp f L p 45 ≤ 80 by omega)
      rw [← zvq_t] at hNu
      refine x_aload_n C dX6_value_40 rfl ?_
      refine x_callV C dX6_value_41 hNu okX6_number lkX6_205 ⟨⟨hM, rfl, rfl⟩, (by omega)⟩ ⟨by decide, rfl, rfl, Nat.le_of_ble_eq_true rfl⟩ rfl (Or.inl ⟨rfl, rfl⟩) ?_
      refine x_istore_n C dX6_value_44 (by decide) ?_
      refine x_iload_n C dX6_value_45 rfl ?_
      refine x_ifeq_b (tgt := 54) C dX6_value_46 (by decide) (fun c46 => ?_) (fun c46 => ?_)
      · refine x_iload_n C dX6_value_54 rfl ?_
        exact x_iret (st := []) C dX6_value_55 rfl (by first | exact absurd (c28.symm.trans c46) (by decide) | exact ⟨congrArg (fun z => some (zi z)) (by unfold zvr; rw [← hb, c28]; rfl), rfl, by rw [e37, zsu_u, ez.1, ez.2, zvq_t], rfl⟩)
      · refine x_iload_n C dX6_value_49 rfl ?_
        refine x_ineg C dX6_value_50 ?_
        refine x_goto (tgt := 55) C dX6_value_51 (by decide) ?_
        exact x_iret (st := []) C dX6_value_55 rfl (by first | exact absurd (c28.symm.trans c46) (by decide) | exact ⟨congrArg (fun z => some (zi z)) (by unfold zvr; rw [← hb, c28]; rfl), rfl, by rw [e37, zsu_u, ez.1, ez.2, zvq_t], rfl⟩)
  refine x_aload_n C dX6_value_0 rfl ?_
  refine x_getfield C dX6_value_1 lfX6_198 hM (by omega) rfl ?_
  refine x_ifeq_b (tgt := 20) C dX6_value_4 (by decide) (fun c4 => ?_) (fun c4 => ?_)
  · cases c4
  · refine x_aload_n C dX6_value_7 rfl ?_
    refine x_callV C dX6_value_8 hLt okX6_letter lkX6_202 ⟨⟨hM, rfl, rfl⟩, (by omega)⟩ ⟨by decide, rfl, rfl, Nat.le_of_ble_eq_true rfl⟩ rfl (Or.inl ⟨rfl, rfl⟩) ?_
    refine x_bipush C dX6_value_11 (by decide) ?_
    refine x_icmp_ne (tgt := 20) C dX6_value_13 (by decide) (by omega) (fun c13 => ?_) (fun c13 => ?_)
    · have hb : false = zls f L true p := by rw [zls, decide_eq_false c13]; rfl
      refine x_iconst C dX6_value_20 ?_
      refine x_istore_n C dX6_value_21 (by decide) ?_
      exact part _ hb
    · have hb : true = zls f L true p := by rw [zls, decide_eq_true c13]; rfl
      refine x_iconst C dX6_value_16 ?_
      refine x_goto (tgt := 21) C dX6_value_17 (by decide) ?_
      refine x_istore_n C dX6_value_21 (by decide) ?_
      exact part _ hb
end
