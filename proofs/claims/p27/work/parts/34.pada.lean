/-- the pad's reading of a text: f the characters, L their number, p the place -/
def zpk (f : Int → Int) (L p c : Int) : Bool := decide (p < L ∧ f p = c)
def zpp (f : Int → Int) (L p c : Int) : Int := if p < L ∧ f p = c then p + 1 else p
def zdg (f : Int → Int) (L p : Int) : Int := if p < L ∧ 48 ≤ f p ∧ f p ≤ 57 then f p - 48 else -1
def zvd (f : Int → Int) (L : Int) : Nat → Int → Int → Bool × Int × Int
  | 0, p, x => (true, p, x)
  | k + 1, p, x => if 0 ≤ zdg f L p then (if 999 < x * 10 + zdg f L p then (false, p, x * 10 + zdg f L p) else zvd f L k (p + 1) (x * 10 + zdg f L p)) else (true, p, x)
def zvs (b : Bool) (r : Bool × Int × Int) : Bool × Int × Int := (r.1, r.2.1, if r.1 = true ∧ b = true then -r.2.2 else r.2.2)
def zvl (f : Int → Int) (L p : Int) : Bool × Int × Int :=
  if zpk f L (zpp f L p 45) 48 = true then (true, zpp f L p 45 + 1, 0) else if zdg f L (zpp f L p 45) < 0 then (false, zpp f L p 45, 0) else zvs (zpk f L p 45) (zvd f L 80 (zpp f L p 45) 0)
theorem zpp_t {f : Int → Int} {L p c : Int} (h : zpk f L p c = true) : zpp f L p c = p + 1 := if_pos (of_decide_eq_true h)
theorem zpp_f {f : Int → Int} {L p c : Int} (h : zpk f L p c = false) : zpp f L p c = p := if_neg (of_decide_eq_false h)
theorem zpk_in {f : Int → Int} {L p c : Int} (h : zpk f L p c = true) : p < L := (of_decide_eq_true h).1
theorem zpp_in {f : Int → Int} {L p : Int} (c : Int) (h : p ≤ 80 ∧ L ≤ 80) : p ≤ zpp f L p c ∧ zpp f L p c ≤ 80 := by
  unfold zpp
  split <;> omega
theorem zdg_in (f : Int → Int) (L p : Int) : -1 ≤ zdg f L p ∧ zdg f L p ≤ 9 ∧ (0 ≤ zdg f L p → p < L) := by
  unfold zdg
  split <;> omega
theorem zvd_in {f : Int → Int} {L : Int} (hL : L ≤ 80) : ∀ (k : Nat) (p x : Int), p ≤ 80 → 0 ≤ x ∧ x ≤ 999 → p ≤ (zvd f L k p x).2.1 ∧ (zvd f L k p x).2.1 ≤ 80 ∧ ((zvd f L k p x).1 = true → 0 ≤ (zvd f L k p x).2.2 ∧ (zvd f L k p x).2.2 ≤ 999)
  | 0, p, x, h1, h2 => ⟨Int.le_refl _, h1, fun _ => h2⟩
  | k + 1, p, x, h1, h2 => by
    have hd := zdg_in f L p
    have ih := zvd_in (f := f) hL k (p + 1) (x * 10 + zdg f L p)
    unfold zvd
    split
    · split
      · exact ⟨Int.le_refl _, h1, fun q => by cases q⟩
      · have ih := ih (by omega) (by omega)
        exact ⟨by omega, ih.2⟩
    · exact ⟨Int.le_refl _, h1, fun _ => h2⟩
theorem zvl_in {f : Int → Int} {L p : Int} (hL : L ≤ 80) (hp : p ≤ 80) : p ≤ (zvl f L p).2.1 ∧ (zvl f L p).2.1 ≤ 80 ∧ ((zvl f L p).1 = true → -999 ≤ (zvl f L p).2.2 ∧ (zvl f L p).2.2 ≤ 999) := by
  have h1 := zpp_in (f := f) 45 ⟨hp, hL⟩
  have h2 := zvd_in (f := f) hL 80 (zpp f L p 45) 0 h1.2 (by decide)
  unfold zvl
  split
  · rename_i c
    have h3 := zpk_in c
    exact ⟨show p ≤ zpp f L p 45 + 1 by omega, show zpp f L p 45 + 1 ≤ 80 by omega, fun _ => show (-999 : Int) ≤ 0 ∧ (0 : Int) ≤ 999 by decide⟩
  · split
    · exact ⟨h1.1, h1.2, fun q => by cases q⟩
    · refine ⟨Int.le_trans h1.1 h2.1, h2.2.1, fun q => ?_⟩
      have h4 := h2.2.2 q
      unfold zvs
      dsimp only
      split <;> omega
section
variable {n : Nat} {σ : zS} {f : Int → Int} {L p x : Int}
theorem ctX2_passes {c : Int} (hP0 : σ 103 = zPO L p x) (hP1 : σ 104 = zP 2 80 f) (hp : 0 ≤ p ∧ p ≤ 80) (hL : 0 ≤ L ∧ L ≤ 80) (hf : ∀ j, 0 ≤ f j ∧ f j < 65536) (hc : 0 ≤ c ∧ c < 65536) (hn : 144 ≤ n) : zCt 1 0 0 yX2_passes cX2_passes 2 (some .boolean) [zr 103, zi c] n σ (some (zi (zb (zpk f L p c)))) n (zsu σ 103 (zPO L (zpp f L p c) x)) := by
  have hfp := hf p
  refine zCt.of (by decide) rfl (Nat.le_of_ble_eq_true rfl) (fun K C => ?_)
  refine x_aload_n C dX2_passes_0 rfl ?_
  refine x_getfield C dX2_passes_1 lfX2_36 hP0 (by omega) rfl ?_
  refine x_aload_n C dX2_passes_4 rfl ?_
  refine x_getfield C dX2_passes_5 lfX2_15 hP0 (by omega) rfl ?_
  refine x_icmp_ge (tgt := 33) C dX2_passes_8 (by decide) (by omega) (fun c8 => ?_) (fun c8 => ?_)
  · refine x_iconst C dX2_passes_33 ?_
    exact x_zret (st := []) (b := false) C dX2_passes_34 rfl ⟨congrArg (fun z => some (zi (zb z))) (decide_eq_false (by omega)).symm, rfl, by rw [zpp, if_neg (by omega)]; exact (zsu_self hP0).symm, rfl⟩
  · refine x_aload_n C dX2_passes_11 rfl ?_
    refine x_getfield C dX2_passes_12 lfX2_36 hP0 (by omega) rfl ?_
    refine x_bipush C dX2_passes_15 (by decide) ?_
    refine x_icmp_ge (tgt := 33) C dX2_passes_17 (by decide) (by omega) (fun c17 => ?_) (fun c17 => ?_)
    · refine x_iconst C dX2_passes_33 ?_
      exact x_zret (st := []) (b := false) C dX2_passes_34 rfl ⟨congrArg (fun z => some (zi (zb z))) (decide_eq_false (by omega)).symm, rfl, by rw [zpp, if_neg (by omega)]; exact (zsu_self hP0).symm, rfl⟩
    · refine x_aload_n C dX2_passes_20 rfl ?_
      refine x_getfield C dX2_passes_21 lfX2_9 hP0 (by omega) rfl ?_
      refine x_aload_n C dX2_passes_24 rfl ?_
      refine x_getfield C dX2_passes_25 lfX2_36 hP0 (by omega) rfl ?_
      refine x_caload C dX2_passes_28 hP1 (by omega) ?_
      refine x_iload_n C dX2_passes_29 rfl ?_
      refine x_icmp_eq (tgt := 35) C dX2_passes_30 (by decide) (by omega) (fun c30 => ?_) (fun c30 => ?_)
      · refine x_aload_n C dX2_passes_35 rfl ?_
        refine x_dup C dX2_passes_36 rfl ?_
        refine x_getfield C dX2_passes_37 lfX2_36 hP0 (by omega) rfl ?_
        refine x_iconst C dX2_passes_40 ?_
        refine x_iadd C dX2_passes_41 ?_
        refine x_putI C dX2_passes_42 lfX2_36 lyX2_6 hP0 (by omega) (Nat.le_of_ble_eq_true rfl) ?_
        refine x_nm (fun s42 e42 => ?_)
        have hP0 := (congrFun e42 103).trans (zsu_s _ _ _)
        have hP1 := (congrFun e42 104).trans ((zsu_n _ _ (by omega)).trans hP1)
        refine x_iconst C dX2_passes_45 ?_
        exact x_zret (st := []) (b := true) C dX2_passes_46 rfl ⟨congrArg (fun z => some (zi (zb z))) (decide_eq_true (by omega)).symm, rfl, by rw [zpp, if_pos (by omega), e42]; rfl, rfl⟩
      · refine x_iconst C dX2_passes_33 ?_
        exact x_zret (st := []) (b := false) C dX2_passes_34 rfl ⟨congrArg (fun z => some (zi (zb z))) (decide_eq_false (by omega)).symm, rfl, by rw [zpp, if_neg (by omega)]; exact (zsu_self hP0).symm, rfl⟩
theorem ctX2_digit (hP0 : σ 103 = zPO L p x) (hP1 : σ 104 = zP 2 80 f) (hp : 0 ≤ p ∧ p ≤ 80) (hL : 0 ≤ L ∧ L ≤ 80) (hf : ∀ j, 0 ≤ f j ∧ f j < 65536) (hn : 144 ≤ n) : zCt 1 0 0 yX2_digit cX2_digit 1 (some .int) [zr 103] n σ (some (zi (zdg f L p))) n σ := by
  have hfp := hf p
  refine zCt.of (by decide) rfl (Nat.le_of_ble_eq_true rfl) (fun K C => ?_)
  refine x_aload_n C dX2_digit_0 rfl ?_
  refine x_getfield C dX2_digit_1 lfX2_36 hP0 (by omega) rfl ?_
  refine x_aload_n C dX2_digit_4 rfl ?_
  refine x_getfield C dX2_digit_5 lfX2_15 hP0 (by omega) rfl ?_
  refine x_icmp_ge (tgt := 48) C dX2_digit_8 (by decide) (by omega) (fun c8 => ?_) (fun c8 => ?_)
  · refine x_iconst C dX2_digit_48 ?_
    exact x_iret (st := []) C dX2_digit_49 rfl ⟨congrArg (fun z => some (zi z)) (by unfold zdg; split <;> omega), rfl, rfl, rfl⟩
  · refine x_aload_n C dX2_digit_11 rfl ?_
    refine x_getfield C dX2_digit_12 lfX2_36 hP0 (by omega) rfl ?_
    refine x_bipush C dX2_digit_15 (by decide) ?_
    refine x_icmp_ge (tgt := 48) C dX2_digit_17 (by decide) (by omega) (fun c17 => ?_) (fun c17 => ?_)
    · refine x_iconst C dX2_digit_48 ?_
      exact x_iret (st := []) C dX2_digit_49 rfl ⟨congrArg (fun z => some (zi z)) (by unfold zdg; split <;> omega), rfl, rfl, rfl⟩
    · refine x_aload_n C dX2_digit_20 rfl ?_
      refine x_getfield C dX2_digit_21 lfX2_9 hP0 (by omega) rfl ?_
      refine x_aload_n C dX2_digit_24 rfl ?_
      refine x_getfield C dX2_digit_25 lfX2_36 hP0 (by omega) rfl ?_
      refine x_caload C dX2_digit_28 hP1 (by omega) ?_
      refine x_bipush C dX2_digit_29 (by decide) ?_
      refine x_icmp_lt (tgt := 48) C dX2_digit_31 (by decide) (by omega) (fun c31 => ?_) (fun c31 => ?_)
      · refine x_iconst C dX2_digit_48 ?_
        exact x_iret (st := []) C dX2_digit_49 rfl ⟨congrArg (fun z => some (zi z)) (by unfold zdg; split <;> omega), rfl, rfl, rfl⟩
      · refine x_aload_n C dX2_digit_34 rfl ?_
        refine x_getfield C dX2_digit_35 lfX2_9 hP0 (by omega) rfl ?_
        refine x_aload_n C dX2_digit_38 rfl ?_
        refine x_getfield C dX2_digit_39 lfX2_36 hP0 (by omega) rfl ?_
        refine x_caload C dX2_digit_42 hP1 (by omega) ?_
        refine x_bipush C dX2_digit_43 (by decide) ?_
        refine x_icmp_le (tgt := 50) C dX2_digit_45 (by decide) (by omega) (fun c45 => ?_) (fun c45 => ?_)
        · refine x_aload_n C dX2_digit_50 rfl ?_
          refine x_getfield C dX2_digit_51 lfX2_9 hP0 (by omega) rfl ?_
          refine x_aload_n C dX2_digit_54 rfl ?_
          refine x_getfield C dX2_digit_55 lfX2_36 hP0 (by omega) rfl ?_
          refine x_caload C dX2_digit_58 hP1 (by omega) ?_
          refine x_bipush C dX2_digit_59 (by decide) ?_
          refine x_isub C dX2_digit_61 ?_
          exact x_iret (st := []) C dX2_digit_62 rfl ⟨congrArg (fun z => some (zi z)) (by unfold zdg; split <;> omega), rfl, rfl, rfl⟩
        · refine x_iconst C dX2_digit_48 ?_
          exact x_iret (st := []) C dX2_digit_49 rfl ⟨congrArg (fun z => some (zi z)) (by unfold zdg; split <;> omega), rfl, rfl, rfl⟩
theorem ctX2_readValue (hP0 : σ 103 = zPO L p x) (hP1 : σ 104 = zP 2 80 f) (hp : 0 ≤ p ∧ p ≤ 80) (hL : 0 ≤ L ∧ L ≤ 80) (hf : ∀ j, 0 ≤ f j ∧ f j < 65536) (hn : 144 ≤ n) : zCt 2 0 0 yX2_readValue cX2_readValue 3 (some .boolean) [zr 103] n σ (some (zi (zb (zvl f L p).1))) n (zsu σ 103 (zPO L (zvl f L p).2.1 (zvl f L p).2.2)) := by
  have hq := zpp_in (f := f) 45 ⟨hp.2, hL.2⟩
  have hdg := zdg_in f L (zpp f L p 45)
  have hP1k := hP1
  refine zCt.of (by decide) rfl (Nat.le_of_ble_eq_true rfl) (fun K C => ?_)
  have loop : zvl f L p = zvs (zpk f L p 45) (zvd f L 80 (zpp f L p 45) 0) → ∀ k : Nat, k ≤ 80 → ∀ q x : Int, 0 ≤ q ∧ q ≤ 80 → 0 ≤ x ∧ x ≤ 999 → zvd f L 80 (zpp f L p 45) 0 = zvd f L (80 - k) q x → K 34 [some (zr 103), some (zi (zb (zpk f L p 45))), some (zi (k : Int))] [] n (zsu σ 103 (zPO L q x)) 0 := by
    intro hz
    generalize zpk f L p 45 = b at hz ⊢
    refine zloop _ 80 (fun k hk ih => ?_)
    intro q x hq hx he
    have hP0 := zsu_s σ 103 (zPO L q x)
    have hP1 := (zsu_n σ (zPO L q x) (show (104 : Int) ≠ 103 by decide)).trans hP1k
    have hd := zdg_in f L q
    refine x_aload_n C dX2_readValue_34 rfl ?_
    refine x_callV C dX2_readValue_35 (ctX2_digit hP0 hP1 (by omega) hL hf hn) okX2_digit lkX2_103 ⟨⟨hP0, rfl, rfl⟩, (by omega)⟩ ⟨by decide, rfl, rfl, Nat.le_of_ble_eq_true rfl⟩ rfl (Or.inl ⟨rfl, rfl⟩) ?_
    refine x_if_lt (tgt := 91) C dX2_readValue_38 (by decide) (by omega) (fun c38 => ?_) (fun c38 => ?_)
    · have he1 : zvd f L 80 (zpp f L p 45) 0 = (true, q, x) := by
        rw [he]
        cases hk9 : 80 - k with
        | zero => rfl
        | succ j => exact if_neg (by omega)
      refine x_aload_n C dX2_readValue_91 rfl ?_
      refine x_iload_n C dX2_readValue_92 rfl ?_
      refine x_ifeq_b (tgt := 104) C dX2_readValue_93 (by decide) (fun c93 => ?_) (fun c93 => ?_)
      · refine x_aload_n C dX2_readValue_104 rfl ?_
        refine x_getfield C dX2_readValue_105 lfX2_39 hP0 (by omega) rfl ?_
        refine x_putI C dX2_readValue_108 lfX2_39 lyX2_7 hP0 (by omega) (Nat.le_of_ble_eq_true rfl) ?_
        refine x_nm (fun s108 e108 => ?_)
        have hP0 := (congrFun e108 103).trans (zsu_s _ _ _)
        refine x_iconst C dX2_readValue_111 ?_
        exact x_zret (st := []) (b := true) C dX2_readValue_112 rfl ⟨congrArg (fun z => some (zi (zb z))) (by rw [hz, he1]; rfl), rfl, by rw [e108, zsu_u, hz, he1]; subst c93; rfl, rfl⟩
      · refine x_aload_n C dX2_readValue_96 rfl ?_
        refine x_getfield C dX2_readValue_97 lfX2_39 hP0 (by omega) rfl ?_
        refine x_ineg C dX2_readValue_100 ?_
        refine x_goto (tgt := 108) C dX2_readValue_101 (by decide) ?_
        refine x_putI C dX2_readValue_108 lfX2_39 lyX2_7 hP0 (by omega) (Nat.le_of_ble_eq_true rfl) ?_
        refine x_nm (fun s108 e108 => ?_)
        have hP0 := (congrFun e108 103).trans (zsu_s _ _ _)
        refine x_iconst C dX2_readValue_111 ?_
        exact x_zret (st := []) (b := true) C dX2_readValue_112 rfl ⟨congrArg (fun z => some (zi (zb z))) (by rw [hz, he1]; rfl), rfl, by rw [e108, zsu_u, hz, he1]; subst c93; rfl, rfl⟩
    · refine x_iload_n C dX2_readValue_41 rfl ?_
      refine x_bipush C dX2_readValue_42 (by decide) ?_
      refine x_icmp_ge (tgt := 91) C dX2_readValue_44 (by decide) (by omega) (fun c44 => ?_) (fun c44 => ?_)
      · have he1 : zvd f L 80 (zpp f L p 45) 0 = (true, q, x) := by
          rw [he, show 80 - k = 0 by omega]
          rfl
        refine x_aload_n C dX2_readValue_91 rfl ?_
        refine x_iload_n C dX2_readValue_92 rfl ?_
        refine x_ifeq_b (tgt := 104) C dX2_readValue_93 (by decide) (fun c93 => ?_) (fun c93 => ?_)
        · refine x_aload_n C dX2_readValue_104 rfl ?_
          refine x_getfield C dX2_readValue_105 lfX2_39 hP0 (by omega) rfl ?_
          refine x_putI C dX2_readValue_108 lfX2_39 lyX2_7 hP0 (by omega) (Nat.le_of_ble_eq_true rfl) ?_
          refine x_nm (fun s108 e108 => ?_)
          have hP0 := (congrFun e108 103).trans (zsu_s _ _ _)
          refine x_iconst C dX2_readValue_111 ?_
          exact x_zret (st := []) (b := true) C dX2_readValue_112 rfl ⟨congrArg (fun z => some (zi (zb z))) (by rw [hz, he1]; rfl), rfl, by rw [e108, zsu_u, hz, he1]; subst c93; rfl, rfl⟩
        · refine x_aload_n C dX2_readValue_96 rfl ?_
          refine x_getfield C dX2_readValue_97 lfX2_39 hP0 (by omega) rfl ?_
          refine x_ineg C dX2_readValue_100 ?_
          refine x_goto (tgt := 108) C dX2_readValue_101 (by decide) ?_
          refine x_putI C dX2_readValue_108 lfX2_39 lyX2_7 hP0 (by omega) (Nat.le_of_ble_eq_true rfl) ?_
          refine x_nm (fun s108 e108 => ?_)
          have hP0 := (congrFun e108 103).trans (zsu_s _ _ _)
          refine x_iconst C dX2_readValue_111 ?_
          exact x_zret (st := []) (b := true) C dX2_readValue_112 rfl ⟨congrArg (fun z => some (zi (zb z))) (by rw [hz, he1]; rfl), rfl, by rw [e108, zsu_u, hz, he1]; subst c93; rfl, rfl⟩
      · refine x_aload_n C dX2_readValue_47 rfl ?_
        refine x_aload_n C dX2_readValue_48 rfl ?_
        refine x_getfield C dX2_readValue_49 lfX2_39 hP0 (by omega) rfl ?_
        refine x_bipush C dX2_readValue_52 (by decide) ?_
        refine x_imul C dX2_readValue_54 ?_
        refine x_aload_n C dX2_readValue_55 rfl ?_
        refine x_callV C dX2_readValue_56 (ctX2_digit hP0 hP1 (by omega) hL hf hn) okX2_digit lkX2_103 ⟨⟨hP0, rfl, rfl⟩, (by omega)⟩ ⟨by decide, rfl, rfl, Nat.le_of_ble_eq_true rfl⟩ rfl (Or.inl ⟨rfl, rfl⟩) ?_
        refine x_iadd C dX2_readValue_59 ?_
        refine x_putI C dX2_readValue_60 lfX2_39 lyX2_7 hP0 (by omega) (Nat.le_of_ble_eq_true rfl) ?_
        refine x_nm (fun s60 e60 => ?_)
        have hP0 := (congrFun e60 103).trans (zsu_s _ _ _)
        have hP1 := (congrFun e60 104).trans ((zsu_n _ _ (by decide)).trans hP1)
        refine x_aload_n C dX2_readValue_63 rfl ?_
        refine x_getfield C dX2_readValue_64 lfX2_39 hP0 (by omega) rfl ?_
        refine x_sipush C dX2_readValue_67 (by decide) ?_
        refine x_icmp_le (tgt := 75) C dX2_readValue_70 (by decide) (by omega) (fun c70 => ?_) (fun c70 => ?_)
        · refine x_aload_n C dX2_readValue_75 rfl ?_
          refine x_dup C dX2_readValue_76 rfl ?_
          refine x_getfield C dX2_readValue_77 lfX2_36 hP0 (by omega) rfl ?_
          refine x_iconst C dX2_readValue_80 ?_
          refine x_iadd C dX2_readValue_81 ?_
          refine x_putI C dX2_readValue_82 lfX2_36 lyX2_6 hP0 (by omega) (Nat.le_of_ble_eq_true rfl) ?_
          refine x_nm (fun s82 e82 => ?_)
          have hP0 := (congrFun e82 103).trans (zsu_s _ _ _)
          have ih := ih (by omega) (q + 1) (x * 10 + zdg f L q) (by omega) (by omega) (by
            rw [he, show 80 - k = (80 - (k + 1)) + 1 by omega]
            exact (if_pos (by omega)).trans (if_neg (by omega)))
          rw [show ((k + 1 : Nat) : Int) = (k : Int) + 1 by omega] at ih
          rw [show s82 = zsu σ 103 (zPO L (q + 1) (x * 10 + zdg f L q)) by rw [e82, e60, zsu_u, zsu_u]; rfl]
          refine x_iinc C dX2_readValue_85 rfl (by decide) ?_
          refine x_goto (tgt := 34) C dX2_readValue_88 (by decide) ?_
          exact ih
        · have he1 : zvd f L 80 (zpp f L p 45) 0 = (false, q, x * 10 + zdg f L q) := by
            rw [he, show 80 - k = (80 - (k + 1)) + 1 by omega]
            exact (if_pos (by omega)).trans (if_pos (by omega))
          refine x_iconst C dX2_readValue_73 ?_
          exact x_zret (st := []) (b := false) C dX2_readValue_74 rfl ⟨congrArg (fun z => some (zi (zb z))) (by rw [hz, he1]; rfl), rfl, by rw [e60, zsu_u, hz, he1]; rfl, rfl⟩
  refine x_aload_n C dX2_readValue_0 rfl ?_
  refine x_bipush C dX2_readValue_1 (by decide) ?_
  refine x_callV C dX2_readValue_3 (ctX2_passes hP0 hP1 (by omega) hL hf (by omega) hn) okX2_passes lkX2_46 ⟨⟨hP0, rfl, rfl⟩, (by omega)⟩ ⟨by decide, rfl, rfl, Nat.le_of_ble_eq_true rfl⟩ rfl (Or.inl ⟨rfl, rfl⟩) ?_
  refine x_nm (fun s3 e3 => ?_)
  have hP0 := (congrFun e3 103).trans (zsu_s _ _ _)
  have hP1 := (congrFun e3 104).trans ((zsu_n _ _ (by decide)).trans hP1)
  refine x_istore_n C dX2_readValue_6 (by decide) ?_
  refine x_aload_n C dX2_readValue_7 rfl ?_
  refine x_iconst C dX2_readValue_8 ?_
  refine x_putI C dX2_readValue_9 lfX2_39 lyX2_7 hP0 (by omega) (Nat.le_of_ble_eq_true rfl) ?_
  refine x_nm (fun s9 e9 => ?_)
  have hP0 := (congrFun e9 103).trans (zsu_s _ _ _)
  have hP1 := (congrFun e9 104).trans ((zsu_n _ _ (by decide)).trans hP1)
  refine x_aload_n C dX2_readValue_12 rfl ?_
  refine x_bipush C dX2_readValue_13 (by decide) ?_
  refine x_callV C dX2_readValue_15 (ctX2_passes hP0 hP1 (by omega) hL hf (by omega) hn) okX2_passes lkX2_46 ⟨⟨hP0, rfl, rfl⟩, (by omega)⟩ ⟨by decide, rfl, rfl, Nat.le_of_ble_eq_true rfl⟩ rfl (Or.inl ⟨rfl, rfl⟩) ?_
  refine x_nm (fun s15 e15 => ?_)
  have hP0 := (congrFun e15 103).trans (zsu_s _ _ _)
  have hP1 := (congrFun e15 104).trans ((zsu_n _ _ (by decide)).trans hP1)
  refine x_ifeq_b (tgt := 23) C dX2_readValue_18 (by decide) (fun c18 => ?_) (fun c18 => ?_)
  · have hpf := zpp_f c18
    rw [hpf] at hP0
    refine x_aload_n C dX2_readValue_23 rfl ?_
    refine x_callV C dX2_readValue_24 (ctX2_digit hP0 hP1 (by omega) hL hf hn) okX2_digit lkX2_103 ⟨⟨hP0, rfl, rfl⟩, (by omega)⟩ ⟨by decide, rfl, rfl, Nat.le_of_ble_eq_true rfl⟩ rfl (Or.inl ⟨rfl, rfl⟩) ?_
    refine x_if_ge (tgt := 32) C dX2_readValue_27 (by decide) (by omega) (fun c27 => ?_) (fun c27 => ?_)
    · refine x_iconst C dX2_readValue_32 ?_
      refine x_istore_n C dX2_readValue_33 (by decide) ?_
      rw [show s15 = zsu σ 103 (zPO L (zpp f L p 45) 0) by rw [e15, e9, e3, zsu_u, zsu_u, hpf]]
      exact loop (by rw [zvl, if_neg (by rw [c18]; decide), if_neg (by omega)]) 0 (by decide) _ _ (by omega) (by decide) rfl
    · refine x_iconst C dX2_readValue_30 ?_
      exact x_zret (st := []) (b := false) C dX2_readValue_31 rfl ⟨congrArg (fun z => some (zi (zb z))) (by rw [zvl, if_neg (by rw [c18]; decide), if_pos c27]), rfl, by rw [e15, e9, e3, zsu_u, zsu_u, zvl, if_neg (by rw [c18]; decide), if_pos c27, zpp_f c18], rfl⟩
  · refine x_iconst C dX2_readValue_21 ?_
    exact x_zret (st := []) (b := true) C dX2_readValue_22 rfl ⟨congrArg (fun z => some (zi (zb z))) (by rw [zvl, if_pos c18]), rfl, by rw [e15, e9, e3, zsu_u, zsu_u, zvl, if_pos c18, zpp_t c18], rfl⟩
end
