theorem zvk_iff (t : Int → Int) (d r c : Int) : ∀ k : Nat, zvk t d r c k = true ↔ ∀ a : Nat, a < k → t (zmn a (r / zp2 (d - a)) (c / zp2 (d - a))) = 3
  | 0 => ⟨fun _ a ha => absurd ha (by omega), fun _ => rfl⟩
  | k + 1 => by
    have ih := zvk_iff t d r c k
    rw [zvk, Bool.and_eq_true, ih, decide_eq_true_iff]
    constructor
    · intro h a ha
      by_cases q : a < k
      · exact h.1 a q
      · rw [show a = k by omega]
        exact h.2
    · intro h
      exact ⟨fun a ha => h a (by omega), h k (by omega)⟩
theorem zvis_mono {t t2 : Int → Int} (h : ∀ x, 0 ≤ x → x < 85 → t2 x = 3 → t x = 3) {d r c : Int} (hd : 0 ≤ d ∧ d ≤ 3) (hr : 0 ≤ r ∧ r < zp2 d) (hc : 0 ≤ c ∧ c < zp2 d) (hv : zvis t2 d r c = true) : zvis t d r c = true := by
  have h2 := (zvk_iff t2 d r c d.toNat).mp hv
  refine (zvk_iff t d r c d.toNat).mpr (fun a ha => ?_)
  have h3 := zp2_d (d := d) (j := d - a) (by omega) hd.2 hr
  have h4 := zp2_d (d := d) (j := d - a) (by omega) hd.2 hc
  rw [show d - (d - (a : Int)) = a by omega] at h3 h4
  have h5 := zmn_in (d := a) (by omega) h3 h4
  exact h _ h5.1 h5.2 (h2 a ha)
/-- the deepest blocks that are there are not cut -/
def zVl (t : Int → Int) : Prop := ∀ r c, (0 ≤ r ∧ r < 8) → (0 ≤ c ∧ c < 8) → zvis t 3 r c = true → t (zmn 3 r c) ≠ 3
theorem zVl.mono {t t2 : Int → Int} (hv : zVl t) (h : ∀ x, 0 ≤ x → x < 85 → t2 x = 3 → t x = 3) : zVl t2 := by
  intro r c hr hc h1 h2
  have h5 := zmn_in (d := 3) (r := r) (c := c) (by decide) hr hc
  exact hv r c hr hc (zvis_mono h (by decide) hr hc h1) (h _ h5.1 h5.2 h2)
theorem zsz_4 (d : Int) : zsz d = 16 ∨ zsz d = 8 ∨ zsz d = 4 ∨ zsz d = 2 := by
  unfold zsz
  split
  · exact Or.inl rfl
  split
  · exact Or.inr (Or.inl rfl)
  split
  · exact Or.inr (Or.inr (Or.inl rfl))
  · exact Or.inr (Or.inr (Or.inr rfl))
theorem zp2_4 (d : Int) : zp2 d = 1 ∨ zp2 d = 2 ∨ zp2 d = 4 ∨ zp2 d = 8 := by
  unfold zp2
  split
  · exact Or.inl rfl
  split
  · exact Or.inr (Or.inl rfl)
  split
  · exact Or.inr (Or.inr (Or.inl rfl))
  · exact Or.inr (Or.inr (Or.inr rfl))
theorem zrk_in (s d : Int) : 0 ≤ zrk s (zsz d) ∧ zrk s (zsz d) ≤ 256 := by
  unfold zrk
  rcases zsz_4 d with h | h | h | h <;> rw [h] <;> split <;> (try split) <;> (try split) <;> decide
theorem zrmI_in (t : Int → Int) (b N r c k : Int) : 0 ≤ zrmI t b N r c k ∧ zrmI t b N r c k ≤ 256 := by
  unfold zrmI
  split
  · exact zrk_in _ _
  · decide
theorem zrmO_in (t : Int → Int) (d r c j : Int) : 0 ≤ zrmO t d r c j ∧ zrmO t d r c j ≤ 16384 := by
  have h := zsmN (fun k => zrmI_in t (d + j) (zp2 j) r c k) (zp2 j * zp2 j).toNat
  have h2 : (zp2 j * zp2 j).toNat ≤ 64 := by
    rcases zp2_4 j with h | h | h | h <;> rw [h] <;> decide
  unfold zrmO
  omega
theorem zrmF_in (t : Int → Int) {d : Int} (hd : 0 ≤ d) (r c : Int) : 0 ≤ zrmF t d r c ∧ zrmF t d r c ≤ 65536 := by
  have h := zsmN (fun k => zrmO_in t d r c k) (4 - d).toNat
  unfold zrmF
  omega
noncomputable def zmb (S : Int → Int) (m d r c : Int) : Int → Int :=
  if zsT S m (zmn d r c) = 3 then zu S (341 * m + zmn d r c) (if ∀ k : Nat, k < 4 → zsT S m (zmn (d + 1) (2 * r + (k : Int) / 2) (2 * c + (k : Int) % 2)) = 0 then 0 else if zone (zsE S m) (r * zsz d) (c * zsz d) (zsz d) = 1 ∧ 2 * zsz d ≤ zrmF (zsT S m) d r c then 2 else 3)
  else if zsT S m (zmn d r c) ≠ 0 then zu S (341 * m + zmn d r c) (if zone (zsE S m) (r * zsz d) (c * zsz d) (zsz d) = 2 then 0 else if zone (zsE S m) (r * zsz d) (c * zsz d) (zsz d) = 1 then 2 else zsT S m (zmn d r c)) else S
noncomputable def zlvs (m d N : Int) (T : Int → Int) (k : Int) : Int → Int := if zvis (zsT T m) d (k / N) (k % N) = true then zmb T m d (k / N) (k % N) else T
noncomputable def zlv (m d N : Int) (S : Int → Int) : Nat → Int → Int := zfo (zlvs m d N) S
noncomputable def zsh (m : Int) (S : Int → Int) : Nat → Int → Int := zfo (fun T j => zlv m (3 - j) (zp2 (3 - j)) T (zp2 (3 - j) * zp2 (3 - j)).toNat) S
def okM (m : Int) (S : Int → Int) : Prop := isSo S ∧ zEn S ∧ zVl (zsT S m)
theorem zmb_ok {S : Int → Int} {m d r c : Int} (h : okM m S) (hm : 0 ≤ m ∧ m < 4) (hd : 0 ≤ d ∧ d ≤ 3) (hr : 0 ≤ r ∧ r < zp2 d) (hc : 0 ≤ c ∧ c < zp2 d) : okM m (zmb S m d r c) := by
  obtain ⟨h1, h2, h3⟩ := h
  have hz := zmn_in hd hr hc
  have hs := h1.m hm hd hr hc
  have key : ∀ v : Int, (0 ≤ v ∧ v ≤ 3) → (v = 3 → zsT S m (zmn d r c) = 3) → okM m (zu S (341 * m + zmn d r c) v) := by
    intro v hv hv3
    refine ⟨h1.t hm hz hv, h2.t v hm hz, h3.mono (fun x hx1 hx2 hx3 => ?_)⟩
    rw [zsT_t S v hm hz hm ⟨hx1, hx2⟩] at hx3
    by_cases q : m = m ∧ x = zmn d r c
    · rw [if_pos q] at hx3
      rw [q.2]
      exact hv3 hx3
    · rw [if_neg q] at hx3
      exact hx3
  unfold zmb
  split
  · rename_i c3
    refine key _ ?_ (fun _ => c3)
    split
    · decide
    · split <;> decide
  · split
    · refine key _ ?_ ?_
      · split
        · decide
        · split
          · decide
          · exact hs
      · split
        · intro q
          cases q
        · split
          · intro q
            cases q
          · exact fun q => q
    · exact ⟨h1, h2, h3⟩
theorem zlvs_ok {S : Int → Int} {m d k : Int} (h : okM m S) (hm : 0 ≤ m ∧ m < 4) (hd : 0 ≤ d ∧ d ≤ 3) (hr : 0 ≤ k / zp2 d ∧ k / zp2 d < zp2 d) (hc : 0 ≤ k % zp2 d ∧ k % zp2 d < zp2 d) : okM m (zlvs m d (zp2 d) S k) := by
  unfold zlvs
  split
  · exact zmb_ok h hm hd hr hc
  · exact h
section
variable {n : Nat} {σ : zS} {S : Int → Int}
theorem ctX6_shrinksBlock (h : isMo σ n S) (hS : isSo S) (hE : zEn S) (m d r c : Int) (hm : 0 ≤ m ∧ m < 4) (hd : 0 ≤ d ∧ d ≤ 3) (hr : 0 ≤ r ∧ r < zp2 d) (hc : 0 ≤ c ∧ c < zp2 d) (hv : d = 3 → zsT S m (zmn d r c) ≠ 3) : zCt 5 0 0 yX6_shrinksBlock cX6_shrinksBlock 9 none [zr 145, zi m, zi d, zi r, zi c] n σ none n (zsu σ 146 (zA 1365 (zmb S m d r c))) := by
  obtain ⟨⟨um, L, p, wl, lv, br, bc, hM⟩, hS0, hn⟩ := id h
  have hs := hS.m hm hd hr hc
  have hz := zmn_in hd hr hc
  have hzp := zsz_p2 hd
  obtain ⟨N, hN, hN2⟩ := zszN hd
  have hin : ∀ a : Int, 0 ≤ a ∧ a < zp2 d → 0 ≤ a * zsz d ∧ a * zsz d + zsz d ≤ 16 := by
    intro a ha
    have h1 : 0 ≤ a * zsz d := Int.mul_nonneg ha.1 (by omega)
    have h2 : (a + 1) * zsz d ≤ zp2 d * zsz d := Int.mul_le_mul_of_nonneg_right (by omega) (by omega)
    rw [Int.mul_comm (zp2 d), hzp, Int.add_mul] at h2
    omega
  have hr2 := hin r hr
  have hc2 := hin c hc
  have hF := zrmF_in (zsT S m) hd.1 r c
  have hOne : zCt 3 0 0 yX6_oneness cX6_oneness 12 (some .int) [zr 145, zi m, zi (r * zsz d), zi (c * zsz d), zi (zsz d)] n σ (some (zi (zone (zsE S m) (r * zsz d) (c * zsz d) (zsz d)))) n σ := by
    have h5 := ctX6_oneness h m (r * zsz d) (c * zsz d) N hm (hE m hm) (by omega) (by omega)
    rw [← hN] at h5
    exact h5
  have hzo := zone_in (zsE S m) (r * zsz d) (c * zsz d) (zsz d)
  obtain ⟨Z, eZ⟩ : ∃ Z, Z = zmb S m d r c := ⟨_, rfl⟩
  rw [← eZ]
  unfold zmb at eZ
  generalize hone : zone (zsE S m) (r * zsz d) (c * zsz d) (zsz d) = one at *
  generalize hfr : zrmF (zsT S m) d r c = fr at *
  have hRoom : zCt 4 0 0 yX6_roomFrom cX6_roomFrom 11 (some .int) [zr 145, zi m, zi d, zi r, zi c] n σ (some (zi fr)) n σ := by
    rw [← hfr]
    exact ctX6_roomFrom h hS m d r c hm hd hr hc
  refine zCt.of (by decide) rfl (Nat.le_of_ble_eq_true rfl) (fun K C => ?_)
  have fitp : zsT S m (zmn d r c) = 3 → ∀ b : Bool, (b = true ↔ one = 1 ∧ 2 * zsz d ≤ fr) → K 70 [some (zr 145), some (zi m), some (zi d), some (zi r), some (zi c), some (zi (zsz d)), some (zi (zsT S m (zmn d r c))), some (zi one), some (zi (zb b))] [] n σ 0 := by
    intro h3 b hb
    have hd2 : 0 ≤ d ∧ d ≤ 2 := by
      by_cases c9 : d = 3
      · exact absurd h3 (hv c9)
      · omega
    rw [if_pos h3] at eZ
    refine x_aload_n C dX6_shrinksBlock_70 rfl ?_
    refine x_iload_n C dX6_shrinksBlock_71 rfl ?_
    refine x_iload_n C dX6_shrinksBlock_72 rfl ?_
    refine x_iload_n C dX6_shrinksBlock_73 rfl ?_
    refine x_iload C dX6_shrinksBlock_74 rfl ?_
    refine x_aload_n C dX6_shrinksBlock_76 rfl ?_
    refine x_iload_n C dX6_shrinksBlock_77 rfl ?_
    refine x_iload_n C dX6_shrinksBlock_78 rfl ?_
    refine x_iload_n C dX6_shrinksBlock_79 rfl ?_
    refine x_iload C dX6_shrinksBlock_80 rfl ?_
    refine x_callV C dX6_shrinksBlock_82 (ctX6_areEmpty h hS m d r c hm hd2 hr hc (b := decide (∀ k : Nat, k < 4 → zsT S m (zmn (d + 1) (2 * r + (k : Int) / 2) (2 * c + (k : Int) % 2)) = 0)) decide_eq_true_iff) okX6_areEmpty lkX6_93 ⟨⟨hM, rfl, rfl⟩, (by omega)⟩ ⟨by decide, rfl, rfl, Nat.le_of_ble_eq_true rfl⟩ rfl (Or.inl ⟨rfl, rfl⟩) ?_
    refine x_ifeq_d (tgt := 92) C dX6_shrinksBlock_85 (by decide) (fun c85 => ?_) (fun c85 => ?_)
    · rw [if_neg c85] at eZ
      refine x_iload C dX6_shrinksBlock_92 rfl ?_
      refine x_ifeq_b (tgt := 101) C dX6_shrinksBlock_94 (by decide) (fun c94 => ?_) (fun c94 => ?_)
      · rw [if_neg (fun z => by rw [hb.mpr z] at c94; cases c94)] at eZ
        refine x_iconst C dX6_shrinksBlock_101 ?_
        refine x_callV C dX6_shrinksBlock_102 (ctX6_sorts h m d _ _ _ hm hd hr hc) okX6_sorts lkX6_96 ⟨⟨hM, rfl, rfl⟩, (by omega)⟩ ⟨by decide, rfl, rfl, Nat.le_of_ble_eq_true rfl⟩ rfl (Or.inl ⟨rfl, rfl⟩) ?_
        refine x_goto (tgt := 144) C dX6_shrinksBlock_105 (by decide) ?_
        exact x_vret (st := []) C dX6_shrinksBlock_144 rfl ⟨rfl, rfl, by rw [eZ], rfl⟩
      · rw [if_pos (hb.mp c94)] at eZ
        refine x_iconst C dX6_shrinksBlock_97 ?_
        refine x_goto (tgt := 102) C dX6_shrinksBlock_98 (by decide) ?_
        refine x_callV C dX6_shrinksBlock_102 (ctX6_sorts h m d _ _ _ hm hd hr hc) okX6_sorts lkX6_96 ⟨⟨hM, rfl, rfl⟩, (by omega)⟩ ⟨by decide, rfl, rfl, Nat.le_of_ble_eq_true rfl⟩ rfl (Or.inl ⟨rfl, rfl⟩) ?_
        refine x_goto (tgt := 144) C dX6_shrinksBlock_105 (by decide) ?_
        exact x_vret (st := []) C dX6_shrinksBlock_144 rfl ⟨rfl, rfl, by rw [eZ], rfl⟩
    · rw [if_pos c85] at eZ
      refine x_iconst C dX6_shrinksBlock_88 ?_
      refine x_goto (tgt := 102) C dX6_shrinksBlock_89 (by decide) ?_
      refine x_callV C dX6_shrinksBlock_102 (ctX6_sorts h m d _ _ _ hm hd hr hc) okX6_sorts lkX6_96 ⟨⟨hM, rfl, rfl⟩, (by omega)⟩ ⟨by decide, rfl, rfl, Nat.le_of_ble_eq_true rfl⟩ rfl (Or.inl ⟨rfl, rfl⟩) ?_
      refine x_goto (tgt := 144) C dX6_shrinksBlock_105 (by decide) ?_
      exact x_vret (st := []) C dX6_shrinksBlock_144 rfl ⟨rfl, rfl, by rw [eZ], rfl⟩
  refine x_iload_n C dX6_shrinksBlock_0 rfl ?_
  refine x_callS C dX6_shrinksBlock_1 (ctX6_sizeAt d hd) okX6_sizeAt lkX6_67 ⟨by decide, rfl, rfl, Nat.le_of_ble_eq_true rfl⟩ rfl (Or.inl ⟨rfl, rfl⟩) ?_
  refine x_istore C dX6_shrinksBlock_4 (by decide) ?_
  refine x_aload_n C dX6_shrinksBlock_6 rfl ?_
  refine x_iload_n C dX6_shrinksBlock_7 rfl ?_
  refine x_iload_n C dX6_shrinksBlock_8 rfl ?_
  refine x_iload_n C dX6_shrinksBlock_9 rfl ?_
  refine x_iload C dX6_shrinksBlock_10 rfl ?_
  refine x_callV C dX6_shrinksBlock_12 (ctX6_sort h m d _ _ hm hd hr hc) okX6_sort lkX6_59 ⟨⟨hM, rfl, rfl⟩, (by omega)⟩ ⟨by decide, rfl, rfl, Nat.le_of_ble_eq_true rfl⟩ rfl (Or.inl ⟨rfl, rfl⟩) ?_
  refine x_istore C dX6_shrinksBlock_15 (by decide) ?_
  refine x_aload_n C dX6_shrinksBlock_17 rfl ?_
  refine x_iload_n C dX6_shrinksBlock_18 rfl ?_
  refine x_iload_n C dX6_shrinksBlock_19 rfl ?_
  refine x_iload C dX6_shrinksBlock_20 rfl ?_
  refine x_imul C dX6_shrinksBlock_22 ?_
  refine x_iload C dX6_shrinksBlock_23 rfl ?_
  refine x_iload C dX6_shrinksBlock_25 rfl ?_
  refine x_imul C dX6_shrinksBlock_27 ?_
  refine x_iload C dX6_shrinksBlock_28 rfl ?_
  refine x_callV C dX6_shrinksBlock_30 hOne okX6_oneness lkX6_90 ⟨⟨hM, rfl, rfl⟩, (by omega)⟩ ⟨by decide, rfl, rfl, Nat.le_of_ble_eq_true rfl⟩ rfl (Or.inl ⟨rfl, rfl⟩) ?_
  refine x_istore C dX6_shrinksBlock_33 (by decide) ?_
  refine x_iload C dX6_shrinksBlock_35 rfl ?_
  refine x_iconst C dX6_shrinksBlock_37 ?_
  refine x_icmp_ne (tgt := 108) C dX6_shrinksBlock_38 (by decide) (by omega) (fun c38 => ?_) (fun c38 => ?_)
  · refine x_iload C dX6_shrinksBlock_108 rfl ?_
    refine x_if_eq (tgt := 144) C dX6_shrinksBlock_110 (by decide) (by omega) (fun c110 => ?_) (fun c110 => ?_)
    · rw [if_neg c38, if_neg (fun z => z c110)] at eZ
      have eZ := congrArg (fun z => zsu σ 146 (zA 1365 z)) eZ
      rw [zsu_self hS0] at eZ
      exact x_vret (st := []) C dX6_shrinksBlock_144 rfl ⟨rfl, rfl, eZ.symm, rfl⟩
    · refine x_aload_n C dX6_shrinksBlock_113 rfl ?_
      refine x_iload_n C dX6_shrinksBlock_114 rfl ?_
      refine x_iload_n C dX6_shrinksBlock_115 rfl ?_
      refine x_iload_n C dX6_shrinksBlock_116 rfl ?_
      refine x_iload C dX6_shrinksBlock_117 rfl ?_
      refine x_iload C dX6_shrinksBlock_119 rfl ?_
      refine x_iconst C dX6_shrinksBlock_121 ?_
      refine x_icmp_ne (tgt := 129) C dX6_shrinksBlock_122 (by decide) (by omega) (fun c122 => ?_) (fun c122 => ?_)
      · refine x_iload C dX6_shrinksBlock_129 rfl ?_
        refine x_iconst C dX6_shrinksBlock_131 ?_
        refine x_icmp_ne (tgt := 139) C dX6_shrinksBlock_132 (by decide) (by omega) (fun c132 => ?_) (fun c132 => ?_)
        · rw [if_neg c38, if_pos c110, if_neg c122, if_neg c132] at eZ
          refine x_iload C dX6_shrinksBlock_139 rfl ?_
          refine x_callV C dX6_shrinksBlock_141 (ctX6_sorts h m d _ _ _ hm hd hr hc) okX6_sorts lkX6_96 ⟨⟨hM, rfl, rfl⟩, (by omega)⟩ ⟨by decide, rfl, rfl, Nat.le_of_ble_eq_true rfl⟩ rfl (Or.inl ⟨rfl, rfl⟩) ?_
          exact x_vret (st := []) C dX6_shrinksBlock_144 rfl ⟨rfl, rfl, by rw [eZ], rfl⟩
        · rw [if_neg c38, if_pos c110, if_neg c122, if_pos c132] at eZ
          refine x_iconst C dX6_shrinksBlock_135 ?_
          refine x_goto (tgt := 141) C dX6_shrinksBlock_136 (by decide) ?_
          refine x_callV C dX6_shrinksBlock_141 (ctX6_sorts h m d _ _ _ hm hd hr hc) okX6_sorts lkX6_96 ⟨⟨hM, rfl, rfl⟩, (by omega)⟩ ⟨by decide, rfl, rfl, Nat.le_of_ble_eq_true rfl⟩ rfl (Or.inl ⟨rfl, rfl⟩) ?_
          exact x_vret (st := []) C dX6_shrinksBlock_144 rfl ⟨rfl, rfl, by rw [eZ], rfl⟩
      · rw [if_neg c38, if_pos c110, if_pos c122] at eZ
        refine x_iconst C dX6_shrinksBlock_125 ?_
        refine x_goto (tgt := 141) C dX6_shrinksBlock_126 (by decide) ?_
        refine x_callV C dX6_shrinksBlock_141 (ctX6_sorts h m d _ _ _ hm hd hr hc) okX6_sorts lkX6_96 ⟨⟨hM, rfl, rfl⟩, (by omega)⟩ ⟨by decide, rfl, rfl, Nat.le_of_ble_eq_true rfl⟩ rfl (Or.inl ⟨rfl, rfl⟩) ?_
        exact x_vret (st := []) C dX6_shrinksBlock_144 rfl ⟨rfl, rfl, by rw [eZ], rfl⟩
  · refine x_iload C dX6_shrinksBlock_41 rfl ?_
    refine x_iconst C dX6_shrinksBlock_43 ?_
    refine x_icmp_ne (tgt := 67) C dX6_shrinksBlock_44 (by decide) (by omega) (fun c44 => ?_) (fun c44 => ?_)
    · have eb : (false = true ↔ one = 1 ∧ 2 * zsz d ≤ fr) := ⟨fun z => (by cases z), fun z => absurd z.1 c44⟩
      refine x_iconst C dX6_shrinksBlock_67 ?_
      refine x_istore C dX6_shrinksBlock_68 (by decide) ?_
      exact fitp c38 _ eb
    · refine x_iconst C dX6_shrinksBlock_47 ?_
      refine x_iload C dX6_shrinksBlock_48 rfl ?_
      refine x_imul C dX6_shrinksBlock_50 ?_
      refine x_aload_n C dX6_shrinksBlock_51 rfl ?_
      refine x_iload_n C dX6_shrinksBlock_52 rfl ?_
      refine x_iload_n C dX6_shrinksBlock_53 rfl ?_
      refine x_iload_n C dX6_shrinksBlock_54 rfl ?_
      refine x_iload C dX6_shrinksBlock_55 rfl ?_
      refine x_callV C dX6_shrinksBlock_57 hRoom okX6_roomFrom lkX6_75 ⟨⟨hM, rfl, rfl⟩, (by omega)⟩ ⟨by decide, rfl, rfl, Nat.le_of_ble_eq_true rfl⟩ rfl (Or.inl ⟨rfl, rfl⟩) ?_
      refine x_icmp_gt (tgt := 67) C dX6_shrinksBlock_60 (by decide) (by omega) (fun c60 => ?_) (fun c60 => ?_)
      · have eb : (false = true ↔ one = 1 ∧ 2 * zsz d ≤ fr) := ⟨fun z => (by cases z), fun z => absurd z.2 (by omega)⟩
        refine x_iconst C dX6_shrinksBlock_67 ?_
        refine x_istore C dX6_shrinksBlock_68 (by decide) ?_
        exact fitp c38 _ eb
      · have eb : (true = true ↔ one = 1 ∧ 2 * zsz d ≤ fr) := ⟨fun _ => ⟨c44, by omega⟩, fun _ => rfl⟩
        refine x_iconst C dX6_shrinksBlock_63 ?_
        refine x_goto (tgt := 68) C dX6_shrinksBlock_64 (by decide) ?_
        refine x_istore C dX6_shrinksBlock_68 (by decide) ?_
        exact fitp c38 _ eb
end
