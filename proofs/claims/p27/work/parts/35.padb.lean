/-- values with commas between them: so many of them are kept, the last one fills up -/
def zvw (V : Int → Bool × Int × Int) (f : Int → Int) (L m : Int) : Nat → Int → Int → Int → (Int → Int) → Bool × Int × Int × Int × (Int → Int)
  | 0, p, x, fd, u => (true, p, x, fd, u)
  | k + 1, p, _, fd, u =>
    if (V p).1 = true then
      (if zpk f L (V p).2.1 44 = true then zvw V f L m k (zpp f L (V p).2.1 44) (V p).2.2 (if fd < m then fd + 1 else fd) (if fd < m then zu u fd (V p).2.2 else u)
       else (true, zpp f L (V p).2.1 44, (V p).2.2, (if fd < m then fd + 1 else fd), (if fd < m then zu u fd (V p).2.2 else u)))
    else (false, (V p).2.1, (V p).2.2, fd, u)
def zvx (m : Int) (r : Bool × Int × Int × Int × (Int → Int)) : Bool × Int × Int × (Int → Int) :=
  (r.1, r.2.1, r.2.2.1, if r.1 = true then (fun j => if r.2.2.2.1 ≤ j ∧ j < m then r.2.2.1 else r.2.2.2.2 j) else r.2.2.2.2)
def zrv (F : Nat) (V : Int → Bool × Int × Int) (f : Int → Int) (L m p x : Int) (u : Int → Int) : Bool × Int × Int × (Int → Int) := zvx m (zvw V f L m F p x 0 u)
theorem zvw_in {V : Int → Bool × Int × Int} {f : Int → Int} {L m : Int} (hV : V = zvl f L) (hL : L ≤ 80) (hm : 0 ≤ m) : ∀ (k : Nat) (p x fd : Int) (u : Int → Int), p ≤ 80 → 0 ≤ fd ∧ fd ≤ m → (-999 ≤ x ∧ x ≤ 999) → (∀ j, 0 ≤ j → j < fd → -999 ≤ u j ∧ u j ≤ 999) → p ≤ (zvw V f L m k p x fd u).2.1 ∧ (zvw V f L m k p x fd u).2.1 ≤ 80 ∧ ((zvw V f L m k p x fd u).1 = true → (-999 ≤ (zvw V f L m k p x fd u).2.2.1 ∧ (zvw V f L m k p x fd u).2.2.1 ≤ 999) ∧ ∀ j, 0 ≤ j → j < (zvw V f L m k p x fd u).2.2.2.1 → -999 ≤ (zvw V f L m k p x fd u).2.2.2.2 j ∧ (zvw V f L m k p x fd u).2.2.2.2 j ≤ 999)
  | 0, p, x, fd, u, h1, h2, h3, h4 => ⟨Int.le_refl _, h1, fun _ => ⟨h3, h4⟩⟩
  | k + 1, p, x, fd, u, h1, h2, h3, h4 => by
    obtain ⟨g1, g2, g3⟩ : p ≤ (V p).2.1 ∧ (V p).2.1 ≤ 80 ∧ ((V p).1 = true → -999 ≤ (V p).2.2 ∧ (V p).2.2 ≤ 999) := by
      rw [hV]
      exact zvl_in (f := f) (p := p) hL h1
    unfold zvw
    split
    · rename_i c
      have g3 := g3 c
      have g4 := zpp_in (f := f) 44 ⟨g2, hL⟩
      have g5 : ∀ j, 0 ≤ j → j < (if fd < m then fd + 1 else fd) → -999 ≤ (if fd < m then zu u fd (V p).2.2 else u) j ∧ (if fd < m then zu u fd (V p).2.2 else u) j ≤ 999 := fun j j1 j2 => by
        split at j2
        · rename_i c2
          rw [if_pos c2]
          unfold zu
          split
          · exact g3
          · exact h4 j j1 (by omega)
        · rename_i c2
          rw [if_neg c2]
          exact h4 j j1 j2
      split
      · have ih := zvw_in (f := f) hV hL hm k (zpp f L (V p).2.1 44) (V p).2.2 (if fd < m then fd + 1 else fd) (if fd < m then zu u fd (V p).2.2 else u) g4.2 (by split <;> omega) g3 g5
        exact ⟨by omega, ih.2⟩
      · exact ⟨Int.le_trans g1 g4.1, g4.2, fun _ => ⟨g3, g5⟩⟩
    · exact ⟨g1, g2, fun q => by cases q⟩
theorem zrv_in {F : Nat} {V : Int → Bool × Int × Int} (hF : F = 80) {f : Int → Int} {L m p : Int} (hV : V = zvl f L) (x : Int) (u : Int → Int) (hL : L ≤ 80) (hm : 0 ≤ m) (hp : p ≤ 80) : p ≤ (zrv F V f L m p x u).2.1 ∧ (zrv F V f L m p x u).2.1 ≤ 80 ∧ ((zrv F V f L m p x u).1 = true → ∀ j, 0 ≤ j → j < m → -999 ≤ (zrv F V f L m p x u).2.2.2 j ∧ (zrv F V f L m p x u).2.2.2 j ≤ 999) := by
  have e : zvw V f L m F p x 0 u = zvw V f L m F p 0 0 u := by
    obtain ⟨j, hj⟩ : ∃ j, F = j + 1 := ⟨79, hF⟩
    rw [hj]
    rfl
  obtain ⟨h1, h2, h3⟩ := zvw_in (f := f) hV hL hm F p 0 0 u hp ⟨Int.le_refl 0, hm⟩ (by decide) (fun j j1 j2 => absurd j2 (by omega))
  unfold zrv
  rw [e]
  refine ⟨h1, h2, fun q => ?_⟩
  have h4 := h3 q
  intro j j1 j2
  unfold zvx
  rw [if_pos (show (zvw V f L m F p 0 0 u).1 = true from q)]
  dsimp only
  split
  · exact h4.1
  · exact h4.2 j j1 (by omega)
section
variable {n : Nat} {σ : zS} {f : Int → Int} {L p x : Int}
theorem ctX2_readValues {F : Nat} {V : Int → Bool × Int × Int} (hF : F = 80) (hV : V = zvl f L) {a m : Int} {N : Nat} {u : Int → Int} (hP0 : σ 103 = zPO L p x) (hP1 : σ 104 = zP 2 80 f) (hA : σ a = zA N u) (ha : 107 < a ∧ a < 111) (hN : N ≤ 256) (hm : 0 ≤ m ∧ m ≤ N) (hp : 0 ≤ p ∧ p ≤ 80) (hL : 0 ≤ L ∧ L ≤ 80) (hf : ∀ j, 0 ≤ f j ∧ f j < 65536) (hn : 144 ≤ n) : zCt 3 0 0 yX2_readValues cX2_readValues 7 (some .boolean) [zr 103, zr a, zi m] n σ (some (zi (zb (zrv F V f L m p x u).1))) n (zsu (zsu σ a (zA N (zrv F V f L m p x u).2.2.2)) 103 (zPO L (zrv F V f L m p x u).2.1 (zrv F V f L m p x u).2.2.1)) := by
  have hP1k := hP1
  have hcv : ∀ {σ : zS} {p x : Int}, σ 103 = zPO L p x → σ 104 = zP 2 80 f → 0 ≤ p ∧ p ≤ 80 → zCt 2 0 0 yX2_readValue cX2_readValue 3 (some .boolean) [zr 103] n σ (some (zi (zb (V p).1))) n (zsu σ 103 (zPO L (V p).2.1 (V p).2.2)) := by
    intro σ p x h1 h2 h3
    rw [hV]
    exact ctX2_readValue h1 h2 h3 hL hf hn
  have hvi : ∀ {p : Int}, p ≤ 80 → p ≤ (V p).2.1 ∧ (V p).2.1 ≤ 80 ∧ ((V p).1 = true → -999 ≤ (V p).2.2 ∧ (V p).2.2 ≤ 999) := by
    intro p h
    rw [hV]
    exact zvl_in hL.2 h
  clear hV
  refine zCt.of (by decide) rfl (Nat.le_of_ble_eq_true rfl) (fun K C => ?_)
  have fill : ∀ (p1 x1 fd : Int) (u1 : Int → Int) (b : Bool), 0 ≤ fd ∧ fd ≤ m → zvw V f L m F p x 0 u = (true, p1, x1, fd, u1) → ∀ k : Nat, k ≤ (m - fd).toNat → K 72 [some (zr 103), some (zr a), some (zi m), some (zi m), some (zi fd), some (zi (zb b)), some (zi (fd + (k : Int)))] [] n (zsu (zsu σ a (zA N (fun j => if fd ≤ j ∧ j < fd + (k : Int) then x1 else u1 j))) 103 (zPO L p1 x1)) 0 := by
    intro p1 x1 fd u1 b hfd hres
    refine zloop _ (m - fd).toNat (fun k hk ih => ?_)
    have hP0 := zsu_s (zsu σ a (zA N (fun j => if fd ≤ j ∧ j < fd + (k : Int) then x1 else u1 j))) 103 (zPO L p1 x1)
    have hA := (zsu_n (zsu σ a (zA N (fun j => if fd ≤ j ∧ j < fd + (k : Int) then x1 else u1 j))) (zPO L p1 x1) (show a ≠ 103 by omega)).trans (zsu_s _ _ _)
    refine x_iload C dX2_readValues_72 rfl ?_
    refine x_iload_n C dX2_readValues_74 rfl ?_
    refine x_icmp_ge (tgt := 92) C dX2_readValues_75 (by decide) (by omega) (fun c75 => ?_) (fun c75 => ?_)
    · have e9 : fd + (k : Int) = m := by omega
      refine x_iconst C dX2_readValues_92 ?_
      exact x_zret (st := []) (b := true) C dX2_readValues_93 rfl ⟨congrArg (fun z => some (zi (zb z))) (by rw [zrv, hres]; rfl), rfl, by rw [zrv, hres, e9]; rfl, rfl⟩
    · refine x_aload_n C dX2_readValues_78 rfl ?_
      refine x_iload C dX2_readValues_79 rfl ?_
      refine x_aload_n C dX2_readValues_81 rfl ?_
      refine x_getfield C dX2_readValues_82 lfX2_39 hP0 (by omega) rfl ?_
      refine x_iastore C dX2_readValues_85 hA (by omega) ?_
      refine x_nm (fun s85 e85 => ?_)
      have hP0 := (congrFun e85 103).trans ((zsu_n _ _ (by omega)).trans hP0)
      have hA := (congrFun e85 a).trans (zsu_s _ _ _)
      have ih := ih (by omega)
      rw [show fd + ((k + 1 : Nat) : Int) = fd + (k : Int) + 1 by omega] at ih
      rw [show s85 = zsu (zsu σ a (zA N (fun j => if fd ≤ j ∧ j < fd + (k : Int) + 1 then x1 else u1 j))) 103 (zPO L p1 x1) by
        rw [e85, zsu_comm _ _ _ (show (103 : Int) ≠ a by omega), zsu_u]
        congr 2
        refine congrArg (zA N) (funext fun j => ?_)
        unfold zu
        by_cases c : j = fd + (k : Int)
        · rw [if_pos c, if_pos (by omega)]
        · rw [if_neg c]
          dsimp only
          by_cases c2 : fd ≤ j ∧ j < fd + (k : Int)
          · rw [if_pos c2, if_pos (by omega)]
          · rw [if_neg c2, if_neg (by omega)]]
      refine x_iinc C dX2_readValues_86 rfl (by decide) ?_
      refine x_goto (tgt := 72) C dX2_readValues_89 (by decide) ?_
      exact ih
  have loop : ∀ k : Nat, k ≤ 80 → ∀ (b : Bool) (p1 x1 fd : Int) (u1 : Int → Int), 0 ≤ p1 ∧ p1 ≤ 80 → 0 ≤ fd ∧ fd ≤ m → zvw V f L m F p x 0 u = (if b = true then zvw V f L m (F - k) p1 x1 fd u1 else (true, p1, x1, fd, u1)) → K 16 [some (zr 103), some (zr a), some (zi m), some (zi m), some (zi fd), some (zi (zb b)), some (zi (k : Int))] [] n (zsu (zsu σ a (zA N u1)) 103 (zPO L p1 x1)) 0 := by
    refine zloop _ 80 (fun k hk ih => ?_)
    intro b p1 x1 fd u1 hp1 hfd he
    have hP0 := zsu_s (zsu σ a (zA N u1)) 103 (zPO L p1 x1)
    have hP1 := ((zsu_n (zsu σ a (zA N u1)) (zPO L p1 x1) (show (104 : Int) ≠ 103 by decide)).trans (zsu_n σ (zA N u1) (show (104 : Int) ≠ a by omega))).trans hP1k
    have hA := (zsu_n (zsu σ a (zA N u1)) (zPO L p1 x1) (show a ≠ 103 by omega)).trans (zsu_s σ a (zA N u1))
    have hout : zvw V f L m F p x 0 u = (true, p1, x1, fd, u1) → K 68 [some (zr 103), some (zr a), some (zi m), some (zi m), some (zi fd), some (zi (zb b)), some (zi (k : Int))] [] n (zsu (zsu σ a (zA N u1)) 103 (zPO L p1 x1)) 0 := by
      intro hres
      have hf0 := fill p1 x1 fd u1 b hfd hres 0 (by omega)
      rw [show fd + ((0 : Nat) : Int) = fd by omega, show (fun j => if fd ≤ j ∧ j < fd then x1 else u1 j) = u1 from funext fun j => if_neg (by omega)] at hf0
      refine x_iload C dX2_readValues_68 rfl ?_
      refine x_istore C dX2_readValues_70 (by decide) ?_
      exact hf0
    have step : k < 80 → ∀ (p2 x2 fd2 : Int) (u2 : Int → Int), 0 ≤ p2 ∧ p2 ≤ 80 → 0 ≤ fd2 ∧ fd2 ≤ m → zvw V f L m F p x 0 u = (if zpk f L p2 44 = true then zvw V f L m (F - (k + 1)) (zpp f L p2 44) x2 fd2 u2 else (true, zpp f L p2 44, x2, fd2, u2)) → K 54 [some (zr 103), some (zr a), some (zi m), some (zi m), some (zi fd2), some (zi (zb b)), some (zi (k : Int))] [] n (zsu (zsu σ a (zA N u2)) 103 (zPO L p2 x2)) 0 := by
      intro hk8 p2 x2 fd2 u2 hp2 hfd2 he2
      have hq := zpp_in (f := f) 44 ⟨hp2.2, hL.2⟩
      have hP0 := zsu_s (zsu σ a (zA N u2)) 103 (zPO L p2 x2)
      have hP1 := ((zsu_n (zsu σ a (zA N u2)) (zPO L p2 x2) (show (104 : Int) ≠ 103 by decide)).trans (zsu_n σ (zA N u2) (show (104 : Int) ≠ a by omega))).trans hP1k
      have ih := ih hk8 (zpk f L p2 44) (zpp f L p2 44) x2 fd2 u2 (by omega) hfd2 he2
      rw [show ((k + 1 : Nat) : Int) = (k : Int) + 1 by omega] at ih
      refine x_aload_n C dX2_readValues_54 rfl ?_
      refine x_bipush C dX2_readValues_55 (by decide) ?_
      refine x_callV C dX2_readValues_57 (ctX2_passes hP0 hP1 hp2 hL hf (by omega) hn) okX2_passes lkX2_46 ⟨⟨hP0, rfl, rfl⟩, (by omega)⟩ ⟨by decide, rfl, rfl, Nat.le_of_ble_eq_true rfl⟩ rfl (Or.inl ⟨rfl, rfl⟩) ?_
      rw [zsu_u]
      refine x_istore C dX2_readValues_60 (by decide) ?_
      refine x_iinc C dX2_readValues_62 rfl (by decide) ?_
      refine x_goto (tgt := 16) C dX2_readValues_65 (by decide) ?_
      exact ih
    have hv := hvi hp1.2
    refine x_iload C dX2_readValues_16 rfl ?_
    refine x_ifeq_b (tgt := 68) C dX2_readValues_18 (by decide) (fun c18 => ?_) (fun c18 => ?_)
    · have hres : zvw V f L m F p x 0 u = (true, p1, x1, fd, u1) := by rw [he, if_neg (by rw [c18]; decide)]
      exact hout hres
    · refine x_iload C dX2_readValues_21 rfl ?_
      refine x_bipush C dX2_readValues_23 (by decide) ?_
      refine x_icmp_ge (tgt := 68) C dX2_readValues_25 (by decide) (by omega) (fun c25 => ?_) (fun c25 => ?_)
      · have hres : zvw V f L m F p x 0 u = (true, p1, x1, fd, u1) := by
          rw [he, if_pos c18, show F - k = 0 by omega]
          rfl
        exact hout hres
      · refine x_aload_n C dX2_readValues_28 rfl ?_
        refine x_callV C dX2_readValues_29 (hcv hP0 hP1 hp1) okX2_readValue lkX2_77 ⟨⟨hP0, rfl, rfl⟩, (by omega)⟩ ⟨by decide, rfl, rfl, Nat.le_of_ble_eq_true rfl⟩ rfl (Or.inl ⟨rfl, rfl⟩) ?_
        refine x_nm (fun s29 e29 => ?_)
        have hP0 := (congrFun e29 103).trans (zsu_s _ _ _)
        have hA := (congrFun e29 a).trans ((zsu_n _ _ (by omega)).trans hA)
        refine x_ifne_b (tgt := 37) C dX2_readValues_32 (by decide) (fun c32 => ?_) (fun c32 => ?_)
        · have he1 : zvw V f L m F p x 0 u = _ := (he.trans (if_pos c18)).trans ((congrArg (fun z => zvw V f L m z p1 x1 fd u1) (show F - k = (F - (k + 1)) + 1 by omega)).trans (if_pos c32))
          refine x_iload C dX2_readValues_37 rfl ?_
          refine x_iload_n C dX2_readValues_39 rfl ?_
          refine x_icmp_ge (tgt := 54) C dX2_readValues_40 (by decide) (by omega) (fun c40 => ?_) (fun c40 => ?_)
          · rw [if_neg (Int.not_lt.mpr c40), if_neg (Int.not_lt.mpr c40)] at he1
            rw [e29, zsu_u]
            exact step (by omega) _ _ fd u1 (by omega) hfd he1
          · refine x_aload_n C dX2_readValues_43 rfl ?_
            refine x_iload C dX2_readValues_44 rfl ?_
            refine x_aload_n C dX2_readValues_46 rfl ?_
            refine x_getfield C dX2_readValues_47 lfX2_39 hP0 (by omega) rfl ?_
            refine x_iastore C dX2_readValues_50 hA (by omega) ?_
            refine x_nm (fun s50 e50 => ?_)
            have hP0 := (congrFun e50 103).trans ((zsu_n _ _ (by omega)).trans hP0)
            have hA := (congrFun e50 a).trans (zsu_s _ _ _)
            refine x_iinc C dX2_readValues_51 rfl (by decide) ?_
            rw [if_pos c40, if_pos c40] at he1
            rw [show s50 = zsu (zsu σ a (zA N (zu u1 fd (V p1).2.2))) 103 (zPO L (V p1).2.1 (V p1).2.2) by rw [e50, e29, zsu_u, zsu_comm _ _ _ (show (103 : Int) ≠ a by omega), zsu_u]]
            exact step (by omega) _ _ (fd + 1) _ (by omega) (by omega) he1
        · have he1 : zvw V f L m F p x 0 u = (false, (V p1).2.1, (V p1).2.2, fd, u1) := by
            rw [he, if_pos c18, show F - k = (F - (k + 1)) + 1 by omega]
            exact if_neg (by rw [c32]; decide)
          refine x_iconst C dX2_readValues_35 ?_
          exact x_zret (st := []) (b := false) C dX2_readValues_36 rfl ⟨congrArg (fun z => some (zi (zb z))) (by rw [zrv, he1]; rfl), rfl, by rw [e29, zsu_u, zrv, he1]; rfl, rfl⟩
  refine x_iload_n C dX2_readValues_0 rfl ?_
  refine x_aload_n C dX2_readValues_1 rfl ?_
  refine x_alen0 C dX2_readValues_2 hA (by omega) ?_
  refine x_mmin C dX2_readValues_3 lmX2_97 (by decide) (Nat.le_of_ble_eq_true rfl) (by omega) ?_
  rw [show min m (N : Int) = m by omega]
  refine x_istore_n C dX2_readValues_6 (by decide) ?_
  refine x_iconst C dX2_readValues_7 ?_
  refine x_istore C dX2_readValues_8 (by decide) ?_
  refine x_iconst C dX2_readValues_10 ?_
  refine x_istore C dX2_readValues_11 (by decide) ?_
  refine x_iconst C dX2_readValues_13 ?_
  refine x_istore C dX2_readValues_14 (by decide) ?_
  have h0 := loop 0 (by decide) true p x 0 u hp (by omega) rfl
  rw [zsu_self hA, zsu_self hP0] at h0
  exact h0
end
