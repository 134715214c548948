abbrev zSV : Type := (Int → Int → Int) × ((Int → Int → Int) × Int)
def okS (X : zSV) : Prop := (∀ m, zBd (X.1 m)) ∧ ∀ m, zSt (X.2.1 m)
/-- a state: its cell s, its row of matrices, the matrices -/
def isSt (σ : zS) (n : Nat) (s : Int) (X : zSV) : Prop := σ s = zO 4 [zr (s + 1), zi X.2.2] ∧ σ (s + 1) = zQ 3 4 (fun m => some (s + 2 + 3 * m)) ∧ (0 < s ∧ s + 13 ≤ n) ∧ ∀ m, 0 ≤ m → m < 4 → isM σ n (s + 2 + 3 * m) (X.1 m) (X.2.1 m)
/-- nothing outside of a to b has changed -/
def zAg (σ σ2 : zS) (a b : Int) : Prop := ∀ k, ¬ (a ≤ k ∧ k ≤ b) → σ2 k = σ k
theorem zAg.refl (σ : zS) (a b : Int) : zAg σ σ a b := fun _ _ => rfl
theorem zAg.trans {σ σ1 σ2 : zS} {a b : Int} (h1 : zAg σ σ1 a b) (h2 : zAg σ1 σ2 a b) : zAg σ σ2 a b := fun k hk => (h2 k hk).trans (h1 k hk)
theorem zAg.wide {σ σ2 : zS} {a b a2 b2 : Int} (h : zAg σ σ2 a b) (h1 : a2 ≤ a ∧ b ≤ b2) : zAg σ σ2 a2 b2 := fun k hk => h k (by omega)
theorem zAg.su (σ : zS) (k : Int) (c : zC) : zAg σ (zsu σ k c) k k := fun j hj => zsu_n _ _ (by omega)
theorem zAg.sM (σ : zS) (h : Int) (e t : Int → Int) : zAg σ (sM σ h e t) (h + 1) (h + 2) := fun j hj => sM_o _ _ _ (by omega)
theorem isM.ag {σ σ2 : zS} {n : Nat} {h a b : Int} {e t : Int → Int} (hm : isM σ n h e t) (hg : zAg σ σ2 a b) (hd : h + 2 < a ∨ b < h) : isM σ2 n h e t := by
  obtain ⟨h1, h2, h3, h4⟩ := hm
  exact ⟨(hg h (by omega)).trans h1, (hg (h + 1) (by omega)).trans h2, (hg (h + 2) (by omega)).trans h3, h4⟩
theorem isSt.ag {σ σ2 : zS} {n : Nat} {s a b : Int} {X : zSV} (hs : isSt σ n s X) (hg : zAg σ σ2 a b) (hd : s + 13 < a ∨ b < s) : isSt σ2 n s X := by
  obtain ⟨h1, h2, h3, h4⟩ := hs
  exact ⟨(hg s (by omega)).trans h1, (hg (s + 1) (by omega)).trans h2, h3, fun m hm1 hm2 => (h4 m hm1 hm2).ag hg (by omega)⟩
/-- one matrix of a state is another -/
def zsm1 (X : zSV) (m : Int) (e t : Int → Int) : zSV := (fun j => if j = m then e else X.1 j, (fun j => if j = m then t else X.2.1 j, X.2.2))
theorem isSt.setM {σ : zS} {n : Nat} {s : Int} {X : zSV} (hs : isSt σ n s X) {m : Int} (hm : 0 ≤ m ∧ m < 4) (e t : Int → Int) : isSt (sM σ (s + 2 + 3 * m) e t) n s (zsm1 X m e t) := by
  obtain ⟨h1, h2, h3, h4⟩ := hs
  refine ⟨(sM_o _ _ _ (by omega)).trans h1, (sM_o _ _ _ (by omega)).trans h2, h3, fun j hj1 hj2 => ?_⟩
  unfold zsm1
  by_cases q : j = m
  · subst q
    simp only [if_pos]
    exact isM_s (h4 j hj1 hj2) e t
  · simp only [if_neg q]
    exact isM_o (h4 j hj1 hj2) (by omega) e t
theorem okS.setM {X : zSV} (h : okS X) (m : Int) {e t : Int → Int} (he : zBd e) (ht : zSt t) : okS (zsm1 X m e t) := by
  refine ⟨fun j => ?_, fun j => ?_⟩
  · show zBd (if j = m then e else X.1 j)
    split
    · exact he
    · exact h.1 j
  · show zSt (if j = m then t else X.2.1 j)
    split
    · exact ht
    · exact h.2 j
def zbm (σ : zS) (s : Int) (X : zSV) : Nat → zS := zfo (fun τ m => sM τ (s + 2 + 3 * m) (X.1 m) (X.2.1 m)) σ
theorem zbm_o (σ : zS) (s : Int) (X : zSV) : ∀ (k : Nat) (j : Int), ¬ (s + 2 ≤ j ∧ j < s + 2 + 3 * k) → zbm σ s X k j = σ j
  | 0, j, h => rfl
  | k + 1, j, h => by
    show sM (zbm σ s X k) _ _ _ j = _
    rw [sM_o _ _ _ (by omega), zbm_o σ s X k j (by omega)]
theorem zbm_s (σ : zS) {n : Nat} {s : Int} {Y : zSV} (X : zSV) (hs : isSt σ n s Y) : ∀ (k : Nat), k ≤ 4 → ∀ m : Nat, m < k → isM (zbm σ s X k) n (s + 2 + 3 * m) (X.1 m) (X.2.1 m)
  | 0, _, m, h => absurd h (Nat.not_lt_zero m)
  | k + 1, hk, m, h => by
    show isM (sM (zbm σ s X k) _ _ _) n _ _ _
    rcases Nat.lt_or_ge m k with q | q
    · exact isM_o (zbm_s σ X hs k (by omega) m q) (by omega) _ _
    · have e1 : m = k := by omega
      subst e1
      have h0 := hs.2.2.2 m (by omega) (by omega)
      have h1 : isM (zbm σ s X m) n (s + 2 + 3 * m) (Y.1 m) (Y.2.1 m) := ⟨(zbm_o σ s X m _ (by omega)).trans h0.1, (zbm_o σ s X m _ (by omega)).trans h0.2.1, (zbm_o σ s X m _ (by omega)).trans h0.2.2.1, h0.2.2.2⟩
      exact isM_s h1 _ _
def zbec (σ : zS) (s : Int) (X : zSV) : zS := zsu (zbm σ s X 4) s (zO 4 [zr (s + 1), zi X.2.2])
theorem zbec_ag (σ : zS) (s : Int) (X : zSV) : zAg σ (zbec σ s X) s (s + 13) := fun k hk => by
  unfold zbec
  rw [zsu_n _ _ (by omega), zbm_o σ s X 4 k (by omega)]
theorem zbec_is {σ : zS} {n : Nat} {s : Int} {Y : zSV} (X : zSV) (hs : isSt σ n s Y) : isSt (zbec σ s X) n s X := by
  refine ⟨zsu_s _ _ _, ?_, hs.2.2.1, fun m h1 h2 => ?_⟩
  · unfold zbec
    rw [zsu_n _ _ (by omega), zbm_o σ s X 4 _ (by omega)]
    exact hs.2.1
  · have h3 := zbm_s σ X hs 4 (by omega) m.toNat (by omega)
    rw [Int.toNat_of_nonneg h1] at h3
    exact h3.ag (zAg.su _ s _) (by omega)
section
variable {n : Nat} {σ : zS}
theorem ctX4_become {s s2 : Int} {X X2 : zSV} (hs : isSt σ n s X) (hs2 : isSt σ n s2 X2) (hd : s + 13 < s2 ∨ s2 + 13 < s) : zCt 2 0 0 yX4_become cX4_become 3 none [zr s, zr s2] n σ none n (zbec σ s X2) := by
  refine zCt.of (by decide) rfl (Nat.le_of_ble_eq_true rfl) (fun K C => ?_)
  have hin := hs.2.2.1
  have hin2 := hs2.2.2.1
  have loop : ∀ k : Nat, k ≤ 4 → K 2 [some (zr s), some (zr s2), some (zi (k : Int))] [] n (zbm σ s X2 k) 0 := by
    refine zloop _ 4 (fun k hk ih => ?_)
    have hT0 := (zbm_o σ s X2 k s (by omega)).trans hs.1
    have hT1 := (zbm_o σ s X2 k (s + 1) (by omega)).trans hs.2.1
    have hO0 := (zbm_o σ s X2 k s2 (by omega)).trans hs2.1
    have hO1 := (zbm_o σ s X2 k (s2 + 1) (by omega)).trans hs2.2.1
    refine x_iload_n C dX4_become_2 rfl ?_
    refine x_iconst C dX4_become_3 ?_
    refine x_icmp_ge (tgt := 28) C dX4_become_4 (by decide) (by omega) (fun c4 => ?_) (fun c4 => ?_)
    · refine x_aload_n C dX4_become_28 rfl ?_
      refine x_aload_n C dX4_become_29 rfl ?_
      refine x_getfield C dX4_become_30 lfX4_17 hO0 (by omega) rfl ?_
      refine x_putI C dX4_become_33 lfX4_17 lyX4_1 hT0 (by omega) (Nat.le_of_ble_eq_true rfl) ?_
      skip
      exact x_vret (st := []) C dX4_become_36 rfl ⟨rfl, rfl, by rw [show k = 4 by omega]; rfl, rfl⟩
    · have h0 := hs.2.2.2 k (by omega) (by omega)
      have hmA : isM (zbm σ s X2 k) n (s + 2 + 3 * k) (X.1 k) (X.2.1 k) := ⟨(zbm_o σ s X2 k _ (by omega)).trans h0.1, (zbm_o σ s X2 k _ (by omega)).trans h0.2.1, (zbm_o σ s X2 k _ (by omega)).trans h0.2.2.1, h0.2.2.2⟩
      have h1 := hs2.2.2.2 k (by omega) (by omega)
      have hmB : isM (zbm σ s X2 k) n (s2 + 2 + 3 * k) (X2.1 k) (X2.2.1 k) := ⟨(zbm_o σ s X2 k _ (by omega)).trans h1.1, (zbm_o σ s X2 k _ (by omega)).trans h1.2.1, (zbm_o σ s X2 k _ (by omega)).trans h1.2.2.1, h1.2.2.2⟩
      have hA := hmA.1
      have hB := hmB.1
      refine x_aload_n C dX4_become_7 rfl ?_
      refine x_getfield C dX4_become_8 lfX4_11 hT0 (by omega) rfl ?_
      refine x_iload_n C dX4_become_11 rfl ?_
      refine x_aaload3 C dX4_become_12 hT1 (by omega) rfl ?_
      refine x_aload_n C dX4_become_13 rfl ?_
      refine x_getfield C dX4_become_14 lfX4_11 hO0 (by omega) rfl ?_
      refine x_iload_n C dX4_become_17 rfl ?_
      refine x_aaload3 C dX4_become_18 hO1 (by omega) rfl ?_
      refine x_callV C dX4_become_19 (ctX1_become2 hmA hmB (by omega)) okX1_become lkX4_22 ⟨⟨hA, rfl, rfl⟩, (by omega)⟩ ⟨by decide, rfl, rfl, Nat.le_of_ble_eq_true rfl⟩ rfl (Or.inl ⟨rfl, rfl⟩) ?_
      refine x_iinc C dX4_become_22 rfl (by decide) ?_
      refine x_goto (tgt := 2) C dX4_become_25 (by decide) ?_
      exact ih (by omega)
  refine x_iconst C dX4_become_0 ?_
  refine x_istore_n C dX4_become_1 (by decide) ?_
  exact loop 0 (by omega)
theorem ctX4_room {s : Int} {X : zSV} (hs : isSt σ n s X) (hok : okS X) : zCt 9 0 0 yX4_room cX4_room 3 (some .int) [zr s] n σ (some (zi (zsm (fun m => zroom (X.2.1 m) 3 0 0) 4))) n σ := by
  refine zCt.of (by decide) rfl (Nat.le_of_ble_eq_true rfl) (fun K C => ?_)
  obtain ⟨hT0, hT1, hin, hmats⟩ := hs
  have loop : ∀ k : Nat, k ≤ 4 → K 4 [some (zr s), some (zi (zsm (fun m => zroom (X.2.1 m) 3 0 0) k)), some (zi (k : Int))] [] n σ 0 := by
    refine zloop _ 4 (fun k hk ih => ?_)
    refine x_iload_n C dX4_room_4 rfl ?_
    refine x_iconst C dX4_room_5 ?_
    refine x_icmp_ge (tgt := 27) C dX4_room_6 (by decide) (by omega) (fun c6 => ?_) (fun c6 => ?_)
    · refine x_iload_n C dX4_room_27 rfl ?_
      exact x_iret (st := []) C dX4_room_28 rfl ⟨congrArg (fun z => some (zi z)) (by rw [show k = 4 by omega]), rfl, rfl, rfl⟩
    · have hmA := hmats k (by omega) (by omega)
      have hA := hmA.1
      refine x_iload_n C dX4_room_9 rfl ?_
      refine x_aload_n C dX4_room_10 rfl ?_
      refine x_getfield C dX4_room_11 lfX4_11 hT0 (by omega) rfl ?_
      refine x_iload_n C dX4_room_14 rfl ?_
      refine x_aaload3 C dX4_room_15 hT1 (by omega) rfl ?_
      refine x_callV C dX4_room_16 (ctX1_room hmA (hok.2 k)) okX1_room lkX4_26 ⟨⟨hA, rfl, rfl⟩, (by omega)⟩ ⟨by decide, rfl, rfl, Nat.le_of_ble_eq_true rfl⟩ rfl (Or.inl ⟨rfl, rfl⟩) ?_
      refine x_iadd C dX4_room_19 ?_
      refine x_istore_n C dX4_room_20 (by decide) ?_
      refine x_iinc C dX4_room_21 rfl (by decide) ?_
      refine x_goto (tgt := 4) C dX4_room_24 (by decide) ?_
      exact ih (by omega)
  refine x_iconst C dX4_room_0 ?_
  refine x_istore_n C dX4_room_1 (by decide) ?_
  refine x_iconst C dX4_room_2 ?_
  refine x_istore_n C dX4_room_3 (by decide) ?_
  exact loop 0 (by omega)
/-- the matrices that are an empty block, as a set -/
def zempt (T : Int → Int → Int) : Nat → Int := zfo (fun a m => if T m 0 = 0 then zor a (1 * 2 ^ m.toNat) else a) 0
theorem ctX4_emptyOnes {s : Int} {X : zSV} (hs : isSt σ n s X) (hok : okS X) : zCt 3 0 0 yX4_emptyOnes cX4_emptyOnes 3 (some .int) [zr s] n σ (some (zi (zempt X.2.1 4))) n σ := by
  refine zCt.of (by decide) rfl (Nat.le_of_ble_eq_true rfl) (fun K C => ?_)
  obtain ⟨hT0, hT1, hin, hmats⟩ := hs
  have loop : ∀ k : Nat, k ≤ 4 → K 4 [some (zr s), some (zi (zempt X.2.1 k)), some (zi (k : Int))] [] n σ 0 := by
    refine zloop _ 4 (fun k hk ih => ?_)
    refine x_iload_n C dX4_emptyOnes_4 rfl ?_
    refine x_iconst C dX4_emptyOnes_5 ?_
    refine x_icmp_ge (tgt := 36) C dX4_emptyOnes_6 (by decide) (by omega) (fun c6 => ?_) (fun c6 => ?_)
    · refine x_iload_n C dX4_emptyOnes_36 rfl ?_
      exact x_iret (st := []) C dX4_emptyOnes_37 rfl ⟨congrArg (fun z => some (zi z)) (by rw [show k = 4 by omega]), rfl, rfl, rfl⟩
    · have hmA := hmats k (by omega) (by omega)
      have hA := hmA.1
      refine x_aload_n C dX4_emptyOnes_9 rfl ?_
      refine x_getfield C dX4_emptyOnes_10 lfX4_11 hT0 (by omega) rfl ?_
      refine x_iload_n C dX4_emptyOnes_13 rfl ?_
      refine x_aaload3 C dX4_emptyOnes_14 hT1 (by omega) rfl ?_
      refine x_iconst C dX4_emptyOnes_15 ?_
      refine x_iconst C dX4_emptyOnes_16 ?_
      refine x_iconst C dX4_emptyOnes_17 ?_
      refine x_callV C dX4_emptyOnes_18 (ctX1_sortOf hmA 0 0 0 (by omega) (by omega) (by omega)) okX1_sortOf lkX4_30 ⟨⟨hA, rfl, rfl⟩, (by omega)⟩ ⟨by decide, rfl, rfl, Nat.le_of_ble_eq_true rfl⟩ rfl (Or.inl ⟨rfl, rfl⟩) ?_
      refine x_if_ne (tgt := 30) C dX4_emptyOnes_21 (by decide) (by have := hok.2 k (zno 0 0 0); omega) (fun c21 => ?_) (fun c21 => ?_)
      · have e9 : zempt X.2.1 (k + 1) = zempt X.2.1 k := if_neg c21
        have ih := ih (by omega)
        rw [e9] at ih
        refine x_iinc C dX4_emptyOnes_30 rfl (by decide) ?_
        refine x_goto (tgt := 4) C dX4_emptyOnes_33 (by decide) ?_
        exact ih
      · have e9 : zempt X.2.1 (k + 1) = zor (zempt X.2.1 k) (1 * 2 ^ (k : Int).toNat) := if_pos c21
        refine x_iload_n C dX4_emptyOnes_24 rfl ?_
        refine x_iconst C dX4_emptyOnes_25 ?_
        refine x_iload_n C dX4_emptyOnes_26 rfl ?_
        refine x_ishl C dX4_emptyOnes_27 (by omega) ?_
        refine x_ior C dX4_emptyOnes_28 ?_
        refine x_istore_n C dX4_emptyOnes_29 (by decide) ?_
        have ih := ih (by omega)
        rw [e9] at ih
        refine x_iinc C dX4_emptyOnes_30 rfl (by decide) ?_
        refine x_goto (tgt := 4) C dX4_emptyOnes_33 (by decide) ?_
        exact ih
  refine x_iconst C dX4_emptyOnes_0 ?_
  refine x_istore_n C dX4_emptyOnes_1 (by decide) ?_
  refine x_iconst C dX4_emptyOnes_2 ?_
  refine x_istore_n C dX4_emptyOnes_3 (by decide) ?_
  exact loop 0 (by omega)
end
