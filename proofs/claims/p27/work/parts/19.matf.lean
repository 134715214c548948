/-- a block is cut: its four get its sort -/
def zcb (t : Int → Int) (d row col : Int) : Int → Int := zu (zfo (fun t2 p => zu t2 (zno (d + 1) (row / zsz d * zsz d + p / 2 * zsz (d + 1)) (col / zsz d * zsz d + p % 2 * zsz (d + 1))) (t (zno d row col))) t 4) (zno d row col) 3
theorem zfo_inv {α : Type} (I : α → Prop) (f : α → Int → α) (a : α) (h0 : I a) (hs : ∀ (x : α) (k : Int), I x → I (f x k)) : ∀ k : Nat, I (zfo f a k)
  | 0 => h0
  | k + 1 => hs _ _ (zfo_inv I f a h0 hs k)
theorem zcb_St {t : Int → Int} (ht : zSt t) (d row col : Int) : zSt (zcb t d row col) :=
  zSt.u (zfo_inv zSt _ _ ht (fun x k hx => zSt.u hx _ (ht _)) 4) _ (by decide)
section
variable {n : Nat} {σ : zS}
theorem ctX1_cutBlock {h : Int} {e t : Int → Int} (hm : isM σ n h e t) (d row col : Int) (hd : 0 ≤ d ∧ d ≤ 2) (hr : 0 ≤ row ∧ row < 16) (hc : 0 ≤ col ∧ col < 16) : zCt 3 0 0 yX1_cutBlock cX1_cutBlock 8 none [zr h, zi d, zi row, zi col] n σ none n (sM σ h e (zcb t d row col)) := by
  have hf1 := zfl (e := row) (d := d) (by omega) hr
  have hf2 := zfl (e := col) (d := d) (by omega) hc
  have hz1 := zsz_v (d := d + 1) (by omega)
  refine zCt.of (by decide) rfl (Nat.le_of_ble_eq_true rfl) (fun K C => ?_)
  have loop : ∀ k : Nat, k ≤ 4 → K 26 [some (zr h), some (zi d), some (zi row), some (zi col), some (zi (row / zsz d * zsz d)), some (zi (col / zsz d * zsz d)), some (zi (t (zno d row col))), some (zi (k : Int))] [] n (sM σ h e (zfo (fun t2 p => zu t2 (zno (d + 1) (row / zsz d * zsz d + p / 2 * zsz (d + 1)) (col / zsz d * zsz d + p % 2 * zsz (d + 1))) (t (zno d row col))) t k)) 0 := by
    refine zloop _ 4 (fun k hk ih => ?_)
    obtain ⟨hM, hE, hT, hh⟩ := isM_s hm e (zfo (fun t2 p => zu t2 (zno (d + 1) (row / zsz d * zsz d + p / 2 * zsz (d + 1)) (col / zsz d * zsz d + p % 2 * zsz (d + 1))) (t (zno d row col))) t k)
    refine x_iload C dX1_cutBlock_26 rfl ?_
    refine x_iconst C dX1_cutBlock_28 ?_
    refine x_icmp_ge (tgt := 63) C dX1_cutBlock_29 (by decide) (by omega) (fun c29 => ?_) (fun c29 => ?_)
    · refine x_aload_n C dX1_cutBlock_63 rfl ?_
      refine x_iload_n C dX1_cutBlock_64 rfl ?_
      refine x_iload_n C dX1_cutBlock_65 rfl ?_
      refine x_iload_n C dX1_cutBlock_66 rfl ?_
      refine x_iconst C dX1_cutBlock_67 ?_
      refine x_callV C dX1_cutBlock_68 (ctX1_setSort2 ⟨hM, hE, hT, hh⟩ d row col 3 (by omega) hr hc) okX1_setSort lkX1_71 ⟨⟨hM, rfl, rfl⟩, (by omega)⟩ ⟨by decide, rfl, rfl, Nat.le_of_ble_eq_true rfl⟩ rfl (Or.inl ⟨rfl, rfl⟩) ?_
      rw [sM_sM]
      exact x_vret (st := []) C dX1_cutBlock_71 rfl ⟨rfl, rfl, by rw [show k = 4 by omega]; rfl, rfl⟩
    · have hp1 := zpart (d := d) (row := row / zsz d * zsz d) (p := k) hd (by omega) ⟨hf1.1, hf1.2.1⟩
      have hp2 := zpart (d := d) (row := col / zsz d * zsz d) (p := k) hd (by omega) ⟨hf2.1, hf2.2.1⟩
      refine x_aload_n C dX1_cutBlock_32 rfl ?_
      refine x_iload_n C dX1_cutBlock_33 rfl ?_
      refine x_iconst C dX1_cutBlock_34 ?_
      refine x_iadd C dX1_cutBlock_35 ?_
      refine x_iload_n C dX1_cutBlock_36 rfl ?_
      refine x_iload C dX1_cutBlock_37 rfl ?_
      refine x_iload C dX1_cutBlock_39 rfl ?_
      refine x_callS C dX1_cutBlock_41 (ctX1_rowOfPart d _ _ hd (by omega)) okX1_rowOfPart lkX1_57 ⟨by decide, rfl, rfl, Nat.le_of_ble_eq_true rfl⟩ rfl (Or.inl ⟨rfl, rfl⟩) ?_
      refine x_iload_n C dX1_cutBlock_44 rfl ?_
      refine x_iload C dX1_cutBlock_45 rfl ?_
      refine x_iload C dX1_cutBlock_47 rfl ?_
      refine x_callS C dX1_cutBlock_49 (ctX1_columnOfPart d _ _ hd (by omega)) okX1_columnOfPart lkX1_60 ⟨by decide, rfl, rfl, Nat.le_of_ble_eq_true rfl⟩ rfl (Or.inl ⟨rfl, rfl⟩) ?_
      refine x_iload C dX1_cutBlock_52 rfl ?_
      refine x_callV C dX1_cutBlock_54 (ctX1_setSort2 ⟨hM, hE, hT, hh⟩ (d + 1) _ _ _ (by omega) (by omega) (by omega)) okX1_setSort lkX1_71 ⟨⟨hM, rfl, rfl⟩, (by omega)⟩ ⟨by decide, rfl, rfl, Nat.le_of_ble_eq_true rfl⟩ rfl (Or.inl ⟨rfl, rfl⟩) ?_
      rw [sM_sM]
      refine x_iinc C dX1_cutBlock_57 rfl (by decide) ?_
      refine x_goto (tgt := 26) C dX1_cutBlock_60 (by decide) ?_
      exact ih (by omega)
  obtain ⟨hM, hE, hT, hh⟩ := hm
  have hm : isM σ n h e t := ⟨hM, hE, hT, hh⟩
  refine x_iload_n C dX1_cutBlock_0 rfl ?_
  refine x_iload_n C dX1_cutBlock_1 rfl ?_
  refine x_callSN C dX1_cutBlock_2 (ctX5_firstOf d row (by omega) hr) okX5_firstOf nkX1_75 ⟨by decide, rfl, rfl, Nat.le_of_ble_eq_true rfl⟩ rfl (Or.inl ⟨rfl, rfl⟩) ?_
  refine x_istore C dX1_cutBlock_5 (by decide) ?_
  refine x_iload_n C dX1_cutBlock_7 rfl ?_
  refine x_iload_n C dX1_cutBlock_8 rfl ?_
  refine x_callSN C dX1_cutBlock_9 (ctX5_firstOf d col (by omega) hc) okX5_firstOf nkX1_75 ⟨by decide, rfl, rfl, Nat.le_of_ble_eq_true rfl⟩ rfl (Or.inl ⟨rfl, rfl⟩) ?_
  refine x_istore C dX1_cutBlock_12 (by decide) ?_
  refine x_aload_n C dX1_cutBlock_14 rfl ?_
  refine x_iload_n C dX1_cutBlock_15 rfl ?_
  refine x_iload_n C dX1_cutBlock_16 rfl ?_
  refine x_iload_n C dX1_cutBlock_17 rfl ?_
  refine x_callV C dX1_cutBlock_18 (ctX1_sortOf ⟨hM, hE, hT, hh⟩ d row col (by omega) hr hc) okX1_sortOf lkX1_36 ⟨⟨hM, rfl, rfl⟩, (by omega)⟩ ⟨by decide, rfl, rfl, Nat.le_of_ble_eq_true rfl⟩ rfl (Or.inl ⟨rfl, rfl⟩) ?_
  refine x_istore C dX1_cutBlock_21 (by decide) ?_
  refine x_iconst C dX1_cutBlock_23 ?_
  refine x_istore C dX1_cutBlock_24 (by decide) ?_
  have l0 := loop 0 (by omega)
  rw [show zfo (fun t2 p => zu t2 (zno (d + 1) (row / zsz d * zsz d + p / 2 * zsz (d + 1)) (col / zsz d * zsz d + p % 2 * zsz (d + 1))) (t (zno d row col))) t 0 = t from rfl, sM_self hm] at l0
  exact l0
/-- an entry is changed: the sorts behind it -/
def zcuts (t : Int → Int) (row col : Int) : Nat → Int → Int := zfo (fun t2 k => if t2 (zno k row col) = 3 then t2 else zcb t2 k row col) t
theorem zcuts_St {t : Int → Int} (ht : zSt t) (row col : Int) (k : Nat) : zSt (zcuts t row col k) :=
  zfo_inv zSt _ _ ht (fun x k hx => by
    show zSt (if x (zno k row col) = 3 then x else zcb x k row col)
    split
    · exact hx
    · exact zcb_St hx _ _ _) k
theorem ctX1_changeEntry {h : Int} {e t : Int → Int} (hm : isM σ n h e t) (ht : zSt t) (row col x : Int) (hr : 0 ≤ row ∧ row < 16) (hc : 0 ≤ col ∧ col < 16) : zCt 4 0 0 yX1_changeEntry cX1_changeEntry 5 none [zr h, zi row, zi col, zi x] n σ none n (sM σ h (zu e (row * 16 + col) x) (zu (zcuts t row col 3) (zno 3 row col) 1)) := by
  refine zCt.of (by decide) rfl (Nat.le_of_ble_eq_true rfl) (fun K C => ?_)
  have loop : ∀ k : Nat, k ≤ 3 → K 3 [some (zr h), some (zi row), some (zi col), some (zi x), some (zi (k : Int))] [] n (sM σ h e (zcuts t row col k)) 0 := by
    refine zloop _ 3 (fun k hk ih => ?_)
    obtain ⟨hM, hE, hT, hh⟩ := isM_s hm e (zcuts t row col k)
    have hm1 : isM (sM σ h e (zcuts t row col k)) n h e (zcuts t row col k) := ⟨hM, hE, hT, hh⟩
    refine x_iload C dX1_changeEntry_3 rfl ?_
    refine x_iconst C dX1_changeEntry_5 ?_
    refine x_icmp_ge (tgt := 34) C dX1_changeEntry_6 (by decide) (by omega) (fun c6 => ?_) (fun c6 => ?_)
    · refine x_aload_n C dX1_changeEntry_34 rfl ?_
      refine x_iconst C dX1_changeEntry_35 ?_
      refine x_iload_n C dX1_changeEntry_36 rfl ?_
      refine x_iload_n C dX1_changeEntry_37 rfl ?_
      refine x_iconst C dX1_changeEntry_38 ?_
      refine x_callV C dX1_changeEntry_39 (ctX1_setSort2 ⟨hM, hE, hT, hh⟩ 3 row col 1 (by omega) hr hc) okX1_setSort lkX1_71 ⟨⟨hM, rfl, rfl⟩, (by omega)⟩ ⟨by decide, rfl, rfl, Nat.le_of_ble_eq_true rfl⟩ rfl (Or.inl ⟨rfl, rfl⟩) ?_
      rw [sM_sM]
      obtain ⟨hM, hE, hT, hh⟩ := isM_s hm e (zu (zcuts t row col k) (zno 3 row col) 1)
      refine x_aload_n C dX1_changeEntry_42 rfl ?_
      refine x_getfield C dX1_changeEntry_43 lfX1_9 hM (by omega) rfl ?_
      refine x_iload_n C dX1_changeEntry_46 rfl ?_
      refine x_iload_n C dX1_changeEntry_47 rfl ?_
      refine x_callS C dX1_changeEntry_48 (ctX1_cellOf _ _) okX1_cellOf lkX1_28 ⟨by decide, rfl, rfl, Nat.le_of_ble_eq_true rfl⟩ rfl (Or.inl ⟨rfl, rfl⟩) ?_
      refine x_iload_n C dX1_changeEntry_51 rfl ?_
      refine x_iastore C dX1_changeEntry_52 hE (by omega) ?_
      rw [sM_e]
      exact x_vret (st := []) C dX1_changeEntry_53 rfl ⟨rfl, rfl, by rw [show k = 3 by omega], rfl⟩
    · refine x_aload_n C dX1_changeEntry_9 rfl ?_
      refine x_iload C dX1_changeEntry_10 rfl ?_
      refine x_iload_n C dX1_changeEntry_12 rfl ?_
      refine x_iload_n C dX1_changeEntry_13 rfl ?_
      refine x_callV C dX1_changeEntry_14 (ctX1_isCut ⟨hM, hE, hT, hh⟩ (zcuts_St ht row col k) k row col (by omega) hr hc) okX1_isCut lkX1_39 ⟨⟨hM, rfl, rfl⟩, (by omega)⟩ ⟨by decide, rfl, rfl, Nat.le_of_ble_eq_true rfl⟩ rfl (Or.inl ⟨rfl, rfl⟩) ?_
      refine x_ifne_d (tgt := 28) C dX1_changeEntry_17 (by decide) (fun c17 => ?_) (fun c17 => ?_)
      · have e9 : zcuts t row col (k + 1) = zcuts t row col k := if_pos c17.2
        rw [← e9]
        refine x_iinc C dX1_changeEntry_28 rfl (by decide) ?_
        refine x_goto (tgt := 3) C dX1_changeEntry_31 (by decide) ?_
        exact ih (by omega)
      · have e9 : zcuts t row col (k + 1) = zcb (zcuts t row col k) k row col := if_neg (fun q => c17 ⟨by omega, q⟩)
        refine x_aload_n C dX1_changeEntry_20 rfl ?_
        refine x_iload C dX1_changeEntry_21 rfl ?_
        refine x_iload_n C dX1_changeEntry_23 rfl ?_
        refine x_iload_n C dX1_changeEntry_24 rfl ?_
        refine x_callV C dX1_changeEntry_25 (ctX1_cutBlock ⟨hM, hE, hT, hh⟩ k row col (by omega) hr hc) okX1_cutBlock lkX1_67 ⟨⟨hM, rfl, rfl⟩, (by omega)⟩ ⟨by decide, rfl, rfl, Nat.le_of_ble_eq_true rfl⟩ rfl (Or.inl ⟨rfl, rfl⟩) ?_
        rw [sM_sM]
        rw [← e9]
        refine x_iinc C dX1_changeEntry_28 rfl (by decide) ?_
        refine x_goto (tgt := 3) C dX1_changeEntry_31 (by decide) ?_
        exact ih (by omega)
  obtain ⟨hM, hE, hT, hh⟩ := hm
  have hm : isM σ n h e t := ⟨hM, hE, hT, hh⟩
  refine x_iconst C dX1_changeEntry_0 ?_
  refine x_istore C dX1_changeEntry_1 (by decide) ?_
  have l0 := loop 0 (by omega)
  rw [show zcuts t row col 0 = t from rfl, sM_self hm] at l0
  exact l0
/-- the first row (column) of a square that is not all 0 -/
def zfr (e : Int → Int) (row col q r : Int) : Prop := (r = -1 ∧ ∀ i j : Int, row ≤ i → i < row + q → col ≤ j → j < col + q → e (i * 16 + j) = 0) ∨ ((row ≤ r ∧ r < row + q) ∧ (∃ j, (col ≤ j ∧ j < col + q) ∧ e (r * 16 + j) ≠ 0) ∧ ∀ i j : Int, row ≤ i → i < r → col ≤ j → j < col + q → e (i * 16 + j) = 0)
def zfc (e : Int → Int) (row col q r : Int) : Prop := (r = -1 ∧ ∀ i j : Int, row ≤ i → i < row + q → col ≤ j → j < col + q → e (i * 16 + j) = 0) ∨ ((col ≤ r ∧ r < col + q) ∧ (∃ i, (row ≤ i ∧ i < row + q) ∧ e (i * 16 + r) ≠ 0) ∧ ∀ i j : Int, row ≤ i → i < row + q → col ≤ j → j < r → e (i * 16 + j) = 0)
theorem zfr_one {e : Int → Int} {row col q r s : Int} (h0 : 0 ≤ row) (hr : zfr e row col q r) (hs : zfr e row col q s) : r = s := by
  rcases hr with ⟨rfl, a⟩ | ⟨a1, ⟨j, a2, a3⟩, a4⟩
  · rcases hs with ⟨rfl, b⟩ | ⟨b1, ⟨j, b2, b3⟩, b4⟩
    · rfl
    · exact absurd (a s j b1.1 b1.2 b2.1 b2.2) b3
  · rcases hs with ⟨rfl, b⟩ | ⟨b1, ⟨j2, b2, b3⟩, b4⟩
    · exact absurd (b r j a1.1 a1.2 a2.1 a2.2) a3
    · rcases Int.lt_trichotomy r s with q | q | q
      · exact absurd (b4 r j a1.1 q a2.1 a2.2) a3
      · exact q
      · exact absurd (a4 s j2 b1.1 q b2.1 b2.2) b3
theorem zfc_one {e : Int → Int} {row col q r s : Int} (h0 : 0 ≤ col) (hr : zfc e row col q r) (hs : zfc e row col q s) : r = s := by
  rcases hr with ⟨rfl, a⟩ | ⟨a1, ⟨j, a2, a3⟩, a4⟩
  · rcases hs with ⟨rfl, b⟩ | ⟨b1, ⟨j, b2, b3⟩, b4⟩
    · rfl
    · exact absurd (a j s b2.1 b2.2 b1.1 b1.2) b3
  · rcases hs with ⟨rfl, b⟩ | ⟨b1, ⟨j2, b2, b3⟩, b4⟩
    · exact absurd (b j r a2.1 a2.2 a1.1 a1.2) a3
    · rcases Int.lt_trichotomy r s with q | q | q
      · exact absurd (b4 j r a2.1 a2.2 a1.1 q) a3
      · exact q
      · exact absurd (a4 j2 s b2.1 b2.2 b1.1 q) b3
/-- a first one there is -/
theorem zleast (P : Int → Prop) (a : Int) : ∀ k : Nat, (∃ j, (a ≤ j ∧ j < a + k) ∧ P j) → ∃ j, (a ≤ j ∧ j < a + k) ∧ P j ∧ ∀ i, a ≤ i → i < j → ¬ P i
  | 0, h => by obtain ⟨j, hj, -⟩ := h; omega
  | k + 1, h => by
    by_cases q : ∃ j, (a ≤ j ∧ j < a + k) ∧ P j
    · obtain ⟨j, h1, h2, h3⟩ := zleast P a k q
      exact ⟨j, by omega, h2, h3⟩
    · obtain ⟨j, h1, h2⟩ := h
      exact ⟨j, h1, h2, fun i hi1 hi2 hp => q ⟨i, by omega, hp⟩⟩
theorem zfr_ex (e : Int → Int) (row col : Int) (q : Nat) : ∃ r, zfr e row col q r := by
  by_cases h : ∃ i, (row ≤ i ∧ i < row + q) ∧ ∃ j, (col ≤ j ∧ j < col + q) ∧ e (i * 16 + j) ≠ 0
  · obtain ⟨r, h1, h2, h3⟩ := zleast _ row q h
    refine ⟨r, Or.inr ⟨h1, h2, fun i j a1 a2 b1 b2 => ?_⟩⟩
    by_cases z : e (i * 16 + j) = 0
    · exact z
    · exact absurd ⟨j, ⟨b1, b2⟩, z⟩ (h3 i a1 a2)
  · refine ⟨-1, Or.inl ⟨rfl, fun i j a1 a2 b1 b2 => ?_⟩⟩
    by_cases z : e (i * 16 + j) = 0
    · exact z
    · exact absurd ⟨i, ⟨a1, a2⟩, j, ⟨b1, b2⟩, z⟩ h
theorem zfc_ex (e : Int → Int) (row col : Int) (q : Nat) : ∃ r, zfc e row col q r := by
  by_cases h : ∃ j, (col ≤ j ∧ j < col + q) ∧ ∃ i, (row ≤ i ∧ i < row + q) ∧ e (i * 16 + j) ≠ 0
  · obtain ⟨r, h1, h2, h3⟩ := zleast _ col q h
    refine ⟨r, Or.inr ⟨h1, h2, fun i j a1 a2 b1 b2 => ?_⟩⟩
    by_cases z : e (i * 16 + j) = 0
    · exact z
    · exact absurd ⟨i, ⟨a1, a2⟩, z⟩ (h3 j b1 b2)
  · refine ⟨-1, Or.inl ⟨rfl, fun i j a1 a2 b1 b2 => ?_⟩⟩
    by_cases z : e (i * 16 + j) = 0
    · exact z
    · exact absurd ⟨j, ⟨b1, b2⟩, i, ⟨a1, a2⟩, z⟩ h
theorem ctX1_firstFilledRow {h : Int} {e t : Int → Int} (hm : isM σ n h e t) (he : zBd e) (row col : Int) (q : Nat) (hr : 0 ≤ row ∧ row + q ≤ 16) (hc : 0 ≤ col ∧ col + q ≤ 16) {r : Int} (hs : zfr e row col q r) : zCt 2 0 0 yX1_firstFilledRow cX1_firstFilledRow 6 (some .int) [zr h, zi row, zi col, zi (q : Int)] n σ (some (zi r)) n σ := by
  obtain ⟨hM, hE, hT, hh⟩ := hm
  refine zCt.of (by decide) rfl (Nat.le_of_ble_eq_true rfl) (fun K C => ?_)
  have loop : ∀ i : Nat, i ≤ q → (∀ a b : Int, row ≤ a → a < row + i → col ≤ b → b < col + q → e (a * 16 + b) = 0) → K 3 [some (zr h), some (zi row), some (zi col), some (zi (q : Int)), some (zi (row + i)), none] [] n σ 0 := by
    refine zloop _ q (fun i hi ih hall => ?_)
    have loop2 : i < q → ∀ j : Nat, j ≤ q → (∀ b : Int, col ≤ b → b < col + j → e ((row + i) * 16 + b) = 0) → K 14 [some (zr h), some (zi row), some (zi col), some (zi (q : Int)), some (zi (row + i)), some (zi (col + j))] [] n σ 0 := by
      intro hi2
      refine zloop _ q (fun j hj ih2 hall2 => ?_)
      refine x_iload C dX1_firstFilledRow_14 rfl ?_
      refine x_iload_n C dX1_firstFilledRow_16 rfl ?_
      refine x_iload_n C dX1_firstFilledRow_17 rfl ?_
      refine x_iadd C dX1_firstFilledRow_18 ?_
      refine x_icmp_ge (tgt := 46) C dX1_firstFilledRow_19 (by decide) (by omega) (fun c19 => ?_) (fun c19 => ?_)
      · refine x_iinc C dX1_firstFilledRow_46 rfl (by decide) ?_
        refine x_goto (tgt := 3) C dX1_firstFilledRow_49 (by decide) ?_
        rw [Int.add_assoc row]
        refine x_weak C (Lo' := [some (zr h), some (zi row), some (zi col), some (zi (q : Int)), some (zi (row + ((i : Int) + 1))), none]) (fun j u hj => by match j, hj with | 0, hj => exact hj | 1, hj => exact hj | 2, hj => exact hj | 3, hj => exact hj | 4, hj => exact hj | j + 6, hj => exact absurd hj (by simp [zg])) ?_
        exact ih (by omega) (fun a b h1 h2 h3 h4 => by
          by_cases z : a < row + i
          · exact hall a b h1 z h3 h4
          · rw [show a = row + i by omega]; exact hall2 b h3 (by omega))
      · refine x_aload_n C dX1_firstFilledRow_22 rfl ?_
        refine x_getfield C dX1_firstFilledRow_23 lfX1_9 hM (by omega) rfl ?_
        refine x_iload C dX1_firstFilledRow_26 rfl ?_
        refine x_iload C dX1_firstFilledRow_28 rfl ?_
        refine x_callS C dX1_firstFilledRow_30 (ctX1_cellOf _ _) okX1_cellOf lkX1_28 ⟨by decide, rfl, rfl, Nat.le_of_ble_eq_true rfl⟩ rfl (Or.inl ⟨rfl, rfl⟩) ?_
        refine x_iaload C dX1_firstFilledRow_33 hE (by omega) ?_
        refine x_if_eq (tgt := 40) C dX1_firstFilledRow_34 (by decide) (by have := he ((row + i) * 16 + (col + j)); omega) (fun c34 => ?_) (fun c34 => ?_)
        · refine x_iinc C dX1_firstFilledRow_40 rfl (by decide) ?_
          refine x_goto (tgt := 14) C dX1_firstFilledRow_43 (by decide) ?_
          rw [Int.add_assoc col]
          exact ih2 (by omega) (fun b h1 h2 => by
            by_cases z : b < col + j
            · exact hall2 b h1 z
            · rw [show b = col + j by omega]; exact c34)
        · refine x_iload C dX1_firstFilledRow_37 rfl ?_
          exact x_iret (st := []) C dX1_firstFilledRow_39 rfl ⟨congrArg (fun z => some (zi z)) (zfr_one hr.1 (Or.inr ⟨by omega, ⟨col + j, by omega, c34⟩, fun a b h1 h2 h3 h4 => hall a b h1 h2 h3 h4⟩) hs), rfl, rfl, rfl⟩
    refine x_iload C dX1_firstFilledRow_3 rfl ?_
    refine x_iload_n C dX1_firstFilledRow_5 rfl ?_
    refine x_iload_n C dX1_firstFilledRow_6 rfl ?_
    refine x_iadd C dX1_firstFilledRow_7 ?_
    refine x_icmp_ge (tgt := 52) C dX1_firstFilledRow_8 (by decide) (by omega) (fun c8 => ?_) (fun c8 => ?_)
    · refine x_iconst C dX1_firstFilledRow_52 ?_
      exact x_iret (st := []) C dX1_firstFilledRow_53 rfl ⟨congrArg (fun z => some (zi z)) (zfr_one hr.1 (Or.inl ⟨rfl, fun a b h1 h2 h3 h4 => hall a b h1 (by omega) h3 h4⟩) hs), rfl, rfl, rfl⟩
    · refine x_iload_n C dX1_firstFilledRow_11 rfl ?_
      refine x_istore C dX1_firstFilledRow_12 (by decide) ?_
      have l2 := loop2 (by omega) 0 (by omega) (fun b h1 h2 => by omega)
      rw [show col + ((0 : Nat) : Int) = col from Int.add_zero col] at l2
      exact l2
  refine x_iload_n C dX1_firstFilledRow_0 rfl ?_
  refine x_istore C dX1_firstFilledRow_1 (by decide) ?_
  have l0 := loop 0 (by omega) (fun a b h1 h2 => by omega)
  rw [show row + ((0 : Nat) : Int) = row from Int.add_zero row] at l0
  exact l0
theorem ctX1_firstFilledColumn {h : Int} {e t : Int → Int} (hm : isM σ n h e t) (he : zBd e) (row col : Int) (q : Nat) (hr : 0 ≤ row ∧ row + q ≤ 16) (hc : 0 ≤ col ∧ col + q ≤ 16) {r : Int} (hs : zfc e row col q r) : zCt 2 0 0 yX1_firstFilledColumn cX1_firstFilledColumn 6 (some .int) [zr h, zi row, zi col, zi (q : Int)] n σ (some (zi r)) n σ := by
  obtain ⟨hM, hE, hT, hh⟩ := hm
  refine zCt.of (by decide) rfl (Nat.le_of_ble_eq_true rfl) (fun K C => ?_)
  have loop : ∀ j : Nat, j ≤ q → (∀ a b : Int, row ≤ a → a < row + q → col ≤ b → b < col + j → e (a * 16 + b) = 0) → K 3 [some (zr h), some (zi row), some (zi col), some (zi (q : Int)), some (zi (col + j)), none] [] n σ 0 := by
    refine zloop _ q (fun j hj ih hall => ?_)
    have loop2 : j < q → ∀ i : Nat, i ≤ q → (∀ a : Int, row ≤ a → a < row + i → e (a * 16 + (col + j)) = 0) → K 14 [some (zr h), some (zi row), some (zi col), some (zi (q : Int)), some (zi (col + j)), some (zi (row + i))] [] n σ 0 := by
      intro hi2
      refine zloop _ q (fun i hi ih2 hall2 => ?_)
      refine x_iload C dX1_firstFilledColumn_14 rfl ?_
      refine x_iload_n C dX1_firstFilledColumn_16 rfl ?_
      refine x_iload_n C dX1_firstFilledColumn_17 rfl ?_
      refine x_iadd C dX1_firstFilledColumn_18 ?_
      refine x_icmp_ge (tgt := 46) C dX1_firstFilledColumn_19 (by decide) (by omega) (fun c19 => ?_) (fun c19 => ?_)
      · refine x_iinc C dX1_firstFilledColumn_46 rfl (by decide) ?_
        refine x_goto (tgt := 3) C dX1_firstFilledColumn_49 (by decide) ?_
        rw [Int.add_assoc col]
        refine x_weak C (Lo' := [some (zr h), some (zi row), some (zi col), some (zi (q : Int)), some (zi (col + ((j : Int) + 1))), none]) (fun j u hj => by match j, hj with | 0, hj => exact hj | 1, hj => exact hj | 2, hj => exact hj | 3, hj => exact hj | 4, hj => exact hj | j + 6, hj => exact absurd hj (by simp [zg])) ?_
        exact ih (by omega) (fun a b h1 h2 h3 h4 => by
          by_cases z : b < col + j
          · exact hall a b h1 h2 h3 z
          · rw [show b = col + j by omega]; exact hall2 a h1 (by omega))
      · refine x_aload_n C dX1_firstFilledColumn_22 rfl ?_
        refine x_getfield C dX1_firstFilledColumn_23 lfX1_9 hM (by omega) rfl ?_
        refine x_iload C dX1_firstFilledColumn_26 rfl ?_
        refine x_iload C dX1_firstFilledColumn_28 rfl ?_
        refine x_callS C dX1_firstFilledColumn_30 (ctX1_cellOf _ _) okX1_cellOf lkX1_28 ⟨by decide, rfl, rfl, Nat.le_of_ble_eq_true rfl⟩ rfl (Or.inl ⟨rfl, rfl⟩) ?_
        refine x_iaload C dX1_firstFilledColumn_33 hE (by omega) ?_
        refine x_if_eq (tgt := 40) C dX1_firstFilledColumn_34 (by decide) (by have := he ((row + i) * 16 + (col + j)); omega) (fun c34 => ?_) (fun c34 => ?_)
        · refine x_iinc C dX1_firstFilledColumn_40 rfl (by decide) ?_
          refine x_goto (tgt := 14) C dX1_firstFilledColumn_43 (by decide) ?_
          rw [Int.add_assoc row]
          exact ih2 (by omega) (fun a h1 h2 => by
            by_cases z : a < row + i
            · exact hall2 a h1 z
            · rw [show a = row + i by omega]; exact c34)
        · refine x_iload C dX1_firstFilledColumn_37 rfl ?_
          exact x_iret (st := []) C dX1_firstFilledColumn_39 rfl ⟨congrArg (fun z => some (zi z)) (zfc_one hc.1 (Or.inr ⟨by omega, ⟨row + i, by omega, c34⟩, fun a b h1 h2 h3 h4 => hall a b h1 h2 h3 h4⟩) hs), rfl, rfl, rfl⟩
    refine x_iload C dX1_firstFilledColumn_3 rfl ?_
    refine x_iload_n C dX1_firstFilledColumn_5 rfl ?_
    refine x_iload_n C dX1_firstFilledColumn_6 rfl ?_
    refine x_iadd C dX1_firstFilledColumn_7 ?_
    refine x_icmp_ge (tgt := 52) C dX1_firstFilledColumn_8 (by decide) (by omega) (fun c8 => ?_) (fun c8 => ?_)
    · refine x_iconst C dX1_firstFilledColumn_52 ?_
      exact x_iret (st := []) C dX1_firstFilledColumn_53 rfl ⟨congrArg (fun z => some (zi z)) (zfc_one hc.1 (Or.inl ⟨rfl, fun a b h1 h2 h3 h4 => hall a b h1 h2 h3 (by omega)⟩) hs), rfl, rfl, rfl⟩
    · refine x_iload_n C dX1_firstFilledColumn_11 rfl ?_
      refine x_istore C dX1_firstFilledColumn_12 (by decide) ?_
      have l2 := loop2 (by omega) 0 (by omega) (fun b h1 h2 => by omega)
      rw [show row + ((0 : Nat) : Int) = row from Int.add_zero row] at l2
      exact l2
  refine x_iload_n C dX1_firstFilledColumn_0 rfl ?_
  refine x_istore C dX1_firstFilledColumn_1 (by decide) ?_
  have l0 := loop 0 (by omega) (fun a b h1 h2 h3 h4 => by omega)
  rw [show col + ((0 : Nat) : Int) = col from Int.add_zero col] at l0
  exact l0
end
