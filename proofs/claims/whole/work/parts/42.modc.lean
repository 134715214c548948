theorem zdq {q : Nat} {i j : Int} (hj : 0 ≤ j ∧ j < q) : (i * q + j) / q = i ∧ (i * q + j) % q = j := by
  have hq : (q : Int) ≠ 0 := by omega
  refine ⟨?_, ?_⟩
  · rw [Int.add_comm, Int.add_mul_ediv_right _ _ hq, Int.ediv_eq_zero_of_lt hj.1 hj.2, Int.zero_add]
  · rw [Int.add_comm, Int.add_mul_emod_self_right, Int.emod_eq_of_lt hj.1 hj.2]
/-- the place of two numbers in a square -/
theorem zij {q : Nat} {i j : Int} (hi : 0 ≤ i ∧ i < q) (hj : 0 ≤ j ∧ j < q) : ∃ k : Nat, k < q * q ∧ (k : Int) / q = i ∧ (k : Int) % q = j ∧ (k : Int) = i * q + j := by
  have h := zrq hi hj
  have e : ((i * q + j).toNat : Int) = i * q + j := Int.toNat_of_nonneg h.1
  refine ⟨(i * q + j).toNat, ?_, ?_, ?_, e⟩
  · have h2 : ((q * q : Nat) : Int) = (q : Int) * q := Int.natCast_mul q q
    omega
  · rw [e]
    exact (zdq hj).1
  · rw [e]
    exact (zdq hj).2
theorem zlq {q : Nat} {i j a : Int} (hj : 0 ≤ j ∧ j < q) (h : i < a) : i * q + j < a * q := by
  have h2 : (i + 1) * (q : Int) ≤ a * q := Int.mul_le_mul_of_nonneg_right (by omega) (by omega)
  rw [Int.add_mul] at h2
  omega
def zBe (e : Int → Int) : Prop := ∀ j, 0 ≤ j → j < 256 → -1000000 ≤ e j ∧ e j ≤ 1000000
theorem zBe.m {e : Int → Int} (h : zBe e) {row col : Int} (hr : 0 ≤ row ∧ row < 16) (hc : 0 ≤ col ∧ col < 16) : -1000000 ≤ e (row * 16 + col) ∧ e (row * 16 + col) ≤ 1000000 := h _ (by omega) (by omega)
section
variable {n : Nat} {σ : zS} {S : Int → Int}
theorem ctX6_firstRow (h : isMo σ n S) (m row col : Int) (q : Nat) (hm : 0 ≤ m ∧ m < 4) (he : zBe (zsE S m)) (hr : 0 ≤ row ∧ row + q ≤ 16) (hc : 0 ≤ col ∧ col + q ≤ 16) {r : Int} (hs : zfr (zsE S m) row col q r) : zCt 2 0 0 yX6_firstRow cX6_firstRow 6 (some .int) [zr 145, zi m, zi row, zi col, zi (q : Int)] n σ (some (zi (if r = -1 then -6 else r))) n σ := by
  obtain ⟨⟨um, L, p, wl, lv, br, bc, hM⟩, hS0, hn⟩ := id h
  have hNN : q * q ≤ 256 := Nat.mul_le_mul (show q ≤ 16 by omega) (show q ≤ 16 by omega)
  have hcast : ((q * q : Nat) : Int) = (q : Int) * q := Int.natCast_mul q q
  refine zCt.of (by decide) rfl (Nat.le_of_ble_eq_true rfl) (fun K C => ?_)
  have loop : ∀ k : Nat, k ≤ q * q → (∀ a : Nat, a < k → zsE S m ((row + (a : Int) / q) * 16 + (col + (a : Int) % q)) = 0) → K 3 [some (zr 145), some (zi m), some (zi row), some (zi col), some (zi (q : Int)), some (zi (k : Int))] [] n σ 0 := by
    refine zloop _ (q * q) (fun k hk ih hall => ?_)
    refine x_iload C dX6_firstRow_3 rfl ?_
    refine x_iload C dX6_firstRow_5 rfl ?_
    refine x_iload C dX6_firstRow_7 rfl ?_
    refine x_imul C dX6_firstRow_9 ?_
    refine x_icmp_ge (tgt := 49) C dX6_firstRow_10 (by decide) (by omega) (fun c10 => ?_) (fun c10 => ?_)
    · refine x_bipush C dX6_firstRow_49 (by decide) ?_
      exact x_iret (st := []) C dX6_firstRow_51 rfl (by
  have e1 : r = -1 := by
    refine (zfr_one hr.1 (Or.inl ⟨rfl, fun a b h1 h2 h3 h4 => ?_⟩) hs).symm
    obtain ⟨z, z1, z2, z3, z4⟩ := zij (q := q) (i := a - row) (j := b - col) (by omega) (by omega)
    have z7 := hall z (by omega)
    rw [z2, z3, show row + (a - row) = a by omega, show col + (b - col) = b by omega] at z7
    exact z7
  exact ⟨congrArg (fun z => some (zi z)) (by rw [if_pos e1]), rfl, rfl, rfl⟩)
    · have hd := zdm (N := q) (k := k) (by omega)
      have hb := he.m (row := row + (k : Int) / q) (col := col + (k : Int) % q) (by omega) (by omega)
      refine x_aload_n C dX6_firstRow_13 rfl ?_
      refine x_iload_n C dX6_firstRow_14 rfl ?_
      refine x_iload_n C dX6_firstRow_15 rfl ?_
      refine x_iload C dX6_firstRow_16 rfl ?_
      refine x_iload C dX6_firstRow_18 rfl ?_
      refine x_idiv C dX6_firstRow_20 (by omega) ?_
      refine x_iadd C dX6_firstRow_21 ?_
      refine x_iload_n C dX6_firstRow_22 rfl ?_
      refine x_iload C dX6_firstRow_23 rfl ?_
      refine x_iload C dX6_firstRow_25 rfl ?_
      refine x_irem C dX6_firstRow_27 (by omega) ?_
      refine x_iadd C dX6_firstRow_28 ?_
      refine x_callV C dX6_firstRow_29 (ctX6_get h m _ _ hm (by omega) (by omega)) okX6_get lkX6_81 ⟨⟨hM, rfl, rfl⟩, (by omega)⟩ ⟨by decide, rfl, rfl, Nat.le_of_ble_eq_true rfl⟩ rfl (Or.inl ⟨rfl, rfl⟩) ?_
      refine x_if_eq (tgt := 43) C dX6_firstRow_32 (by decide) (by omega) (fun c32 => ?_) (fun c32 => ?_)
      · refine x_iinc C dX6_firstRow_43 rfl (by decide) ?_
        refine x_goto (tgt := 3) C dX6_firstRow_46 (by decide) ?_
        exact ih (by omega) (fun a ha => by
          by_cases z : a < k
          · exact hall a z
          · rw [show a = k by omega]; exact c32)
      · refine x_iload_n C dX6_firstRow_35 rfl ?_
        refine x_iload C dX6_firstRow_36 rfl ?_
        refine x_iload C dX6_firstRow_38 rfl ?_
        refine x_idiv C dX6_firstRow_40 (by omega) ?_
        refine x_iadd C dX6_firstRow_41 ?_
        exact x_iret (st := []) C dX6_firstRow_42 rfl (by
  have e1 : r = row + (k : Int) / q := by
    refine (zfr_one hr.1 (Or.inr ⟨by omega, ⟨col + (k : Int) % q, by omega, c32⟩, fun a b h1 h2 h3 h4 => ?_⟩) hs).symm
    obtain ⟨z, z1, z2, z3, z4⟩ := zij (q := q) (i := a - row) (j := b - col) (by omega) (by omega)
    have z5 := zlq (q := q) (i := a - row) (j := b - col) (a := (k : Int) / q) (by omega) (by omega)
    have z6 := Int.ediv_mul_le (k : Int) (show (q : Int) ≠ 0 by omega)
    have z7 := hall z (by omega)
    rw [z2, z3, show row + (a - row) = a by omega, show col + (b - col) = b by omega] at z7
    exact z7
  exact ⟨congrArg (fun z => some (zi z)) (by rw [if_neg (by omega), e1]), rfl, rfl, rfl⟩)
  refine x_iconst C dX6_firstRow_0 ?_
  refine x_istore C dX6_firstRow_1 (by decide) ?_
  exact loop 0 (by omega) (fun a ha => absurd ha (by omega))
theorem ctX6_firstColumn (h : isMo σ n S) (m row col : Int) (q : Nat) (hm : 0 ≤ m ∧ m < 4) (he : zBe (zsE S m)) (hr : 0 ≤ row ∧ row + q ≤ 16) (hc : 0 ≤ col ∧ col + q ≤ 16) {r : Int} (hs : zfc (zsE S m) row col q r) : zCt 2 0 0 yX6_firstColumn cX6_firstColumn 6 (some .int) [zr 145, zi m, zi row, zi col, zi (q : Int)] n σ (some (zi (if r = -1 then -6 else r))) n σ := by
  obtain ⟨⟨um, L, p, wl, lv, br, bc, hM⟩, hS0, hn⟩ := id h
  have hNN : q * q ≤ 256 := Nat.mul_le_mul (show q ≤ 16 by omega) (show q ≤ 16 by omega)
  have hcast : ((q * q : Nat) : Int) = (q : Int) * q := Int.natCast_mul q q
  refine zCt.of (by decide) rfl (Nat.le_of_ble_eq_true rfl) (fun K C => ?_)
  have loop : ∀ k : Nat, k ≤ q * q → (∀ a : Nat, a < k → zsE S m ((row + (a : Int) % q) * 16 + (col + (a : Int) / q)) = 0) → K 3 [some (zr 145), some (zi m), some (zi row), some (zi col), some (zi (q : Int)), some (zi (k : Int))] [] n σ 0 := by
    refine zloop _ (q * q) (fun k hk ih hall => ?_)
    refine x_iload C dX6_firstColumn_3 rfl ?_
    refine x_iload C dX6_firstColumn_5 rfl ?_
    refine x_iload C dX6_firstColumn_7 rfl ?_
    refine x_imul C dX6_firstColumn_9 ?_
    refine x_icmp_ge (tgt := 49) C dX6_firstColumn_10 (by decide) (by omega) (fun c10 => ?_) (fun c10 => ?_)
    · refine x_bipush C dX6_firstColumn_49 (by decide) ?_
      exact x_iret (st := []) C dX6_firstColumn_51 rfl (by
  have e1 : r = -1 := by
    refine (zfc_one hc.1 (Or.inl ⟨rfl, fun a b h1 h2 h3 h4 => ?_⟩) hs).symm
    obtain ⟨z, z1, z2, z3, z4⟩ := zij (q := q) (i := b - col) (j := a - row) (by omega) (by omega)
    have z7 := hall z (by omega)
    rw [z2, z3, show row + (a - row) = a by omega, show col + (b - col) = b by omega] at z7
    exact z7
  exact ⟨congrArg (fun z => some (zi z)) (by rw [if_pos e1]), rfl, rfl, rfl⟩)
    · have hd := zdm (N := q) (k := k) (by omega)
      have hb := he.m (row := row + (k : Int) % q) (col := col + (k : Int) / q) (by omega) (by omega)
      refine x_aload_n C dX6_firstColumn_13 rfl ?_
      refine x_iload_n C dX6_firstColumn_14 rfl ?_
      refine x_iload_n C dX6_firstColumn_15 rfl ?_
      refine x_iload C dX6_firstColumn_16 rfl ?_
      refine x_iload C dX6_firstColumn_18 rfl ?_
      refine x_irem C dX6_firstColumn_20 (by omega) ?_
      refine x_iadd C dX6_firstColumn_21 ?_
      refine x_iload_n C dX6_firstColumn_22 rfl ?_
      refine x_iload C dX6_firstColumn_23 rfl ?_
      refine x_iload C dX6_firstColumn_25 rfl ?_
      refine x_idiv C dX6_firstColumn_27 (by omega) ?_
      refine x_iadd C dX6_firstColumn_28 ?_
      refine x_callV C dX6_firstColumn_29 (ctX6_get h m _ _ hm (by omega) (by omega)) okX6_get lkX6_81 ⟨⟨hM, rfl, rfl⟩, (by omega)⟩ ⟨by decide, rfl, rfl, Nat.le_of_ble_eq_true rfl⟩ rfl (Or.inl ⟨rfl, rfl⟩) ?_
      refine x_if_eq (tgt := 43) C dX6_firstColumn_32 (by decide) (by omega) (fun c32 => ?_) (fun c32 => ?_)
      · refine x_iinc C dX6_firstColumn_43 rfl (by decide) ?_
        refine x_goto (tgt := 3) C dX6_firstColumn_46 (by decide) ?_
        exact ih (by omega) (fun a ha => by
          by_cases z : a < k
          · exact hall a z
          · rw [show a = k by omega]; exact c32)
      · refine x_iload_n C dX6_firstColumn_35 rfl ?_
        refine x_iload C dX6_firstColumn_36 rfl ?_
        refine x_iload C dX6_firstColumn_38 rfl ?_
        refine x_idiv C dX6_firstColumn_40 (by omega) ?_
        refine x_iadd C dX6_firstColumn_41 ?_
        exact x_iret (st := []) C dX6_firstColumn_42 rfl (by
  have e1 : r = col + (k : Int) / q := by
    refine (zfc_one hc.1 (Or.inr ⟨by omega, ⟨row + (k : Int) % q, by omega, c32⟩, fun a b h1 h2 h3 h4 => ?_⟩) hs).symm
    obtain ⟨z, z1, z2, z3, z4⟩ := zij (q := q) (i := b - col) (j := a - row) (by omega) (by omega)
    have z5 := zlq (q := q) (i := b - col) (j := a - row) (a := (k : Int) / q) (by omega) (by omega)
    have z6 := Int.ediv_mul_le (k : Int) (show (q : Int) ≠ 0 by omega)
    have z7 := hall z (by omega)
    rw [z2, z3, show row + (a - row) = a by omega, show col + (b - col) = b by omega] at z7
    exact z7
  exact ⟨congrArg (fun z => some (zi z)) (by rw [if_neg (by omega), e1]), rfl, rfl, rfl⟩)
  refine x_iconst C dX6_firstColumn_0 ?_
  refine x_istore C dX6_firstColumn_1 (by decide) ?_
  exact loop 0 (by omega) (fun a ha => absurd ha (by omega))
theorem ctX6_oneness (h : isMo σ n S) (m row col : Int) (q : Nat) (hm : 0 ≤ m ∧ m < 4) (he : zBe (zsE S m)) (hr : 0 ≤ row ∧ row + q ≤ 16) (hc : 0 ≤ col ∧ col + q ≤ 16) : zCt 3 0 0 yX6_oneness cX6_oneness 12 (some .int) [zr 145, zi m, zi row, zi col, zi (q : Int)] n σ (some (zi (zone (zsE S m) row col q))) n σ := by
  obtain ⟨⟨um, L, p, wl, lv, br, bc, hM⟩, hS0, hn⟩ := id h
  have hNN : q * q ≤ 256 := Nat.mul_le_mul (show q ≤ 16 by omega) (show q ≤ 16 by omega)
  have hcast : ((q * q : Nat) : Int) = (q : Int) * q := Int.natCast_mul q q
  obtain ⟨r, hp⟩ := zfr_ex (zsE S m) row col q
  obtain ⟨c, hq⟩ := zfc_ex (zsE S m) row col q
  have hR := ctX6_firstRow h m row col q hm he hr hc hp
  have hC := ctX6_firstColumn h m row col q hm he hr hc hq
  generalize hE : zsE S m = e at *
  have hp1 : r = -1 ∨ (row ≤ r ∧ r < row + q) := hp.elim (fun z => Or.inl z.1) (fun z => Or.inr z.1)
  have hq1 : c = -1 ∨ (col ≤ c ∧ c < col + q) := hq.elim (fun z => Or.inl z.1) (fun z => Or.inr z.1)
  have hz : r = -1 → zallz e row col q := by
    intro z
    rcases hp with ⟨-, a⟩ | ⟨a, -⟩
    · exact a
    · omega
  have hnz : 0 ≤ r → ¬ zallz e row col q := by
    intro z a
    rcases hp with ⟨rfl, -⟩ | ⟨b, ⟨j, b2, b3⟩, -⟩
    · omega
    · exact b3 (a r j b.1 b.2 b2.1 b2.2)
  have hc0 : 0 ≤ r → 0 ≤ c := by
    intro z
    rcases hq with ⟨-, a⟩ | ⟨a, -⟩
    · exact absurd a (hnz z)
    · omega
  have huniq : zoneP e row col q → ∀ i j : Int, row ≤ i → i < row + q → col ≤ j → j < col + q → e (i * 16 + j) * e (r * 16 + c) = e (i * 16 + c) * e (r * 16 + j) := by
    rintro ⟨r2, c2, a1, a2, a3⟩
    rw [zfr_one hr.1 a1 hp, zfc_one hc.1 a2 hq] at a3
    exact a3
  have hget : ∀ i j : Int, (0 ≤ i ∧ i < 16) → (0 ≤ j ∧ j < 16) → zCt 1 0 0 yX6_get cX6_get 4 (some .int) [zr 145, zi m, zi i, zi j] n σ (some (zi (e (i * 16 + j)))) n σ := by
    intro i j hi hj
    rw [← hE]
    exact ctX6_get h m i j hm hi hj
  refine zCt.of (by decide) rfl (Nat.le_of_ble_eq_true rfl) (fun K C => ?_)
  have loop : 0 ≤ r → 0 ≤ c → ∀ k : Nat, k ≤ q * q → (∀ a : Nat, a < k → e ((row + (a : Int) / q) * 16 + (col + (a : Int) % q)) * e (r * 16 + c) = e ((row + (a : Int) / q) * 16 + c) * e (r * 16 + (col + (a : Int) % q))) → K 46 [some (zr 145), some (zi m), some (zi row), some (zi col), some (zi (q : Int)), some (zi r), some (zi c), some (zl (e (r * 16 + c))), none, some (zi (k : Int)), none, none] [] n σ 0 := by
    intro hr0 hc1
    refine zloop _ (q * q) (fun k hk ih hall => ?_)
    refine x_iload C dX6_oneness_46 rfl ?_
    refine x_iload C dX6_oneness_48 rfl ?_
    refine x_iload C dX6_oneness_50 rfl ?_
    refine x_imul C dX6_oneness_52 ?_
    refine x_icmp_ge (tgt := 120) C dX6_oneness_53 (by decide) (by omega) (fun c53 => ?_) (fun c53 => ?_)
    · refine x_iconst C dX6_oneness_120 ?_
      exact x_iret (st := []) C dX6_oneness_121 rfl (by
  refine ⟨congrArg (fun z => some (zi z)) (zone_1 (hnz hr0) ⟨r, c, hp, hq, fun a b h1 h2 h3 h4 => ?_⟩).symm, rfl, rfl, rfl⟩
  obtain ⟨z, z1, z2, z3, z4⟩ := zij (q := q) (i := a - row) (j := b - col) (by omega) (by omega)
  have z7 := hall z (by omega)
  rw [z2, z3, show row + (a - row) = a by omega, show col + (b - col) = b by omega] at z7
  exact z7)
    · have hd := zdm (N := q) (k := k) (by omega)
      have b1 := he.m (row := row + (k : Int) / q) (col := col + (k : Int) % q) (by omega) (by omega)
      have b2 := he.m (row := row + (k : Int) / q) (col := c) (by omega) (by omega)
      have b3 := he.m (row := r) (col := col + (k : Int) % q) (by omega) (by omega)
      have b4 := he.m (row := r) (col := c) (by omega) (by omega)
      have b5 := zmulM b1 b4
      have b6 := zmulM b2 b3
      refine x_iload_n C dX6_oneness_56 rfl ?_
      refine x_iload C dX6_oneness_57 rfl ?_
      refine x_iload C dX6_oneness_59 rfl ?_
      refine x_idiv C dX6_oneness_61 (by omega) ?_
      refine x_iadd C dX6_oneness_62 ?_
      refine x_istore C dX6_oneness_63 (by decide) ?_
      refine x_iload_n C dX6_oneness_65 rfl ?_
      refine x_iload C dX6_oneness_66 rfl ?_
      refine x_iload C dX6_oneness_68 rfl ?_
      refine x_irem C dX6_oneness_70 (by omega) ?_
      refine x_iadd C dX6_oneness_71 ?_
      refine x_istore C dX6_oneness_72 (by decide) ?_
      refine x_aload_n C dX6_oneness_74 rfl ?_
      refine x_iload_n C dX6_oneness_75 rfl ?_
      refine x_iload C dX6_oneness_76 rfl ?_
      refine x_iload C dX6_oneness_78 rfl ?_
      refine x_callV C dX6_oneness_80 (hget _ _ (by omega) (by omega)) okX6_get lkX6_81 ⟨⟨hM, rfl, rfl⟩, (by omega)⟩ ⟨by decide, rfl, rfl, Nat.le_of_ble_eq_true rfl⟩ rfl (Or.inl ⟨rfl, rfl⟩) ?_
      refine x_i2l C dX6_oneness_83 (by omega) ?_
      refine x_lload C dX6_oneness_84 rfl ?_
      refine x_lmul C dX6_oneness_86 ?_
      refine x_aload_n C dX6_oneness_87 rfl ?_
      refine x_iload_n C dX6_oneness_88 rfl ?_
      refine x_iload C dX6_oneness_89 rfl ?_
      refine x_iload C dX6_oneness_91 rfl ?_
      refine x_callV C dX6_oneness_93 (hget _ _ (by omega) (by omega)) okX6_get lkX6_81 ⟨⟨hM, rfl, rfl⟩, (by omega)⟩ ⟨by decide, rfl, rfl, Nat.le_of_ble_eq_true rfl⟩ rfl (Or.inl ⟨rfl, rfl⟩) ?_
      refine x_i2l C dX6_oneness_96 (by omega) ?_
      refine x_aload_n C dX6_oneness_97 rfl ?_
      refine x_iload_n C dX6_oneness_98 rfl ?_
      refine x_iload C dX6_oneness_99 rfl ?_
      refine x_iload C dX6_oneness_101 rfl ?_
      refine x_callV C dX6_oneness_103 (hget _ _ (by omega) (by omega)) okX6_get lkX6_81 ⟨⟨hM, rfl, rfl⟩, (by omega)⟩ ⟨by decide, rfl, rfl, Nat.le_of_ble_eq_true rfl⟩ rfl (Or.inl ⟨rfl, rfl⟩) ?_
      refine x_i2l C dX6_oneness_106 (by omega) ?_
      refine x_lmul C dX6_oneness_107 ?_
      refine x_lcmp C dX6_oneness_108 (by omega) (fun r108 q108 => ?_)
      refine x_if_eq (tgt := 114) C dX6_oneness_109 (by decide) (by omega) (fun c109 => ?_) (fun c109 => ?_)
      · refine x_iinc C dX6_oneness_114 rfl (by decide) ?_
        refine x_goto (tgt := 46) C dX6_oneness_117 (by decide) ?_
        exact x_wk C rfl (ih (by omega) (fun a ha => by
          by_cases z : a < k
          · exact hall a z
          · rw [show a = k by omega]; omega))
      · refine x_iconst C dX6_oneness_112 ?_
        exact x_iret (st := []) C dX6_oneness_113 rfl ⟨congrArg (fun z => some (zi z)) (zone_0 (hnz hr0) (fun z => by have := huniq z (row + (k : Int) / q) (col + (k : Int) % q) (by omega) (by omega) (by omega) (by omega); omega)).symm, rfl, rfl, rfl⟩
  refine x_aload_n C dX6_oneness_0 rfl ?_
  refine x_iload_n C dX6_oneness_1 rfl ?_
  refine x_iload_n C dX6_oneness_2 rfl ?_
  refine x_iload_n C dX6_oneness_3 rfl ?_
  refine x_iload C dX6_oneness_4 rfl ?_
  refine x_callV C dX6_oneness_6 hR okX6_firstRow lkX6_84 ⟨⟨hM, rfl, rfl⟩, (by omega)⟩ ⟨by decide, rfl, rfl, Nat.le_of_ble_eq_true rfl⟩ rfl (Or.inl ⟨rfl, rfl⟩) ?_
  refine x_istore C dX6_oneness_9 (by decide) ?_
  refine x_aload_n C dX6_oneness_11 rfl ?_
  refine x_iload_n C dX6_oneness_12 rfl ?_
  refine x_iload_n C dX6_oneness_13 rfl ?_
  refine x_iload_n C dX6_oneness_14 rfl ?_
  refine x_iload C dX6_oneness_15 rfl ?_
  refine x_callV C dX6_oneness_17 hC okX6_firstColumn lkX6_87 ⟨⟨hM, rfl, rfl⟩, (by omega)⟩ ⟨by decide, rfl, rfl, Nat.le_of_ble_eq_true rfl⟩ rfl (Or.inl ⟨rfl, rfl⟩) ?_
  refine x_istore C dX6_oneness_20 (by decide) ?_
  refine x_iload C dX6_oneness_22 rfl ?_
  refine x_bipush C dX6_oneness_24 (by decide) ?_
  refine x_icmp_ne (tgt := 31) C dX6_oneness_26 (by decide) (by omega) (fun c26 => ?_) (fun c26 => ?_)
  · have hr0 : 0 ≤ r := by omega
    have hc1 := hc0 hr0
    rw [if_neg (by omega), if_neg (by omega)]
    refine x_aload_n C dX6_oneness_31 rfl ?_
    refine x_iload_n C dX6_oneness_32 rfl ?_
    refine x_iload C dX6_oneness_33 rfl ?_
    refine x_iload C dX6_oneness_35 rfl ?_
    refine x_callV C dX6_oneness_37 (hget _ _ (by omega) (by omega)) okX6_get lkX6_81 ⟨⟨hM, rfl, rfl⟩, (by omega)⟩ ⟨by decide, rfl, rfl, Nat.le_of_ble_eq_true rfl⟩ rfl (Or.inl ⟨rfl, rfl⟩) ?_
    refine x_i2l C dX6_oneness_40 (by have := he.m (row := r) (col := c) (by omega) (by omega); omega) ?_
    refine x_lstore C dX6_oneness_41 (by decide) ?_
    refine x_iconst C dX6_oneness_43 ?_
    refine x_istore C dX6_oneness_44 (by decide) ?_
    exact loop hr0 hc1 0 (by omega) (fun a ha => absurd ha (by omega))
  · refine x_iconst C dX6_oneness_29 ?_
    exact x_iret (st := []) C dX6_oneness_30 rfl ⟨congrArg (fun z => some (zi z)) (zone_2 (hz (by omega))).symm, rfl, rfl, rfl⟩
theorem ctX6_areEmpty (h : isMo σ n S) (hS : isSo S) (m d r c : Int) (hm : 0 ≤ m ∧ m < 4) (hd : 0 ≤ d ∧ d ≤ 2) (hr : 0 ≤ r ∧ r < zp2 d) (hc : 0 ≤ c ∧ c < zp2 d) {b : Bool} (hb : b = true ↔ ∀ k : Nat, k < 4 → zsT S m (zmn (d + 1) (2 * r + (k : Int) / 2) (2 * c + (k : Int) % 2)) = 0) : zCt 3 0 0 yX6_areEmpty cX6_areEmpty 7 (some .boolean) [zr 145, zi m, zi d, zi r, zi c] n σ (some (zi (zb b))) n σ := by
  obtain ⟨⟨um, L, p, wl, lv, br, bc, hM⟩, hS0, hn⟩ := id h
  have hpd := zp2_v (d := d) (by omega)
  have hpd1 := zp2_m (d := d) (j := 1) hd.1 (by decide) (by omega)
  rw [show zp2 1 = 2 from rfl] at hpd1
  refine zCt.of (by decide) rfl (Nat.le_of_ble_eq_true rfl) (fun K C => ?_)
  have loop : ∀ k : Nat, k ≤ 4 → ∀ b1 : Bool, (b1 = true ↔ ∀ a : Nat, a < k → zsT S m (zmn (d + 1) (2 * r + (a : Int) / 2) (2 * c + (a : Int) % 2)) = 0) → K 6 [some (zr 145), some (zi m), some (zi d), some (zi r), some (zi c), some (zi (zb b1)), some (zi (k : Int))] [] n σ 0 := by
    refine zloop _ 4 (fun k hk ih => ?_)
    intro b1 hb1
    refine x_iload C dX6_areEmpty_6 rfl ?_
    refine x_iconst C dX6_areEmpty_8 ?_
    refine x_icmp_ge (tgt := 58) C dX6_areEmpty_9 (by decide) (by omega) (fun c9 => ?_) (fun c9 => ?_)
    · refine x_iload C dX6_areEmpty_58 rfl ?_
      exact x_zret (st := []) C dX6_areEmpty_60 rfl ⟨congrArg (fun z => some (zi (zb z))) (by rw [show k = 4 by omega] at hb1; exact Bool.eq_iff_iff.mpr (hb1.trans hb.symm)), rfl, rfl, rfl⟩
    · refine x_iload C dX6_areEmpty_12 rfl ?_
      refine x_ifeq_b (tgt := 49) C dX6_areEmpty_14 (by decide) (fun c14 => ?_) (fun c14 => ?_)
      · have eF : (false = true ↔ ∀ a : Nat, a < k + 1 → zsT S m (zmn (d + 1) (2 * r + (a : Int) / 2) (2 * c + (a : Int) % 2)) = 0) := ⟨fun z => (by cases z), fun z => (by rw [← c14]; exact hb1.mpr (fun a ha => z a (by omega)))⟩
        refine x_iconst C dX6_areEmpty_49 ?_
        have ih := ih (by omega) _ eF
        refine x_istore C dX6_areEmpty_50 (by decide) ?_
        refine x_iinc C dX6_areEmpty_52 rfl (by decide) ?_
        refine x_goto (tgt := 6) C dX6_areEmpty_55 (by decide) ?_
        exact ih
      · have h1 : 0 ≤ 2 * r + (k : Int) / 2 ∧ 2 * r + (k : Int) / 2 < zp2 (d + 1) := by omega
        have h2 : 0 ≤ 2 * c + (k : Int) % 2 ∧ 2 * c + (k : Int) % 2 < zp2 (d + 1) := by omega
        have h3 := hS.m hm (d := d + 1) (by omega) h1 h2
        refine x_aload_n C dX6_areEmpty_17 rfl ?_
        refine x_iload_n C dX6_areEmpty_18 rfl ?_
        refine x_iload_n C dX6_areEmpty_19 rfl ?_
        refine x_iconst C dX6_areEmpty_20 ?_
        refine x_iadd C dX6_areEmpty_21 ?_
        refine x_iconst C dX6_areEmpty_22 ?_
        refine x_iload_n C dX6_areEmpty_23 rfl ?_
        refine x_imul C dX6_areEmpty_24 ?_
        refine x_iload C dX6_areEmpty_25 rfl ?_
        refine x_iconst C dX6_areEmpty_27 ?_
        refine x_idiv C dX6_areEmpty_28 (by omega) ?_
        refine x_iadd C dX6_areEmpty_29 ?_
        refine x_iconst C dX6_areEmpty_30 ?_
        refine x_iload C dX6_areEmpty_31 rfl ?_
        refine x_imul C dX6_areEmpty_33 ?_
        refine x_iload C dX6_areEmpty_34 rfl ?_
        refine x_iconst C dX6_areEmpty_36 ?_
        refine x_irem C dX6_areEmpty_37 (by omega) ?_
        refine x_iadd C dX6_areEmpty_38 ?_
        refine x_callV C dX6_areEmpty_39 (ctX6_sort h m (d + 1) _ _ hm (by omega) h1 h2) okX6_sort lkX6_59 ⟨⟨hM, rfl, rfl⟩, (by omega)⟩ ⟨by decide, rfl, rfl, Nat.le_of_ble_eq_true rfl⟩ rfl (Or.inl ⟨rfl, rfl⟩) ?_
        refine x_if_ne (tgt := 49) C dX6_areEmpty_42 (by decide) (by omega) (fun c42 => ?_) (fun c42 => ?_)
        · have eF : (false = true ↔ ∀ a : Nat, a < k + 1 → zsT S m (zmn (d + 1) (2 * r + (a : Int) / 2) (2 * c + (a : Int) % 2)) = 0) := ⟨fun z => (by cases z), fun z => absurd (z k (by omega)) c42⟩
          refine x_iconst C dX6_areEmpty_49 ?_
          have ih := ih (by omega) _ eF
          refine x_istore C dX6_areEmpty_50 (by decide) ?_
          refine x_iinc C dX6_areEmpty_52 rfl (by decide) ?_
          refine x_goto (tgt := 6) C dX6_areEmpty_55 (by decide) ?_
          exact ih
        · have eF : (true = true ↔ ∀ a : Nat, a < k + 1 → zsT S m (zmn (d + 1) (2 * r + (a : Int) / 2) (2 * c + (a : Int) % 2)) = 0) := ⟨fun _ a ha => by
            by_cases z : a < k
            · exact hb1.mp c14 a z
            · rw [show a = k by omega]; exact c42, fun _ => rfl⟩
          refine x_iconst C dX6_areEmpty_45 ?_
          refine x_goto (tgt := 50) C dX6_areEmpty_46 (by decide) ?_
          have ih := ih (by omega) _ eF
          refine x_istore C dX6_areEmpty_50 (by decide) ?_
          refine x_iinc C dX6_areEmpty_52 rfl (by decide) ?_
          refine x_goto (tgt := 6) C dX6_areEmpty_55 (by decide) ?_
          exact ih
  refine x_iconst C dX6_areEmpty_0 ?_
  refine x_istore C dX6_areEmpty_1 (by decide) ?_
  refine x_iconst C dX6_areEmpty_3 ?_
  refine x_istore C dX6_areEmpty_4 (by decide) ?_
  exact loop 0 (by omega) true ⟨fun _ a ha => absurd ha (by omega), fun _ => rfl⟩
theorem ctX6_depthAt (h : isMo σ n S) (hS : isSo S) (m row col : Int) (hm : 0 ≤ m ∧ m < 4) (hr : 0 ≤ row ∧ row < 16) (hc : 0 ≤ col ∧ col < 16) (hl : zsT S m (zno 0 row col) = 3 → zsT S m (zno 1 row col) = 3 → zsT S m (zno 2 row col) = 3 → zsT S m (zno 3 row col) ≠ 3) : zCt 3 0 0 yX6_depthAt cX6_depthAt 5 (some .int) [zr 145, zi m, zi row, zi col] n σ (some (zi (zdp (zsT S m) row col))) n σ := by
  obtain ⟨⟨um, L, p, wl, lv, br, bc, hM⟩, hS0, hn⟩ := id h
  have hdv : ∀ (k x : Int), (0 ≤ k ∧ k ≤ 3) → (0 ≤ x ∧ x < 16) → 0 ≤ x / zsz k ∧ x / zsz k < zp2 k := by
    intro k x hk hx
    have h3 : k = 0 ∨ k = 1 ∨ k = 2 ∨ k = 3 := by omega
    rcases h3 with rfl | rfl | rfl | rfl <;> simp [zsz, zp2] <;> omega
  refine zCt.of (by decide) rfl (Nat.le_of_ble_eq_true rfl) (fun K C => ?_)
  have loop : ∀ k : Nat, k ≤ 3 → (∀ a : Nat, a < k → zsT S m (zno a row col) = 3) → K 3 [some (zr 145), some (zi m), some (zi row), some (zi col), some (zi (k : Int))] [] n σ 0 := by
    refine zloop _ 3 (fun k hk ih hall => ?_)
    have hz := zsz_v (d := k) (by omega)
    have h1 := hdv k row (by omega) hr
    have h2 := hdv k col (by omega) hc
    have h3 := hS.m hm (d := k) (by omega) h1 h2
    refine x_aload_n C dX6_depthAt_3 rfl ?_
    refine x_iload_n C dX6_depthAt_4 rfl ?_
    refine x_iload C dX6_depthAt_5 rfl ?_
    refine x_iload_n C dX6_depthAt_7 rfl ?_
    refine x_iload C dX6_depthAt_8 rfl ?_
    refine x_callS C dX6_depthAt_10 (ctX6_sizeAt _ (by omega)) okX6_sizeAt lkX6_67 ⟨by decide, rfl, rfl, Nat.le_of_ble_eq_true rfl⟩ rfl (Or.inl ⟨rfl, rfl⟩) ?_
    refine x_idiv C dX6_depthAt_13 (by omega) ?_
    refine x_iload_n C dX6_depthAt_14 rfl ?_
    refine x_iload C dX6_depthAt_15 rfl ?_
    refine x_callS C dX6_depthAt_17 (ctX6_sizeAt _ (by omega)) okX6_sizeAt lkX6_67 ⟨by decide, rfl, rfl, Nat.le_of_ble_eq_true rfl⟩ rfl (Or.inl ⟨rfl, rfl⟩) ?_
    refine x_idiv C dX6_depthAt_20 (by omega) ?_
    refine x_callV C dX6_depthAt_21 (ctX6_sort h m k _ _ hm (by omega) h1 h2) okX6_sort lkX6_59 ⟨⟨hM, rfl, rfl⟩, (by omega)⟩ ⟨by decide, rfl, rfl, Nat.le_of_ble_eq_true rfl⟩ rfl (Or.inl ⟨rfl, rfl⟩) ?_
    refine x_iconst C dX6_depthAt_24 ?_
    refine x_icmp_ne (tgt := 34) C dX6_depthAt_25 (by decide) (by omega) (fun c25 => ?_) (fun c25 => ?_)
    · refine x_iload C dX6_depthAt_34 rfl ?_
      exact x_iret (st := []) C dX6_depthAt_36 rfl (by
  refine ⟨congrArg (fun z => some (zi z)) ?_, rfl, rfl, rfl⟩
  have c25 : zsT S m (zno k row col) ≠ 3 := c25
  have h4 : k = 0 ∨ k = 1 ∨ k = 2 ∨ k = 3 := by omega
  rcases h4 with rfl | rfl | rfl | rfl
  · exact (if_neg c25).symm
  · exact ((if_pos (hall 0 (by decide))).trans (if_neg c25)).symm
  · exact ((if_pos (hall 0 (by decide))).trans ((if_pos (hall 1 (by decide))).trans (if_neg c25))).symm
  · exact ((if_pos (hall 0 (by decide))).trans ((if_pos (hall 1 (by decide))).trans (if_pos (hall 2 (by decide))))).symm)
    · have c25 : zsT S m (zno k row col) = 3 := c25
      have hk3 : k < 3 := by
        by_cases z : k = 3
        · subst z
          exact absurd c25 (hl (hall 0 (by decide)) (hall 1 (by decide)) (hall 2 (by decide)))
        · omega
      refine x_iinc C dX6_depthAt_28 rfl (by decide) ?_
      refine x_goto (tgt := 3) C dX6_depthAt_31 (by decide) ?_
      exact ih hk3 (fun a ha => by
        by_cases z : a < k
        · exact hall a z
        · rw [show a = k by omega]; exact c25)
  refine x_iconst C dX6_depthAt_0 ?_
  refine x_istore C dX6_depthAt_1 (by decide) ?_
  exact loop 0 (by omega) (fun a ha => absurd ha (by omega))
theorem ctX6_zerosBy (h : isMo σ n S) (m q x : Int) (hm : 0 ≤ m ∧ m < 4) (hq : 0 ≤ q ∧ q < 4) (hx : -99 ≤ x ∧ x ≤ 99) (he : zBe (zsE S m)) (he2 : zBe (zsE S q)) : zCt 2 0 0 yX6_zerosBy cX6_zerosBy 6 (some .int) [zr 145, zi m, zi q, zi x] n σ (some (zi (zzr (zsE S m) (zsE S q) x 256))) n σ := by
  obtain ⟨⟨um, L, p, wl, lv, br, bc, hM⟩, hS0, hn⟩ := id h
  refine zCt.of (by decide) rfl (Nat.le_of_ble_eq_true rfl) (fun K C => ?_)
  have loop : ∀ k : Nat, k ≤ 256 → K 6 [some (zr 145), some (zi m), some (zi q), some (zi x), some (zi (zzr (zsE S m) (zsE S q) x k)), some (zi (k : Int))] [] n σ 0 := by
    refine zloop _ 256 (fun k hk ih => ?_)
    refine x_iload C dX6_zerosBy_6 rfl ?_
    refine x_sipush C dX6_zerosBy_8 (by decide) ?_
    refine x_icmp_ge (tgt := 66) C dX6_zerosBy_11 (by decide) (by omega) (fun c11 => ?_) (fun c11 => ?_)
    · refine x_iload C dX6_zerosBy_66 rfl ?_
      exact x_iret (st := []) C dX6_zerosBy_68 rfl ⟨congrArg (fun z => some (zi z)) (by rw [show k = 256 by omega]), rfl, rfl, rfl⟩
    · have b1 := he (k : Int) (by omega) (by omega)
      have b2 := he2 (k : Int) (by omega) (by omega)
      have e3 : (k : Int) / 16 * 16 + (k : Int) % 16 = k := by omega
      have b3 : -99000000 ≤ x * zsE S q k ∧ x * zsE S q k ≤ 99000000 := by
        have z1 : x.natAbs ≤ 99 := by omega
        have z2 : (zsE S q k).natAbs ≤ 1000000 := by omega
        have z3 : (x * zsE S q k).natAbs ≤ 99 * 1000000 := by
          rw [Int.natAbs_mul]
          exact Nat.mul_le_mul z1 z2
        omega
      refine x_iload C dX6_zerosBy_14 rfl ?_
      refine x_aload_n C dX6_zerosBy_16 rfl ?_
      refine x_iload_n C dX6_zerosBy_17 rfl ?_
      refine x_iload C dX6_zerosBy_18 rfl ?_
      refine x_bipush C dX6_zerosBy_20 (by decide) ?_
      refine x_idiv C dX6_zerosBy_22 (by omega) ?_
      refine x_iload C dX6_zerosBy_23 rfl ?_
      refine x_bipush C dX6_zerosBy_25 (by decide) ?_
      refine x_irem C dX6_zerosBy_27 (by omega) ?_
      refine x_callV C dX6_zerosBy_28 (ctX6_get h m _ _ hm (by omega) (by omega)) okX6_get lkX6_81 ⟨⟨hM, rfl, rfl⟩, (by omega)⟩ ⟨by decide, rfl, rfl, Nat.le_of_ble_eq_true rfl⟩ rfl (Or.inl ⟨rfl, rfl⟩) ?_
      refine x_iload_n C dX6_zerosBy_31 rfl ?_
      refine x_aload_n C dX6_zerosBy_32 rfl ?_
      refine x_iload_n C dX6_zerosBy_33 rfl ?_
      refine x_iload C dX6_zerosBy_34 rfl ?_
      refine x_bipush C dX6_zerosBy_36 (by decide) ?_
      refine x_idiv C dX6_zerosBy_38 (by omega) ?_
      refine x_iload C dX6_zerosBy_39 rfl ?_
      refine x_bipush C dX6_zerosBy_41 (by decide) ?_
      refine x_irem C dX6_zerosBy_43 (by omega) ?_
      refine x_callV C dX6_zerosBy_44 (ctX6_get h q _ _ hq (by omega) (by omega)) okX6_get lkX6_81 ⟨⟨hM, rfl, rfl⟩, (by omega)⟩ ⟨by decide, rfl, rfl, Nat.le_of_ble_eq_true rfl⟩ rfl (Or.inl ⟨rfl, rfl⟩) ?_
      rw [e3]
      refine x_imul C dX6_zerosBy_47 ?_
      refine x_iadd C dX6_zerosBy_48 ?_
      refine x_if_ne (tgt := 56) C dX6_zerosBy_49 (by decide) (by omega) (fun c49 => ?_) (fun c49 => ?_)
      · have eF : zzr (zsE S m) (zsE S q) x (k + 1) = zzr (zsE S m) (zsE S q) x k + _ := congrArg (fun z => zzr (zsE S m) (zsE S q) x k + z) (if_neg c49)
        refine x_iconst C dX6_zerosBy_56 ?_
        have ih := ih (by omega)
        rw [eF] at ih
        refine x_iadd C dX6_zerosBy_57 ?_
        refine x_istore C dX6_zerosBy_58 (by decide) ?_
        refine x_iinc C dX6_zerosBy_60 rfl (by decide) ?_
        refine x_goto (tgt := 6) C dX6_zerosBy_63 (by decide) ?_
        exact ih
      · have eF : zzr (zsE S m) (zsE S q) x (k + 1) = zzr (zsE S m) (zsE S q) x k + _ := congrArg (fun z => zzr (zsE S m) (zsE S q) x k + z) (if_pos c49)
        refine x_iconst C dX6_zerosBy_52 ?_
        refine x_goto (tgt := 57) C dX6_zerosBy_53 (by decide) ?_
        have ih := ih (by omega)
        rw [eF] at ih
        refine x_iadd C dX6_zerosBy_57 ?_
        refine x_istore C dX6_zerosBy_58 (by decide) ?_
        refine x_iinc C dX6_zerosBy_60 rfl (by decide) ?_
        refine x_goto (tgt := 6) C dX6_zerosBy_63 (by decide) ?_
        exact ih
  refine x_iconst C dX6_zerosBy_0 ?_
  refine x_istore C dX6_zerosBy_1 (by decide) ?_
  refine x_iconst C dX6_zerosBy_3 ?_
  refine x_istore C dX6_zerosBy_4 (by decide) ?_
  exact loop 0 (by omega)
end
