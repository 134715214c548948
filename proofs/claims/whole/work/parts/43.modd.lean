/-- one block of overBlocks -/
def zob (t : Int → Int) (w n d r c : Int) : Int := if w = 1 then (if zvis t d r c = true then d else n) else n + (if zvis t d r c = true ∧ t (zmn d r c) = w - 2 then 1 else 0)
def zobI (t : Int → Int) (w d N n : Int) : Nat → Int := zfo (fun n k => zob t w n d (k / N) (k % N)) n
def zobF (t : Int → Int) (w : Int) : Nat → Int := zfo (fun n d => zobI t w d (zp2 d) n (zp2 d * zp2 d).toNat) 0
def zow (e : Int → Int) : Nat → Bool
  | 0 => true
  | k + 1 => zow e k && decide (e k = e ((k : Int) % 16 * 16 + (k : Int) / 16))
def zmos (e : Int → Int) : Nat → Int := zfo (fun y k => if y < e k then e k else y) (-1000000)
def zlea (e : Int → Int) : Nat → Int := zfo (fun y k => if e k < y then e k else y) 1000000
def zoeq (e : Int → Int) (w : Int) : Int := if w = 6 then zsm (fun k => if e k ≠ 0 then 1 else 0) 256 else if w = 8 then zmos e 256 + 1000000 else if w = 9 then zlea e 256 + 1000000 else zb (zow e 256)
theorem zmos_in {e : Int → Int} (he : zBe e) : ∀ k : Nat, k ≤ 256 → -1000000 ≤ zmos e k ∧ zmos e k ≤ 1000000
  | 0, _ => (by decide : -1000000 ≤ (-1000000 : Int) ∧ (-1000000 : Int) ≤ 1000000)
  | k + 1, hk => by
    have ih := zmos_in he k (by omega)
    have h1 := he k (by omega) (by omega)
    rw [show zmos e (k + 1) = if zmos e k < e k then e k else zmos e k from rfl]
    split <;> omega
theorem zlea_in {e : Int → Int} (he : zBe e) : ∀ k : Nat, k ≤ 256 → -1000000 ≤ zlea e k ∧ zlea e k ≤ 1000000
  | 0, _ => (by decide : -1000000 ≤ (1000000 : Int) ∧ (1000000 : Int) ≤ 1000000)
  | k + 1, hk => by
    have ih := zlea_in he k (by omega)
    have h1 := he k (by omega) (by omega)
    rw [show zlea e (k + 1) = if e k < zlea e k then e k else zlea e k from rfl]
    split <;> omega
section
variable {n : Nat} {σ : zS} {S : Int → Int}
theorem ctX6_overBlocks (h : isMo σ n S) (hS : isSo S) (m w : Int) (hm : 0 ≤ m ∧ m < 4) (hw : 1 ≤ w ∧ w ≤ 5) : zCt 4 0 0 yX6_overBlocks cX6_overBlocks 8 (some .int) [zr 145, zi m, zi w] n σ (some (zi (zobF (zsT S m) w 4))) n σ := by
  obtain ⟨⟨um, L, p, wl, lv, br, bc, hM⟩, hS0, hn⟩ := id h
  refine zCt.of (by decide) rfl (Nat.le_of_ble_eq_true rfl) (fun K C => ?_)
  have loop : ∀ j : Nat, j ≤ 4 → K 5 [some (zr 145), some (zi m), some (zi w), some (zi (zobF (zsT S m) w j)), some (zi (j : Int)), none, none, none] [] n σ 0 := by
    refine zloop _ 4 (fun j hj ihj => ?_)
    have inner : (j : Int) ≤ 3 → ∀ N : Nat, zp2 j = N → ∀ k : Nat, k ≤ N * N → K 20 [some (zr 145), some (zi m), some (zi w), some (zi (zobI (zsT S m) w j N (zobF (zsT S m) w j) k)), some (zi (j : Int)), some (zi (N : Int)), some (zi (k : Int)), none] [] n σ 0 := by
      intro hb N hN
      have hN8 : 1 ≤ N ∧ N ≤ 8 := by have := zp2_v (d := j) (by omega); omega
      have hNN : N * N ≤ 64 := Nat.mul_le_mul hN8.2 hN8.2
      refine zloop _ (N * N) (fun k hk ih => ?_)
      have hcast : ((N * N : Nat) : Int) = (N : Int) * N := Int.natCast_mul N N
      generalize hacc : zobI (zsT S m) w j N (zobF (zsT S m) w j) k = acc at ih ⊢
      refine x_iload C dX6_overBlocks_20 rfl ?_
      refine x_iload C dX6_overBlocks_22 rfl ?_
      refine x_iload C dX6_overBlocks_24 rfl ?_
      refine x_imul C dX6_overBlocks_26 ?_
      refine x_icmp_ge (tgt := 110) C dX6_overBlocks_27 (by decide) (by omega) (fun c27 => ?_) (fun c27 => ?_)
      · obtain rfl : k = N * N := by omega
        have ihj := ihj (by omega)
        rw [show zobF (zsT S m) w (j + 1) = zobI (zsT S m) w j (zp2 j) (zobF (zsT S m) w j) (zp2 j * zp2 j).toNat from rfl, hN, show ((N : Int) * N).toNat = N * N by rw [← hcast]; rfl, hacc] at ihj
        refine x_iinc C dX6_overBlocks_110 rfl (by decide) ?_
        refine x_goto (tgt := 5) C dX6_overBlocks_113 (by decide) ?_
        exact x_wk C rfl ihj
      · have hq := zdm (N := N) (k := k) (by omega)
        rw [← hN] at hq
        have q3 := hS.m hm (d := j) (by omega) hq.1 hq.2
        rw [hN] at q3
        refine x_aload_n C dX6_overBlocks_30 rfl ?_
        refine x_iload_n C dX6_overBlocks_31 rfl ?_
        refine x_iload C dX6_overBlocks_32 rfl ?_
        refine x_iload C dX6_overBlocks_34 rfl ?_
        refine x_iload C dX6_overBlocks_36 rfl ?_
        refine x_idiv C dX6_overBlocks_38 (by omega) ?_
        refine x_iload C dX6_overBlocks_39 rfl ?_
        refine x_iload C dX6_overBlocks_41 rfl ?_
        refine x_irem C dX6_overBlocks_43 (by omega) ?_
        refine x_callV C dX6_overBlocks_44 (ctX6_isThere h hS m j _ _ hm (by omega) (by rw [← hN]; exact hq.1) (by rw [← hN]; exact hq.2)) okX6_isThere lkX6_63 ⟨⟨hM, rfl, rfl⟩, (by omega)⟩ ⟨by decide, rfl, rfl, Nat.le_of_ble_eq_true rfl⟩ rfl (Or.inl ⟨rfl, rfl⟩) ?_
        refine x_istore C dX6_overBlocks_47 (by decide) ?_
        refine x_iload_n C dX6_overBlocks_49 rfl ?_
        refine x_iconst C dX6_overBlocks_50 ?_
        refine x_icmp_ne (tgt := 68) C dX6_overBlocks_51 (by decide) (by omega) (fun c51 => ?_) (fun c51 => ?_)
        · refine x_iload_n C dX6_overBlocks_68 rfl ?_
          refine x_iload C dX6_overBlocks_69 rfl ?_
          refine x_ifeq_b (tgt := 101) C dX6_overBlocks_71 (by decide) (fun c71 => ?_) (fun c71 => ?_)
          · have eF : zobI (zsT S m) w j N (zobF (zsT S m) w j) (k + 1) = acc + 0 := by
              rw [show zobI (zsT S m) w j N (zobF (zsT S m) w j) (k + 1) = zob (zsT S m) w (zobI (zsT S m) w j N (zobF (zsT S m) w j) k) j ((k : Int) / N) ((k : Int) % N) from rfl, zob, if_neg (by omega), if_neg (by rw [c71]; exact fun z => by cases z.1), hacc]
            refine x_iconst C dX6_overBlocks_101 ?_
            have ih := ih (by omega)
            rw [eF] at ih
            refine x_iadd C dX6_overBlocks_102 ?_
            refine x_istore_n C dX6_overBlocks_103 (by decide) ?_
            refine x_iinc C dX6_overBlocks_104 rfl (by decide) ?_
            refine x_goto (tgt := 20) C dX6_overBlocks_107 (by decide) ?_
            exact x_wk C rfl ih
          · refine x_aload_n C dX6_overBlocks_74 rfl ?_
            refine x_iload_n C dX6_overBlocks_75 rfl ?_
            refine x_iload C dX6_overBlocks_76 rfl ?_
            refine x_iload C dX6_overBlocks_78 rfl ?_
            refine x_iload C dX6_overBlocks_80 rfl ?_
            refine x_idiv C dX6_overBlocks_82 (by omega) ?_
            refine x_iload C dX6_overBlocks_83 rfl ?_
            refine x_iload C dX6_overBlocks_85 rfl ?_
            refine x_irem C dX6_overBlocks_87 (by omega) ?_
            refine x_callV C dX6_overBlocks_88 (ctX6_sort h m j _ _ hm (by omega) (by rw [← hN]; exact hq.1) (by rw [← hN]; exact hq.2)) okX6_sort lkX6_59 ⟨⟨hM, rfl, rfl⟩, (by omega)⟩ ⟨by decide, rfl, rfl, Nat.le_of_ble_eq_true rfl⟩ rfl (Or.inl ⟨rfl, rfl⟩) ?_
            refine x_iload_n C dX6_overBlocks_91 rfl ?_
            refine x_iconst C dX6_overBlocks_92 ?_
            refine x_isub C dX6_overBlocks_93 ?_
            refine x_icmp_ne (tgt := 101) C dX6_overBlocks_94 (by decide) (by omega) (fun c94 => ?_) (fun c94 => ?_)
            · have eF : zobI (zsT S m) w j N (zobF (zsT S m) w j) (k + 1) = acc + 0 := by
                rw [show zobI (zsT S m) w j N (zobF (zsT S m) w j) (k + 1) = zob (zsT S m) w (zobI (zsT S m) w j N (zobF (zsT S m) w j) k) j ((k : Int) / N) ((k : Int) % N) from rfl, zob, if_neg (by omega), if_neg (fun z => c94 z.2), hacc]
              refine x_iconst C dX6_overBlocks_101 ?_
              have ih := ih (by omega)
              rw [eF] at ih
              refine x_iadd C dX6_overBlocks_102 ?_
              refine x_istore_n C dX6_overBlocks_103 (by decide) ?_
              refine x_iinc C dX6_overBlocks_104 rfl (by decide) ?_
              refine x_goto (tgt := 20) C dX6_overBlocks_107 (by decide) ?_
              exact x_wk C rfl ih
            · have eF : zobI (zsT S m) w j N (zobF (zsT S m) w j) (k + 1) = acc + 1 := by
                rw [show zobI (zsT S m) w j N (zobF (zsT S m) w j) (k + 1) = zob (zsT S m) w (zobI (zsT S m) w j N (zobF (zsT S m) w j) k) j ((k : Int) / N) ((k : Int) % N) from rfl, zob, if_neg (by omega), if_pos ⟨c71, c94⟩, hacc]
              refine x_iconst C dX6_overBlocks_97 ?_
              refine x_goto (tgt := 102) C dX6_overBlocks_98 (by decide) ?_
              have ih := ih (by omega)
              rw [eF] at ih
              refine x_iadd C dX6_overBlocks_102 ?_
              refine x_istore_n C dX6_overBlocks_103 (by decide) ?_
              refine x_iinc C dX6_overBlocks_104 rfl (by decide) ?_
              refine x_goto (tgt := 20) C dX6_overBlocks_107 (by decide) ?_
              exact x_wk C rfl ih
        · refine x_iload C dX6_overBlocks_54 rfl ?_
          refine x_ifeq_b (tgt := 64) C dX6_overBlocks_56 (by decide) (fun c56 => ?_) (fun c56 => ?_)
          · have eF : zobI (zsT S m) w j N (zobF (zsT S m) w j) (k + 1) = acc := by
              rw [show zobI (zsT S m) w j N (zobF (zsT S m) w j) (k + 1) = zob (zsT S m) w (zobI (zsT S m) w j N (zobF (zsT S m) w j) k) j ((k : Int) / N) ((k : Int) % N) from rfl, zob, if_pos (by omega), if_neg (by rw [c56]; decide), hacc]
            refine x_iload_n C dX6_overBlocks_64 rfl ?_
            refine x_goto (tgt := 103) C dX6_overBlocks_65 (by decide) ?_
            have ih := ih (by omega)
            rw [eF] at ih
            refine x_istore_n C dX6_overBlocks_103 (by decide) ?_
            refine x_iinc C dX6_overBlocks_104 rfl (by decide) ?_
            refine x_goto (tgt := 20) C dX6_overBlocks_107 (by decide) ?_
            exact x_wk C rfl ih
          · have eF : zobI (zsT S m) w j N (zobF (zsT S m) w j) (k + 1) = j := by
              rw [show zobI (zsT S m) w j N (zobF (zsT S m) w j) (k + 1) = zob (zsT S m) w (zobI (zsT S m) w j N (zobF (zsT S m) w j) k) j ((k : Int) / N) ((k : Int) % N) from rfl, zob, if_pos (by omega), if_pos c56]
            refine x_iload C dX6_overBlocks_59 rfl ?_
            refine x_goto (tgt := 103) C dX6_overBlocks_61 (by decide) ?_
            have ih := ih (by omega)
            rw [eF] at ih
            refine x_istore_n C dX6_overBlocks_103 (by decide) ?_
            refine x_iinc C dX6_overBlocks_104 rfl (by decide) ?_
            refine x_goto (tgt := 20) C dX6_overBlocks_107 (by decide) ?_
            exact x_wk C rfl ih
    refine x_iload C dX6_overBlocks_5 rfl ?_
    refine x_iconst C dX6_overBlocks_7 ?_
    refine x_icmp_ge (tgt := 116) C dX6_overBlocks_8 (by decide) (by omega) (fun c8 => ?_) (fun c8 => ?_)
    · refine x_iload_n C dX6_overBlocks_116 rfl ?_
      exact x_iret (st := []) C dX6_overBlocks_117 rfl ⟨congrArg (fun z => some (zi z)) (by rw [show j = 4 by omega]), rfl, rfl, rfl⟩
    · refine x_iconst C dX6_overBlocks_11 ?_
      refine x_iload C dX6_overBlocks_12 rfl ?_
      refine x_ishl C dX6_overBlocks_14 (by omega) ?_
      obtain ⟨N, hN, -⟩ := zp2N (d := j) (by omega)
      rw [show (1 : Int) * 2 ^ (j : Int).toNat = N by rw [zp2_e (by omega), hN]; omega]
      refine x_istore C dX6_overBlocks_15 (by decide) ?_
      refine x_iconst C dX6_overBlocks_17 ?_
      refine x_istore C dX6_overBlocks_18 (by decide) ?_
      exact inner (by omega) N hN 0 (by omega)
  refine x_iconst C dX6_overBlocks_0 ?_
  refine x_istore_n C dX6_overBlocks_1 (by decide) ?_
  refine x_iconst C dX6_overBlocks_2 ?_
  refine x_istore C dX6_overBlocks_3 (by decide) ?_
  exact loop 0 (by omega)
theorem ctX6_overEntries (h : isMo σ n S) (m w : Int) (hm : 0 ≤ m ∧ m < 4) (he : zBe (zsE S m)) (hw : 0 ≤ w ∧ w ≤ 10) : zCt 2 0 0 yX6_overEntries cX6_overEntries 9 (some .int) [zr 145, zi m, zi w] n σ (some (zi (zoeq (zsE S m) w))) n σ := by
  obtain ⟨⟨um, L, p, wl, lv, br, bc, hM⟩, hS0, hn⟩ := id h
  have hget : ∀ i j : Int, (0 ≤ i ∧ i < 16) → (0 ≤ j ∧ j < 16) → zCt 1 0 0 yX6_get cX6_get 4 (some .int) [zr 145, zi m, zi i, zi j] n σ (some (zi (zsE S m (i * 16 + j)))) n σ := fun i j hi hj => ctX6_get h m i j hm hi hj
  generalize zsE S m = e at *
  refine zCt.of (by decide) rfl (Nat.le_of_ble_eq_true rfl) (fun K C => ?_)
  have loop : ∀ k : Nat, k ≤ 256 → K 16 [some (zr 145), some (zi m), some (zi w), some (zi (zsm (fun k => if e k ≠ 0 then 1 else 0) k)), some (zi (zmos e k)), some (zi (zlea e k)), some (zi (zb (zow e k))), some (zi (k : Int)), none] [] n σ 0 := by
    refine zloop _ 256 (fun k hk ih => ?_)
    have h1 := zmos_in he k hk
    have h2 := zlea_in he k hk
    generalize hA : zmos e k = A at *
    generalize hB : zlea e k = B at *
    generalize hN : zsm (fun k => if e k ≠ 0 then 1 else 0) k = N at *
    generalize hW : zow e k = W at *
    have back : k < 256 → ∀ (N2 A2 B2 : Int) (W2 : Bool), zsm (fun k => if e k ≠ 0 then 1 else 0) (k + 1) = N2 → zmos e (k + 1) = A2 → zlea e (k + 1) = B2 → zow e (k + 1) = W2 → K 116 [some (zr 145), some (zi m), some (zi w), some (zi N2), some (zi A2), some (zi B2), some (zi (zb W)), some (zi (k : Int)), some (zi (e k))] [zi (zb W2)] n σ 0 := by
      intro hk2 N2 A2 B2 W2 f1 f2 f3 f4
      have ih := ih hk2
      rw [f1, f2, f3, f4] at ih
      refine x_istore C dX6_overEntries_116 (by decide) ?_
      refine x_iinc C dX6_overEntries_118 rfl (by decide) ?_
      refine x_goto (tgt := 16) C dX6_overEntries_121 (by decide) ?_
      exact x_wk C rfl ih
    have part4 : k < 256 → ∀ (N2 A2 B2 : Int), zsm (fun k => if e k ≠ 0 then 1 else 0) (k + 1) = N2 → zmos e (k + 1) = A2 → zlea e (k + 1) = B2 → K 86 [some (zr 145), some (zi m), some (zi w), some (zi N2), some (zi A2), some (zi B2), some (zi (zb W)), some (zi (k : Int)), some (zi (e k))] [] n σ 0 := by
      intro hk2 N2 A2 B2 f1 f2 f3
      have b1 := he k (by omega) (by omega)
      have b2 := he ((k : Int) % 16 * 16 + (k : Int) / 16) (by omega) (by omega)
      refine x_iload C dX6_overEntries_86 rfl ?_
      refine x_ifeq_b (tgt := 115) C dX6_overEntries_88 (by decide) (fun c88 => ?_) (fun c88 => ?_)
      · have f4 : zow e (k + 1) = false := by rw [zow, hW, c88]; rfl
        refine x_iconst C dX6_overEntries_115 ?_
        exact back hk2 _ _ _ _ f1 f2 f3 f4
      · refine x_iload C dX6_overEntries_91 rfl ?_
        refine x_aload_n C dX6_overEntries_93 rfl ?_
        refine x_iload_n C dX6_overEntries_94 rfl ?_
        refine x_iload C dX6_overEntries_95 rfl ?_
        refine x_bipush C dX6_overEntries_97 (by decide) ?_
        refine x_irem C dX6_overEntries_99 (by omega) ?_
        refine x_iload C dX6_overEntries_100 rfl ?_
        refine x_bipush C dX6_overEntries_102 (by decide) ?_
        refine x_idiv C dX6_overEntries_104 (by omega) ?_
        refine x_callV C dX6_overEntries_105 (hget _ _ (by omega) (by omega)) okX6_get lkX6_81 ⟨⟨hM, rfl, rfl⟩, (by omega)⟩ ⟨by decide, rfl, rfl, Nat.le_of_ble_eq_true rfl⟩ rfl (Or.inl ⟨rfl, rfl⟩) ?_
        refine x_icmp_ne (tgt := 115) C dX6_overEntries_108 (by decide) (by omega) (fun c108 => ?_) (fun c108 => ?_)
        · have f4 : zow e (k + 1) = false := by rw [zow, hW, c88, decide_eq_false c108]; rfl
          refine x_iconst C dX6_overEntries_115 ?_
          exact back hk2 _ _ _ _ f1 f2 f3 f4
        · have f4 : zow e (k + 1) = true := by rw [zow, hW, c88, decide_eq_true c108]; rfl
          refine x_iconst C dX6_overEntries_111 ?_
          refine x_goto (tgt := 116) C dX6_overEntries_112 (by decide) ?_
          exact back hk2 _ _ _ _ f1 f2 f3 f4
    have part3 : k < 256 → ∀ (N2 A2 : Int), zsm (fun k => if e k ≠ 0 then 1 else 0) (k + 1) = N2 → zmos e (k + 1) = A2 → K 70 [some (zr 145), some (zi m), some (zi w), some (zi N2), some (zi A2), some (zi B), some (zi (zb W)), some (zi (k : Int)), some (zi (e k))] [] n σ 0 := by
      intro hk2 N2 A2 f1 f2
      have b1 := he k (by omega) (by omega)
      have f0 : zlea e (k + 1) = if e k < B then e k else B := by rw [← hB]; rfl
      refine x_iload C dX6_overEntries_70 rfl ?_
      refine x_iload C dX6_overEntries_72 rfl ?_
      refine x_icmp_ge (tgt := 82) C dX6_overEntries_74 (by decide) (by omega) (fun c74 => ?_) (fun c74 => ?_)
      · have f3 := f0.trans (if_neg (by omega))
        refine x_iload C dX6_overEntries_82 rfl ?_
        refine x_istore C dX6_overEntries_84 (by decide) ?_
        exact part4 hk2 _ _ _ f1 f2 f3
      · have f3 := f0.trans (if_pos (by omega))
        refine x_iload C dX6_overEntries_77 rfl ?_
        refine x_goto (tgt := 84) C dX6_overEntries_79 (by decide) ?_
        refine x_istore C dX6_overEntries_84 (by decide) ?_
        exact part4 hk2 _ _ _ f1 f2 f3
    have part2 : k < 256 → ∀ (N2 : Int), zsm (fun k => if e k ≠ 0 then 1 else 0) (k + 1) = N2 → K 54 [some (zr 145), some (zi m), some (zi w), some (zi N2), some (zi A), some (zi B), some (zi (zb W)), some (zi (k : Int)), some (zi (e k))] [] n σ 0 := by
      intro hk2 N2 f1
      have b1 := he k (by omega) (by omega)
      have f0 : zmos e (k + 1) = if A < e k then e k else A := by rw [← hA]; rfl
      refine x_iload C dX6_overEntries_54 rfl ?_
      refine x_iload C dX6_overEntries_56 rfl ?_
      refine x_icmp_le (tgt := 66) C dX6_overEntries_58 (by decide) (by omega) (fun c58 => ?_) (fun c58 => ?_)
      · have f2 := f0.trans (if_neg (by omega))
        refine x_iload C dX6_overEntries_66 rfl ?_
        refine x_istore C dX6_overEntries_68 (by decide) ?_
        exact part3 hk2 _ _ f1 f2
      · have f2 := f0.trans (if_pos (by omega))
        refine x_iload C dX6_overEntries_61 rfl ?_
        refine x_goto (tgt := 68) C dX6_overEntries_63 (by decide) ?_
        refine x_istore C dX6_overEntries_68 (by decide) ?_
        exact part3 hk2 _ _ f1 f2
    refine x_iload C dX6_overEntries_16 rfl ?_
    refine x_sipush C dX6_overEntries_18 (by decide) ?_
    refine x_icmp_ge (tgt := 124) C dX6_overEntries_21 (by decide) (by omega) (fun c21 => ?_) (fun c21 => ?_)
    · refine x_iload_n C dX6_overEntries_124 rfl ?_
      refine x_bipush C dX6_overEntries_125 (by decide) ?_
      refine x_icmp_ne (tgt := 134) C dX6_overEntries_127 (by decide) (by omega) (fun c127 => ?_) (fun c127 => ?_)
      · refine x_iload_n C dX6_overEntries_134 rfl ?_
        refine x_bipush C dX6_overEntries_135 (by decide) ?_
        refine x_icmp_ne (tgt := 148) C dX6_overEntries_137 (by decide) (by omega) (fun c137 => ?_) (fun c137 => ?_)
        · refine x_iload_n C dX6_overEntries_148 rfl ?_
          refine x_bipush C dX6_overEntries_149 (by decide) ?_
          refine x_icmp_ne (tgt := 162) C dX6_overEntries_151 (by decide) (by omega) (fun c151 => ?_) (fun c151 => ?_)
          · refine x_iload C dX6_overEntries_162 rfl ?_
            refine x_ifeq_b (tgt := 171) C dX6_overEntries_164 (by decide) (fun c164 => ?_) (fun c164 => ?_)
            · refine x_iconst C dX6_overEntries_171 ?_
              exact x_iret (st := []) C dX6_overEntries_172 rfl ⟨congrArg (fun z => some (zi z)) (by
  obtain rfl : k = 256 := by omega
  unfold zoeq
  first | rw [if_pos (by omega), hN] | rw [if_neg (by omega), if_pos (by omega), hA] | rw [if_neg (by omega), if_neg (by omega), if_pos (by omega), hB] | rw [if_neg (by omega), if_neg (by omega), if_neg (by omega), hW, c164]; rfl), rfl, rfl, rfl⟩
            · refine x_iconst C dX6_overEntries_167 ?_
              refine x_goto (tgt := 172) C dX6_overEntries_168 (by decide) ?_
              exact x_iret (st := []) C dX6_overEntries_172 rfl ⟨congrArg (fun z => some (zi z)) (by
  obtain rfl : k = 256 := by omega
  unfold zoeq
  first | rw [if_pos (by omega), hN] | rw [if_neg (by omega), if_pos (by omega), hA] | rw [if_neg (by omega), if_neg (by omega), if_pos (by omega), hB] | rw [if_neg (by omega), if_neg (by omega), if_neg (by omega), hW, c164]; rfl), rfl, rfl, rfl⟩
          · refine x_iload C dX6_overEntries_154 rfl ?_
            refine x_ldc (v := 1000000) C dX6_overEntries_156 kcX6_123 (by decide) ?_
            refine x_iadd C dX6_overEntries_158 ?_
            refine x_goto (tgt := 172) C dX6_overEntries_159 (by decide) ?_
            exact x_iret (st := []) C dX6_overEntries_172 rfl ⟨congrArg (fun z => some (zi z)) (by
  obtain rfl : k = 256 := by omega
  unfold zoeq
  first | rw [if_pos (by omega), hN] | rw [if_neg (by omega), if_pos (by omega), hA] | rw [if_neg (by omega), if_neg (by omega), if_pos (by omega), hB] | rw [if_neg (by omega), if_neg (by omega), if_neg (by omega), hW, c164]; rfl), rfl, rfl, rfl⟩
        · refine x_iload C dX6_overEntries_140 rfl ?_
          refine x_ldc (v := 1000000) C dX6_overEntries_142 kcX6_123 (by decide) ?_
          refine x_iadd C dX6_overEntries_144 ?_
          refine x_goto (tgt := 172) C dX6_overEntries_145 (by decide) ?_
          exact x_iret (st := []) C dX6_overEntries_172 rfl ⟨congrArg (fun z => some (zi z)) (by
  obtain rfl : k = 256 := by omega
  unfold zoeq
  first | rw [if_pos (by omega), hN] | rw [if_neg (by omega), if_pos (by omega), hA] | rw [if_neg (by omega), if_neg (by omega), if_pos (by omega), hB] | rw [if_neg (by omega), if_neg (by omega), if_neg (by omega), hW, c164]; rfl), rfl, rfl, rfl⟩
      · refine x_iload_n C dX6_overEntries_130 rfl ?_
        refine x_goto (tgt := 172) C dX6_overEntries_131 (by decide) ?_
        exact x_iret (st := []) C dX6_overEntries_172 rfl ⟨congrArg (fun z => some (zi z)) (by
  obtain rfl : k = 256 := by omega
  unfold zoeq
  first | rw [if_pos (by omega), hN] | rw [if_neg (by omega), if_pos (by omega), hA] | rw [if_neg (by omega), if_neg (by omega), if_pos (by omega), hB] | rw [if_neg (by omega), if_neg (by omega), if_neg (by omega), hW, c164]; rfl), rfl, rfl, rfl⟩
    · have b1 := he k (by omega) (by omega)
      have e3 : (k : Int) / 16 * 16 + (k : Int) % 16 = k := by omega
      have f0 : zsm (fun k => if e k ≠ 0 then 1 else 0) (k + 1) = N + (if e k ≠ 0 then 1 else 0) := by rw [← hN]; rfl
      refine x_aload_n C dX6_overEntries_24 rfl ?_
      refine x_iload_n C dX6_overEntries_25 rfl ?_
      refine x_iload C dX6_overEntries_26 rfl ?_
      refine x_bipush C dX6_overEntries_28 (by decide) ?_
      refine x_idiv C dX6_overEntries_30 (by omega) ?_
      refine x_iload C dX6_overEntries_31 rfl ?_
      refine x_bipush C dX6_overEntries_33 (by decide) ?_
      refine x_irem C dX6_overEntries_35 (by omega) ?_
      refine x_callV C dX6_overEntries_36 (hget _ _ (by omega) (by omega)) okX6_get lkX6_81 ⟨⟨hM, rfl, rfl⟩, (by omega)⟩ ⟨by decide, rfl, rfl, Nat.le_of_ble_eq_true rfl⟩ rfl (Or.inl ⟨rfl, rfl⟩) ?_
      rw [e3]
      refine x_istore C dX6_overEntries_39 (by decide) ?_
      refine x_iload_n C dX6_overEntries_41 rfl ?_
      refine x_iload C dX6_overEntries_42 rfl ?_
      refine x_if_eq (tgt := 51) C dX6_overEntries_44 (by decide) (by omega) (fun c44 => ?_) (fun c44 => ?_)
      · have f1 := f0.trans (congrArg (fun z => N + z) (if_neg (by omega)))
        refine x_iconst C dX6_overEntries_51 ?_
        refine x_iadd C dX6_overEntries_52 ?_
        refine x_istore_n C dX6_overEntries_53 (by decide) ?_
        exact part2 (by omega) _ f1
      · have f1 := f0.trans (congrArg (fun z => N + z) (if_pos c44))
        refine x_iconst C dX6_overEntries_47 ?_
        refine x_goto (tgt := 52) C dX6_overEntries_48 (by decide) ?_
        refine x_iadd C dX6_overEntries_52 ?_
        refine x_istore_n C dX6_overEntries_53 (by decide) ?_
        exact part2 (by omega) _ f1
  refine x_iconst C dX6_overEntries_0 ?_
  refine x_istore_n C dX6_overEntries_1 (by decide) ?_
  refine x_ldc (v := -1000000) C dX6_overEntries_2 kcX6_122 (by decide) ?_
  refine x_istore C dX6_overEntries_4 (by decide) ?_
  refine x_ldc (v := 1000000) C dX6_overEntries_6 kcX6_123 (by decide) ?_
  refine x_istore C dX6_overEntries_8 (by decide) ?_
  refine x_iconst C dX6_overEntries_10 ?_
  refine x_istore C dX6_overEntries_11 (by decide) ?_
  refine x_iconst C dX6_overEntries_13 ?_
  refine x_istore C dX6_overEntries_14 (by decide) ?_
  exact loop 0 (by omega)
end
