theorem zmn_inj {d r c d2 r2 c2 : Int} (hd : 0 ≤ d ∧ d ≤ 3) (hr : 0 ≤ r ∧ r < zp2 d) (hc : 0 ≤ c ∧ c < zp2 d) (hd2 : 0 ≤ d2 ∧ d2 ≤ 3) (hr2 : 0 ≤ r2 ∧ r2 < zp2 d2) (hc2 : 0 ≤ c2 ∧ c2 < zp2 d2) (h : zmn d r c = zmn d2 r2 c2) : d = d2 ∧ r = r2 ∧ c = c2 := by
  have h3 : d = 0 ∨ d = 1 ∨ d = 2 ∨ d = 3 := by omega
  have h4 : d2 = 0 ∨ d2 = 1 ∨ d2 = 2 ∨ d2 = 3 := by omega
  rcases h3 with rfl | rfl | rfl | rfl <;> rcases h4 with rfl | rfl | rfl | rfl <;> simp [zp2, zmn] at * <;> omega
theorem zvis_s (t : Int → Int) {d r c : Int} {k : Int} (hd : 0 ≤ d ∧ d ≤ 2) (hk : 0 ≤ k ∧ k < 4) : zvis t (d + 1) (2 * r + k / 2) (2 * c + k % 2) = (zvis t d r c && decide (t (zmn d r c) = 3)) := by
  have e1 : ∀ x y : Int, (2 * x + y) / 2 = x + y / 2 := by omega
  have h3 : d = 0 ∨ d = 1 ∨ d = 2 := by omega
  have f0 : k / 2 / 2 = 0 := by omega
  have f1 : k % 2 / 2 = 0 := by omega
  have a1 : (2 * r + k / 2) / 2 = r := by omega
  have a2 : (2 * c + k % 2) / 2 = c := by omega
  have b1 : (2 * r + k / 2) / 4 = r / 2 := by omega
  have b2 : (2 * c + k % 2) / 4 = c / 2 := by omega
  have d1 : (2 * r + k / 2) / 8 = r / 4 := by omega
  have d2 : (2 * c + k % 2) / 8 = c / 4 := by omega
  rcases h3 with rfl | rfl | rfl
  · show (true && decide (t (zmn 0 ((2 * r + k / 2) / 2) ((2 * c + k % 2) / 2)) = 3)) = (true && decide (t (zmn 0 r c) = 3))
    rw [a1, a2]
  · show ((true && decide (t (zmn 0 ((2 * r + k / 2) / 4) ((2 * c + k % 2) / 4)) = 3)) && decide (t (zmn 1 ((2 * r + k / 2) / 2) ((2 * c + k % 2) / 2)) = 3)) = ((true && decide (t (zmn 0 (r / 2) (c / 2)) = 3)) && decide (t (zmn 1 r c) = 3))
    rw [a1, a2, b1, b2]
  · show (((true && decide (t (zmn 0 ((2 * r + k / 2) / 8) ((2 * c + k % 2) / 8)) = 3)) && decide (t (zmn 1 ((2 * r + k / 2) / 4) ((2 * c + k % 2) / 4)) = 3)) && decide (t (zmn 2 ((2 * r + k / 2) / 2) ((2 * c + k % 2) / 2)) = 3)) = (((true && decide (t (zmn 0 (r / 4) (c / 4)) = 3)) && decide (t (zmn 1 (r / 2) (c / 2)) = 3)) && decide (t (zmn 2 r c) = 3))
    rw [a1, a2, b1, b2, d1, d2]
/-- one block of add: if it is open -/
def zads (m q x d N : Int) (P : (Int → Int) × (Int → Int)) (k : Int) : (Int → Int) × (Int → Int) := if P.2 (zmn d (k / N) (k % N)) = 0 then P else zab P.1 P.2 m q x d (k / N) (k % N)
def zadl (m q x d N : Int) (P : (Int → Int) × (Int → Int)) : Nat → (Int → Int) × (Int → Int) := zfo (zads m q x d N) P
def zadf (m q x : Int) (P : (Int → Int) × (Int → Int)) : Nat → (Int → Int) × (Int → Int) := zfo (fun P d => zadl m q x d (zp2 d) P (zp2 d * zp2 d).toNat) P
/-- what stays true of an addition -/
def zaJ (q : Int) (t : Int → Int) (P : (Int → Int) × (Int → Int)) : Prop := (isSo P.1 ∧ zEn P.1) ∧ (∀ k, 0 ≤ k → k < 85 → zsT P.1 q k = t k) ∧ (∀ k, 0 ≤ k → k < 85 → P.2 k = 0 ∨ P.2 k = 1) ∧ ∀ d r c, (0 ≤ d ∧ d ≤ 3) → (0 ≤ r ∧ r < zp2 d) → (0 ≤ c ∧ c < zp2 d) → P.2 (zmn d r c) = 1 → zvis t d r c = true
theorem zaq_J {S : Int → Int} {m q x row col : Int} {N : Nat} (hm : 0 ≤ m ∧ m < 4) (hS : isSo S) (hE : zEn S) (hr : 0 ≤ row ∧ row + N ≤ 16) (hc : 0 ≤ col ∧ col + N ≤ 16) : ∀ k : Nat, k ≤ N * N → (isSo (zaq S m q x row col N k) ∧ zEn (zaq S m q x row col N k)) ∧ ∀ m2 j, (0 ≤ m2 ∧ m2 < 4) → 0 ≤ j → j < 85 → zsT (zaq S m q x row col N k) m2 j = zsT S m2 j
  | 0, _ => ⟨⟨hS, hE⟩, fun _ _ _ _ _ => rfl⟩
  | k + 1, hk => by
    obtain ⟨⟨h1, h2⟩, h3⟩ := zaq_J (m := m) (q := q) (x := x) hm hS hE hr hc k (by omega)
    have hd := zdm (N := N) (k := k) (by omega)
    refine ⟨⟨h1.e _ hm (by omega), h2.e hm (by omega) (zclp_in _)⟩, fun m2 j hm2 j1 j2 => ?_⟩
    rw [← h3 m2 j hm2 j1 j2]
    exact zsT_e _ _ hm (by omega) hm2 ⟨j1, j2⟩
theorem zab_J {P : (Int → Int) × (Int → Int)} {t : Int → Int} {m q x d r c : Int} (hJ : zaJ q t P) (hm : 0 ≤ m ∧ m < 4) (hq : 0 ≤ q ∧ q < 4) (hne : m ≠ q) (hv : zVl t) (hd : 0 ≤ d ∧ d ≤ 3) (hr : 0 ≤ r ∧ r < zp2 d) (hc : 0 ≤ c ∧ c < zp2 d) (ho : P.2 (zmn d r c) ≠ 0) : zaJ q t (zab P.1 P.2 m q x d r c) ∧ (d = 3 → ¬ (zsT P.1 q (zmn d r c) = 3 ∧ zsT P.1 m (zmn d r c) = 3)) := by
  obtain ⟨⟨h1, h2⟩, h3, h4, h5⟩ := hJ
  have hz := zmn_in hd hr hc
  have ho1 : P.2 (zmn d r c) = 1 := (h4 _ hz.1 hz.2).resolve_left ho
  have hvis := h5 d r c hd hr hc ho1
  have hno : d = 3 → ¬ (zsT P.1 q (zmn d r c) = 3 ∧ zsT P.1 m (zmn d r c) = 3) := by
    rintro rfl z
    rw [h3 _ hz.1 hz.2] at z
    exact hv r c hr hc hvis z.1
  refine ⟨?_, hno⟩
  unfold zab
  split
  · rename_i c3
    have hd2 : 0 ≤ d ∧ d ≤ 2 := by
      by_cases c9 : d = 3
      · exact absurd c3 (hno c9)
      · omega
    have key : ∀ k : Nat, k ≤ 4 → (∀ j, 0 ≤ j → j < 85 → zfo (fun T k => zu T (zmn (d + 1) (2 * r + k / 2) (2 * c + k % 2)) 1) P.2 k j = 0 ∨ zfo (fun T k => zu T (zmn (d + 1) (2 * r + k / 2) (2 * c + k % 2)) 1) P.2 k j = 1) ∧ ∀ d2 r2 c2, (0 ≤ d2 ∧ d2 ≤ 3) → (0 ≤ r2 ∧ r2 < zp2 d2) → (0 ≤ c2 ∧ c2 < zp2 d2) → zfo (fun T k => zu T (zmn (d + 1) (2 * r + k / 2) (2 * c + k % 2)) 1) P.2 k (zmn d2 r2 c2) = 1 → zvis t d2 r2 c2 = true := by
      intro k
      induction k with
      | zero => exact fun _ => ⟨h4, h5⟩
      | succ k ih =>
        intro hk
        obtain ⟨i1, i2⟩ := ih (by omega)
        have q1 := zpq (k := k) hd2 hr (by omega)
        have q2 := zpq (k := k) hd2 hc (by omega)
        rw [show zfo (fun T k => zu T (zmn (d + 1) (2 * r + k / 2) (2 * c + k % 2)) 1) P.2 (k + 1) = zu (zfo (fun T k => zu T (zmn (d + 1) (2 * r + k / 2) (2 * c + k % 2)) 1) P.2 k) (zmn (d + 1) (2 * r + (k : Int) / 2) (2 * c + (k : Int) % 2)) 1 from rfl]
        generalize zfo (fun T k => zu T (zmn (d + 1) (2 * r + k / 2) (2 * c + k % 2)) 1) P.2 k = T at *
        refine ⟨fun j j1 j2 => ?_, fun d2 r2 c2 g1 g2 g3 g4 => ?_⟩
        · unfold zu
          split
          · exact Or.inr rfl
          · exact i1 j j1 j2
        · unfold zu at g4
          by_cases c9 : zmn d2 r2 c2 = zmn (d + 1) (2 * r + (k : Int) / 2) (2 * c + (k : Int) % 2)
          · obtain ⟨e1, e2, e3⟩ := zmn_inj g1 g2 g3 (by omega) q1.1 q2.2 c9
            rw [e1, e2, e3, zvis_s t hd2 (by omega), hvis, decide_eq_true (by rw [← h3 _ hz.1 hz.2]; exact c3.1)]
            rfl
          · rw [if_neg c9] at g4
            exact i2 d2 r2 c2 g1 g2 g3 g4
    exact ⟨⟨h1, h2⟩, h3, (key 4 (by decide)).1, (key 4 (by decide)).2⟩
  · split
    · obtain ⟨N, hN, hN2⟩ := zszN hd
      have hzp := zsz_p2 hd
      have hbl : ∀ a : Int, 0 ≤ a ∧ a < zp2 d → 0 ≤ a * zsz d ∧ a * zsz d + zsz d ≤ 16 := by
        intro a ha
        have h1 : 0 ≤ a * zsz d := Int.mul_nonneg ha.1 (by omega)
        have h2 : (a + 1) * zsz d ≤ zp2 d * zsz d := Int.mul_le_mul_of_nonneg_right (by omega) (by omega)
        rw [Int.mul_comm (zp2 d), hzp, Int.add_mul] at h2
        omega
      have hr2 := hbl _ hr
      have hc2 := hbl _ hc
      have g1 := h1.t hm hz (show 0 ≤ (1 : Int) ∧ (1 : Int) ≤ 3 by decide)
      have g2 := h2.t (1 : Int) hm hz
      rw [hN] at hr2 hc2 ⊢
      rw [show ((N : Int) * N).toNat = N * N by rw [← Int.natCast_mul]; rfl]
      obtain ⟨k1, k2⟩ := zaq_J (q := q) (x := x) hm g1 g2 hr2 hc2 (N * N) (Nat.le_refl _)
      refine ⟨k1, fun j j1 j2 => ?_, h4, h5⟩
      dsimp only
      rw [k2 q j hq j1 j2, zsT_t P.1 1 hm hz hq ⟨j1, j2⟩, if_neg (fun z => hne z.1.symm)]
      exact h3 j j1 j2
    · exact ⟨⟨h1, h2⟩, h3, h4, h5⟩
theorem zads_J {P : (Int → Int) × (Int → Int)} {t : Int → Int} {m q x d k : Int} (hJ : zaJ q t P) (hm : 0 ≤ m ∧ m < 4) (hq : 0 ≤ q ∧ q < 4) (hne : m ≠ q) (hv : zVl t) (hd : 0 ≤ d ∧ d ≤ 3) (hr : 0 ≤ k / zp2 d ∧ k / zp2 d < zp2 d) (hc : 0 ≤ k % zp2 d ∧ k % zp2 d < zp2 d) : zaJ q t (zads m q x d (zp2 d) P k) := by
  unfold zads
  split
  · exact hJ
  · rename_i c0
    exact (zab_J hJ hm hq hne hv hd hr hc c0).1
section
variable {n : Nat} {σ : zS} {S U : Int → Int} {um L p lv br bc : Int} {wl : Bool}
/-- the isOpen row at the start of an addition -/
def zop (O : Int → Int) (k : Int) : Int → Int := fun j => if 0 ≤ j ∧ j < k then (if j = 0 then 1 else 0) else O j
theorem zop_0 (O : Int → Int) : zop O 0 = O := funext fun j => if_neg (by omega)
theorem zop_s (O : Int → Int) {k : Int} (hk : 0 ≤ k) : zu (zop O k) k (if k = 0 then 1 else 0) = zop O (k + 1) := by
  funext j
  unfold zu zop
  by_cases c : j = k
  · rw [if_pos c, if_pos (show 0 ≤ j ∧ j < k + 1 by omega), c]
  · rw [if_neg c]
    by_cases c2 : 0 ≤ j ∧ j < k
    · rw [if_pos c2, if_pos (show 0 ≤ j ∧ j < k + 1 by omega)]
    · rw [if_neg c2, if_neg (show ¬ (0 ≤ j ∧ j < k + 1) by omega)]
theorem zop_J {S t O : Int → Int} {q : Int} (hS : isSo S) (hE : zEn S) (ht : ∀ k, 0 ≤ k → k < 85 → zsT S q k = t k) : zaJ q t (S, zop O 85) := by
  refine ⟨⟨hS, hE⟩, ht, fun k h1 h2 => ?_, fun d r c hd hr hc h => ?_⟩
  · show zop O 85 k = 0 ∨ zop O 85 k = 1
    unfold zop
    rw [if_pos ⟨h1, h2⟩]
    split
    · exact Or.inr rfl
    · exact Or.inl rfl
  · have hz := zmn_in hd hr hc
    have h : zop O 85 (zmn d r c) = 1 := h
    unfold zop at h
    rw [if_pos hz] at h
    by_cases c0 : zmn d r c = 0
    · have e := zmn_inj hd hr hc (d2 := 0) (r2 := 0) (c2 := 0) (by decide) (by decide) (by decide) c0
      rw [e.1]
      rfl
    · rw [if_neg c0] at h
      cases h
theorem ctX6_add (hM : σ 145 = zMO um L p wl lv br bc) (hS0 : σ 146 = zA 1365 S) (hU : σ 148 = zA 8190 U) (hn : 155 ≤ n) (hu : 0 ≤ um ∧ um ≤ 6) (hS : isSo S) (hE : zEn S) {O : Int → Int} (hO : σ 155 = zP 1 85 O) (m q x : Int) (hm : (0 ≤ m ∧ m < 4)) (hq : (0 ≤ q ∧ q < 4)) (hx : -99 ≤ x ∧ x ≤ 99) (hx0 : x ≠ 0) (hne : m ≠ q) (hv : zVl (zsT S q)) : zCt 13 0 0 yX6_add cX6_add 7 (some .int) [zr 145, zi m, zi q, zi x] n σ (some (zi (zrmF (zsT (zadf m q x (zcn S, zop O 85) 4).1 m) 0 0 0))) n (zsu (zsu (zM4 σ (zMO (zu1 um + 1) L p wl lv br bc) (zcn S) (zU2 um U S)) 146 (zA 1365 (zadf m q x (zcn S, zop O 85) 4).1)) 155 (zP 1 85 (zadf m q x (zcn S, zop O 85) 4).2)) := by
  have hcn : zCt 2 0 0 yX6_counts cX6_counts 1 none [zr 145] n σ none n (zM4 σ (zMO (zu1 um + 1) L p wl lv br bc) (zcn S) (zU2 um U S)) := ctX6_counts hM hS0 hU hn hu
  have h1 := zM4_mo (σ := σ) (S := zcn S) (U := zU2 um U S) (um := zu1 um + 1) (L := L) (p := p) (wl := wl) (lv := lv) (br := br) (bc := bc) hn
  have hS := hS.cn
  have hE := hE.cn
  have hv := hv.cn hq
  have hO1 : (zM4 σ (zMO (zu1 um + 1) L p wl lv br bc) (zcn S) (zU2 um U S)) 155 = zP 1 85 O := (zM4_o _ _ _ _ (by decide)).trans hO
  generalize (zM4 σ (zMO (zu1 um + 1) L p wl lv br bc) (zcn S) (zU2 um U S)) = τ at *
  generalize zcn S = S1 at *
  obtain ⟨⟨um1, L1, p1, wl1, lv1, br1, bc1, hM1⟩, hS1, hn1⟩ := id h1
  have hJ0 := zop_J (O := O) (q := q) hS hE (fun k _ _ => rfl)
  generalize zsT S1 q = t at *
  refine zCt.of (by decide) rfl (Nat.le_of_ble_eq_true rfl) (fun K C => ?_)
  have main : ∀ j : Nat, j ≤ 4 → zaJ q t (zadf m q x (S1, zop O 85) j) → K 84 [some (zr 145), some (zi m), some (zi q), some (zi x), some (zi (j : Int)), none, none] [] n (zsu (zsu τ 146 (zA 1365 (zadf m q x (S1, zop O 85) j).1)) 155 (zP 1 85 (zadf m q x (S1, zop O 85) j).2)) 0 := by
    refine zloop _ 4 (fun j hj ihj => ?_)
    intro hJj
    have eJ : zadf m q x (S1, zop O 85) (j + 1) = zadl m q x j (zp2 j) (zadf m q x (S1, zop O 85) j) (zp2 j * zp2 j).toNat := rfl
    have eE : j = 4 → zadf m q x (S1, zop O 85) 4 = zadf m q x (S1, zop O 85) j := by
      rintro rfl
      rfl
    generalize zadf m q x (S1, zop O 85) j = P0 at *
    have inner : (j : Int) ≤ 3 → ∀ N : Nat, zp2 (j : Int) = N → ∀ k : Nat, k ≤ N * N → zaJ q t (zadl m q x j N P0 k) → K 99 [some (zr 145), some (zi m), some (zi q), some (zi x), some (zi (j : Int)), some (zi (N : Int)), some (zi (k : Int))] [] n (zsu (zsu τ 146 (zA 1365 (zadl m q x j N P0 k).1)) 155 (zP 1 85 (zadl m q x j N P0 k).2)) 0 := by
      intro hb N hN
      have hN8 : 1 ≤ N ∧ N ≤ 8 := by have := zp2_v (d := (j : Int)) (by omega); omega
      have hNN : N * N ≤ 64 := Nat.mul_le_mul hN8.2 hN8.2
      have hcast : ((N * N : Nat) : Int) = (N : Int) * N := Int.natCast_mul N N
      refine zloop _ (N * N) (fun k hk ih => ?_)
      intro hJk
      have eK : zadl m q x j N P0 (k + 1) = zads m q x j N (zadl m q x j N P0 k) k := rfl
      have eKE : k = N * N → zadl m q x j N P0 k = zadf m q x (S1, zop O 85) (j + 1) := by
        rintro rfl
        rw [eJ, hN, show ((N : Int) * N).toNat = N * N by rw [← hcast]; rfl]
      generalize zadl m q x j N P0 k = P at *
      have h2 := (h1.s P.1).o (k := 155) (by decide) (zP 1 85 P.2)
      have hO := zsu_s (zsu τ 146 (zA 1365 P.1)) 155 (zP 1 85 P.2)
      obtain ⟨⟨um, L, p, wl, lv, br, bc, hM⟩, hS0, hn⟩ := id h2
      refine x_iload C dX6_add_99 rfl ?_
      refine x_iload C dX6_add_101 rfl ?_
      refine x_iload C dX6_add_103 rfl ?_
      refine x_imul C dX6_add_105 ?_
      refine x_icmp_ge (tgt := 157) C dX6_add_106 (by decide) (by omega) (fun c106 => ?_) (fun c106 => ?_)
      · have e9 := eKE (by omega)
        rw [e9] at hJk ⊢
        have ihj := ihj (by omega) hJk
        refine x_iinc C dX6_add_157 rfl (by decide) ?_
        refine x_goto (tgt := 84) C dX6_add_160 (by decide) ?_
        exact x_wk C rfl ihj
      · have hd := zdm (N := N) (k := k) (by omega)
        rw [← hN] at hd
        have hz := zmn_in (d := (j : Int)) (by omega) hd.1 hd.2
        have hJ2 := zads_J (x := x) hJk hm hq hne hv (d := (j : Int)) (k := k) (by omega) hd.1 hd.2
        have hJ3 := fun h0 => (zab_J (x := x) hJk hm hq hne hv (d := (j : Int)) (by omega) hd.1 hd.2 h0).2
        have hob := hJk.2.2.1 _ hz.1 hz.2
        rw [hN] at hd hz hJ2 hJ3 hob
        refine x_aload_n C dX6_add_109 rfl ?_
        refine x_getfield C dX6_add_110 lfX6_38 hM (by omega) rfl ?_
        refine x_iload C dX6_add_113 rfl ?_
        refine x_iload C dX6_add_115 rfl ?_
        refine x_iload C dX6_add_117 rfl ?_
        refine x_idiv C dX6_add_119 (by omega) ?_
        refine x_iload C dX6_add_120 rfl ?_
        refine x_iload C dX6_add_122 rfl ?_
        refine x_irem C dX6_add_124 (by omega) ?_
        refine x_callS C dX6_add_125 (ctX6_node (j : Int) _ _ (by omega)) okX6_node lkX6_49 ⟨by decide, rfl, rfl, Nat.le_of_ble_eq_true rfl⟩ rfl (Or.inl ⟨rfl, rfl⟩) ?_
        refine x_baload C dX6_add_128 hO (by omega) ?_
        refine x_if_eq (tgt := 151) C dX6_add_129 (by decide) (by omega) (fun c129 => ?_) (fun c129 => ?_)
        · have eF : zads m q x j N P k = _ := if_pos c129
          rw [eK] at ih
          have ih := ih (by omega) hJ2
          rw [eF] at ih
          refine x_iinc C dX6_add_151 rfl (by decide) ?_
          refine x_goto (tgt := 99) C dX6_add_154 (by decide) ?_
          exact ih
        · have eF : zads m q x j N P k = _ := if_neg c129
          refine x_aload_n C dX6_add_132 rfl ?_
          refine x_iload_n C dX6_add_133 rfl ?_
          refine x_iload_n C dX6_add_134 rfl ?_
          refine x_iload_n C dX6_add_135 rfl ?_
          refine x_iload C dX6_add_136 rfl ?_
          refine x_iload C dX6_add_138 rfl ?_
          refine x_iload C dX6_add_140 rfl ?_
          refine x_idiv C dX6_add_142 (by omega) ?_
          refine x_iload C dX6_add_143 rfl ?_
          refine x_iload C dX6_add_145 rfl ?_
          refine x_irem C dX6_add_147 (by omega) ?_
          refine x_callV C dX6_add_148 (ctX6_addsBlock h2 hO hJk.1.1 hJk.1.2 m q x (j : Int) _ _ hm hq hx (by omega) (by rw [hN]; exact hd.1) (by rw [hN]; exact hd.2) (hJ3 c129)) okX6_addsBlock lkX6_141 ⟨⟨hM, rfl, rfl⟩, (by omega)⟩ ⟨by decide, rfl, rfl, Nat.le_of_ble_eq_true rfl⟩ rfl (Or.inl ⟨rfl, rfl⟩) ?_
          rw [zsu_comm _ _ _ (show (155 : Int) ≠ 146 by decide), zsu_u, zsu_u]
          rw [eK] at ih
          have ih := ih (by omega) hJ2
          rw [eF] at ih
          refine x_iinc C dX6_add_151 rfl (by decide) ?_
          refine x_goto (tgt := 99) C dX6_add_154 (by decide) ?_
          exact ih
    have h2 := (h1.s P0.1).o (k := 155) (by decide) (zP 1 85 P0.2)
    obtain ⟨⟨um, L, p, wl, lv, br, bc, hM⟩, hS0, hn⟩ := id h2
    refine x_iload C dX6_add_84 rfl ?_
    refine x_iconst C dX6_add_86 ?_
    refine x_icmp_ge (tgt := 163) C dX6_add_87 (by decide) (by omega) (fun c87 => ?_) (fun c87 => ?_)
    · rw [eE (by omega)] at C
      refine x_aload_n C dX6_add_163 rfl ?_
      refine x_iload_n C dX6_add_164 rfl ?_
      refine x_callV C dX6_add_165 (ctX6_room h2 hJj.1.1 m hm) okX6_room lkX6_78 ⟨⟨hM, rfl, rfl⟩, (by omega)⟩ ⟨by decide, rfl, rfl, Nat.le_of_ble_eq_true rfl⟩ rfl (Or.inl ⟨rfl, rfl⟩) ?_
      exact x_iret (st := []) C dX6_add_168 rfl ⟨congrArg (fun z => some (zi z)) (by first | rfl | omega), rfl, rfl, rfl⟩
    · refine x_iconst C dX6_add_90 ?_
      refine x_iload C dX6_add_91 rfl ?_
      refine x_ishl C dX6_add_93 (by omega) ?_
      obtain ⟨N, hN, -⟩ := zp2N (d := (j : Int)) (by omega)
      rw [show (1 : Int) * 2 ^ (j : Int).toNat = N by rw [zp2_e (by omega), hN]; omega]
      refine x_istore C dX6_add_94 (by decide) ?_
      refine x_iconst C dX6_add_96 ?_
      refine x_istore C dX6_add_97 (by decide) ?_
      exact inner (by omega) N hN 0 (by omega) hJj
  have fir : ∀ k : Nat, k ≤ 85 → K 51 [some (zr 145), some (zi m), some (zi q), some (zi x), some (zi (k : Int)), none, none] [] n (zsu τ 155 (zP 1 85 (zop O k))) 0 := by
    refine zloop _ 85 (fun k hk ih => ?_)
    have h2 := h1.o (k := 155) (by decide) (zP 1 85 (zop O k))
    have hO := zsu_s τ 155 (zP 1 85 (zop O k))
    obtain ⟨⟨um, L, p, wl, lv, br, bc, hM⟩, hS0, hn⟩ := id h2
    refine x_iload C dX6_add_51 rfl ?_
    refine x_bipush C dX6_add_53 (by decide) ?_
    refine x_icmp_ge (tgt := 81) C dX6_add_55 (by decide) (by omega) (fun c55 => ?_) (fun c55 => ?_)
    · refine x_iconst C dX6_add_81 ?_
      refine x_istore C dX6_add_82 (by decide) ?_
      have m0 := main 0 (by omega) hJ0
      rw [show zadf m q x (S1, zop O 85) 0 = (S1, zop O 85) from rfl] at m0
      dsimp only at m0
      rw [zsu_self hS1] at m0
      rw [show (k : Int) = 85 by omega]
      exact x_wk C rfl m0
    · refine x_aload_n C dX6_add_58 rfl ?_
      refine x_getfield C dX6_add_59 lfX6_38 hM (by omega) rfl ?_
      refine x_iload C dX6_add_62 rfl ?_
      refine x_iload C dX6_add_64 rfl ?_
      refine x_if_ne (tgt := 73) C dX6_add_66 (by decide) (by omega) (fun c66 => ?_) (fun c66 => ?_)
      · have eF : (if (k : Int) = 0 then (1 : Int) else 0) = 0 := if_neg c66
        refine x_iconst C dX6_add_73 ?_
        refine x_bastore C dX6_add_74 hO (by omega) (by first | decide | omega) ?_
        refine x_nm (fun s74 e74 => ?_)
        have hM := (congrFun e74 145).trans ((zsu_n _ _ (by omega)).trans hM)
        have hO := (congrFun e74 155).trans (zsu_s _ _ _)
        have ih := ih (by omega)
        rw [show ((k + 1 : Nat) : Int) = (k : Int) + 1 by omega, ← zop_s O (show 0 ≤ (k : Int) by omega), eF] at ih
        rw [e74, zsu_u]
        refine x_iinc C dX6_add_75 rfl (by decide) ?_
        refine x_goto (tgt := 51) C dX6_add_78 (by decide) ?_
        exact ih
      · have eF : (if (k : Int) = 0 then (1 : Int) else 0) = 1 := if_pos c66
        refine x_iconst C dX6_add_69 ?_
        refine x_goto (tgt := 74) C dX6_add_70 (by decide) ?_
        refine x_bastore C dX6_add_74 hO (by omega) (by first | decide | omega) ?_
        refine x_nm (fun s74 e74 => ?_)
        have hM := (congrFun e74 145).trans ((zsu_n _ _ (by omega)).trans hM)
        have hO := (congrFun e74 155).trans (zsu_s _ _ _)
        have ih := ih (by omega)
        rw [show ((k + 1 : Nat) : Int) = (k : Int) + 1 by omega, ← zop_s O (show 0 ≤ (k : Int) by omega), eF] at ih
        rw [e74, zsu_u]
        refine x_iinc C dX6_add_75 rfl (by decide) ?_
        refine x_goto (tgt := 51) C dX6_add_78 (by decide) ?_
        exact ih
  refine x_aload_n C dX6_add_0 rfl ?_
  refine x_iconst C dX6_add_1 ?_
  refine x_putI C dX6_add_2 lfX6_41 lyX6_0 hM (by omega) (Nat.le_of_ble_eq_true rfl) ?_
  refine x_nm (fun s2 e2 => ?_)
  rw [show s2 = σ from e2.trans (zsu_self hM)]
  clear e2 s2
  refine x_iload_n C dX6_add_5 rfl ?_
  refine x_callS C dX6_add_6 (ctX6_isMatrix _ (by omega)) okX6_isMatrix lkX6_104 ⟨by decide, rfl, rfl, Nat.le_of_ble_eq_true rfl⟩ rfl (Or.inl ⟨rfl, rfl⟩) ?_
  refine x_ifeq_d (tgt := 19) C dX6_add_9 (by decide) (fun c9 => ?_) (fun c9 => ?_)
  · exfalso; omega
  · refine x_iload_n C dX6_add_12 rfl ?_
    refine x_callS C dX6_add_13 (ctX6_isMatrix _ (by omega)) okX6_isMatrix lkX6_104 ⟨by decide, rfl, rfl, Nat.le_of_ble_eq_true rfl⟩ rfl (Or.inl ⟨rfl, rfl⟩) ?_
    refine x_ifne_d (tgt := 21) C dX6_add_16 (by decide) (fun c16 => ?_) (fun c16 => ?_)
    · refine x_iload_n C dX6_add_21 rfl ?_
      refine x_bipush C dX6_add_22 (by decide) ?_
      refine x_bipush C dX6_add_24 (by decide) ?_
      refine x_callS C dX6_add_26 (ctX6_in _ _ _ (by omega) (by omega) (by omega)) okX6_in lkX6_45 ⟨by decide, rfl, rfl, Nat.le_of_ble_eq_true rfl⟩ rfl (Or.inl ⟨rfl, rfl⟩) ?_
      refine x_ifeq_d (tgt := 41) C dX6_add_29 (by decide) (fun c29 => ?_) (fun c29 => ?_)
      · exfalso; omega
      · refine x_iload_n C dX6_add_32 rfl ?_
        refine x_if_eq (tgt := 41) C dX6_add_33 (by decide) (by omega) (fun c33 => ?_) (fun c33 => ?_)
        · exact absurd c33 hx0
        · refine x_iload_n C dX6_add_36 rfl ?_
          refine x_iload_n C dX6_add_37 rfl ?_
          refine x_icmp_ne (tgt := 44) C dX6_add_38 (by decide) (by omega) (fun c38 => ?_) (fun c38 => ?_)
          · refine x_aload_n C dX6_add_44 rfl ?_
            refine x_callV C dX6_add_45 hcn okX6_counts lkX6_112 ⟨⟨hM, rfl, rfl⟩, (by omega)⟩ ⟨by decide, rfl, rfl, Nat.le_of_ble_eq_true rfl⟩ rfl (Or.inl ⟨rfl, rfl⟩) ?_
            have hM := hM1
            refine x_iconst C dX6_add_48 ?_
            refine x_istore C dX6_add_49 (by decide) ?_
            have f0 := fir 0 (by omega)
            rw [show ((0 : Nat) : Int) = 0 from rfl, zop_0, zsu_self hO1] at f0
            exact f0
          · exact absurd c38 hne
    · exfalso; omega
end
