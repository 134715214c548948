/-- a block made smaller: its sort and room -/
def zsn (one z s rm : Int) : Int × Int := if one = 2 then (0, 0) else if one = 1 ∧ 2 * z ≤ rm then (2, 2 * z) else (s, rm)
noncomputable def znw (e t : Int → Int) : Nat → Int → Int → Int → Int × Int
  | 0, d, r, c => zsn (zone e (r * zsz d) (c * zsz d) (zsz d)) (zsz d) (t (zmn d r c)) (zrm (t (zmn d r c)) (zsz d))
  | g + 1, d, r, c => zsn (zone e (r * zsz d) (c * zsz d) (zsz d)) (zsz d) (t (zmn d r c)) (if t (zmn d r c) = 3 then 1 + zsm (fun q => (znw e t g (d + 1) (2 * r + q / 2) (2 * c + q % 2)).2) 4 else zrm (t (zmn d r c)) (zsz d))
theorem znw_s (e t : Int → Int) (g : Nat) (d r c : Int) : znw e t (g + 1) d r c = zsn (zone e (r * zsz d) (c * zsz d) (zsz d)) (zsz d) (t (zmn d r c)) (if t (zmn d r c) = 3 then 1 + zsm (fun q => (znw e t g (d + 1) (2 * r + q / 2) (2 * c + q % 2)).2) 4 else zrm (t (zmn d r c)) (zsz d)) := rfl
theorem znw_cg {e e2 t t2 : Int → Int} (he : zEe e e2) (ht : zSim t t2) : ∀ (g : Nat) (d r c : Int), d = 3 - g → 0 ≤ d → (0 ≤ r ∧ r < zp2 d) → (0 ≤ c ∧ c < zp2 d) → zvis t2 d r c = true → znw e t g d r c = znw e2 t2 g d r c
  | 0, d, r, c, e0, hd, hr, hc, hv => by
    have b1 := zbl (show 0 ≤ d ∧ d ≤ 3 by omega) hr
    have b2 := zbl (show 0 ≤ d ∧ d ≤ 3 by omega) hc
    show zsn (zone e (r * zsz d) (c * zsz d) (zsz d)) (zsz d) (t (zmn d r c)) (zrm (t (zmn d r c)) (zsz d)) = zsn (zone e2 (r * zsz d) (c * zsz d) (zsz d)) (zsz d) (t2 (zmn d r c)) (zrm (t2 (zmn d r c)) (zsz d))
    rw [he.one b1 b2, ht d r c (by omega) hr hc hv]
  | g + 1, d, r, c, e0, hd, hr, hc, hv => by
    have b1 := zbl (show 0 ≤ d ∧ d ≤ 3 by omega) hr
    have b2 := zbl (show 0 ≤ d ∧ d ≤ 3 by omega) hc
    rw [znw_s, znw_s, he.one b1 b2, ht d r c (by omega) hr hc hv]
    congr 1
    by_cases h3 : t2 (zmn d r c) = 3
    · rw [if_pos h3, if_pos h3]
      congr 1
      refine zsm_cg 4 (fun q hq => ?_)
      have q1 := zpq (k := q) (d := d) (by omega) hr (by omega)
      have q2 := zpq (k := q) (d := d) (by omega) hc (by omega)
      rw [znw_cg he ht g (d + 1) _ _ (by omega) (by omega) q1.1 q2.2 (by rw [zvis_s t2 (by omega) (by omega), hv, h3]; rfl)]
    · rw [if_neg h3, if_neg h3]
/-- a block in a block -/
def zan (d r c d2 r2 c2 : Int) : Prop := d ≤ d2 ∧ r2 / zp2 (d2 - d) = r ∧ c2 / zp2 (d2 - d) = c
theorem zp2_q {j x : Int} (hj : 0 ≤ j ∧ j ≤ 2) : x / zp2 (j + 1) = x / zp2 j / 2 := by
  have h3 : j = 0 ∨ j = 1 ∨ j = 2 := by omega
  rcases h3 with rfl | rfl | rfl <;> simp [zp2] <;> omega
theorem zan_d {d r c d2 r2 c2 : Int} (hd : 0 ≤ d ∧ d ≤ 2) (hd2 : d2 ≤ 3) (q : Int) (hq : 0 ≤ q ∧ q < 4) (h : zan (d + 1) (2 * r + q / 2) (2 * c + q % 2) d2 r2 c2) : zan d r c d2 r2 c2 := by
  obtain ⟨h1, h2, h3⟩ := h
  refine ⟨by omega, ?_, ?_⟩
  · rw [show d2 - d = (d2 - (d + 1)) + 1 by omega, zp2_q (by omega), h2]
    omega
  · rw [show d2 - d = (d2 - (d + 1)) + 1 by omega, zp2_q (by omega), h3]
    omega
theorem zan_u {d r c d2 r2 c2 : Int} (hd : 0 ≤ d ∧ d ≤ 2) (hd2 : d2 ≤ 3) (h : zan d r c d2 r2 c2) : (d2 = d ∧ r2 = r ∧ c2 = c) ∨ ∃ q : Nat, q < 4 ∧ zan (d + 1) (2 * r + (q : Int) / 2) (2 * c + (q : Int) % 2) d2 r2 c2 := by
  obtain ⟨h1, h2, h3⟩ := h
  by_cases q : d2 = d
  · refine Or.inl ⟨q, ?_, ?_⟩
    · rw [q, show d - d = 0 by omega, show zp2 0 = 1 from rfl] at h2
      omega
    · rw [q, show d - d = 0 by omega, show zp2 0 = 1 from rfl] at h3
      omega
  · refine Or.inr ?_
    rw [show d2 - d = (d2 - (d + 1)) + 1 by omega, zp2_q (by omega)] at h2 h3
    refine ⟨((r2 / zp2 (d2 - (d + 1))) % 2 * 2 + (c2 / zp2 (d2 - (d + 1))) % 2).toNat, by omega, by omega, by omega, by omega⟩
theorem zan_x {d r c q q2 d2 r2 c2 : Int} (hq : 0 ≤ q ∧ q < 4) (hq2 : 0 ≤ q2 ∧ q2 < 4) (h : zan (d + 1) (2 * r + q / 2) (2 * c + q % 2) d2 r2 c2) (h2 : zan (d + 1) (2 * r + q2 / 2) (2 * c + q2 % 2) d2 r2 c2) : q = q2 := by
  have a := h.2.1.symm.trans h2.2.1
  have b := h.2.2.symm.trans h2.2.2
  omega
/-- what the class's shrinking leaves -/
theorem zshr_e {e t0 : Int → Int} : ∀ (g : Nat) (d r c : Int) (t : Int → Int), d = 3 - g → 0 ≤ d → (0 ≤ r ∧ r < zp2 d) → (0 ≤ c ∧ c < zp2 d) → zvis t0 d r c = true → (∀ d2 r2 c2, (0 ≤ d2 ∧ d2 ≤ 3) → (0 ≤ r2 ∧ r2 < zp2 d2) → (0 ≤ c2 ∧ c2 < zp2 d2) → zan d r c d2 r2 c2 → t (zmn d2 r2 c2) = t0 (zmn d2 r2 c2)) → (zshr e g t (r * zsz d) (c * zsz d)).2 = (znw e t0 g d r c).2 ∧ ∀ d2 r2 c2, (0 ≤ d2 ∧ d2 ≤ 3) → (0 ≤ r2 ∧ r2 < zp2 d2) → (0 ≤ c2 ∧ c2 < zp2 d2) → (zan d r c d2 r2 c2 → zvis t0 d2 r2 c2 = true → (zshr e g t (r * zsz d) (c * zsz d)).1 (zmn d2 r2 c2) = (znw e t0 (3 - d2).toNat d2 r2 c2).1) ∧ (¬ (zan d r c d2 r2 c2 ∧ zvis t0 d2 r2 c2 = true) → (zshr e g t (r * zsz d) (c * zsz d)).1 (zmn d2 r2 c2) = t (zmn d2 r2 c2)) := by
  -- the last step of one block
  have fin : ∀ (d r c : Int) (t : Int → Int) (s rm : Int), (0 ≤ d ∧ d ≤ 3) → (0 ≤ r ∧ r < zp2 d) → (0 ≤ c ∧ c < zp2 d) → t (zmn d r c) = s → (zsf t e d (r * zsz d) (c * zsz d) rm).2 = (zsn (zone e (r * zsz d) (c * zsz d) (zsz d)) (zsz d) s rm).2 ∧ (zsf t e d (r * zsz d) (c * zsz d) rm).1 (zmn d r c) = (zsn (zone e (r * zsz d) (c * zsz d) (zsz d)) (zsz d) s rm).1 ∧ ∀ k, k ≠ zmn d r c → (zsf t e d (r * zsz d) (c * zsz d) rm).1 k = t k := by
    intro d r c t s rm hd hr hc hs
    unfold zsf zsn
    rw [zno_b hd]
    by_cases c2 : zone e (r * zsz d) (c * zsz d) (zsz d) = 2
    · rw [if_pos c2, if_pos c2]
      exact ⟨rfl, zu_s _ _ _, fun k hk => zu_n _ _ hk⟩
    · rw [if_neg c2, if_neg c2]
      by_cases c1 : zone e (r * zsz d) (c * zsz d) (zsz d) = 1 ∧ 2 * zsz d ≤ rm
      · rw [if_pos c1, if_pos c1]
        exact ⟨rfl, zu_s _ _ _, fun k hk => zu_n _ _ hk⟩
      · rw [if_neg c1, if_neg c1]
        exact ⟨rfl, hs, fun k hk => rfl⟩
  -- a block that is not cut
  have leaf : ∀ (d r c : Int) (t : Int → Int) (g : Nat), d = 3 - g → (0 ≤ d ∧ d ≤ 3) → (0 ≤ r ∧ r < zp2 d) → (0 ≤ c ∧ c < zp2 d) → zvis t0 d r c = true → t (zmn d r c) = t0 (zmn d r c) → (g = 0 ∨ t0 (zmn d r c) ≠ 3) → zshr e g t (r * zsz d) (c * zsz d) = zsf t e d (r * zsz d) (c * zsz d) (zrm (t0 (zmn d r c)) (zsz d)) → (zshr e g t (r * zsz d) (c * zsz d)).2 = (znw e t0 g d r c).2 ∧ ∀ d2 r2 c2, (0 ≤ d2 ∧ d2 ≤ 3) → (0 ≤ r2 ∧ r2 < zp2 d2) → (0 ≤ c2 ∧ c2 < zp2 d2) → (zan d r c d2 r2 c2 → zvis t0 d2 r2 c2 = true → (zshr e g t (r * zsz d) (c * zsz d)).1 (zmn d2 r2 c2) = (znw e t0 (3 - d2).toNat d2 r2 c2).1) ∧ (¬ (zan d r c d2 r2 c2 ∧ zvis t0 d2 r2 c2 = true) → (zshr e g t (r * zsz d) (c * zsz d)).1 (zmn d2 r2 c2) = t (zmn d2 r2 c2)) := by
    intro d r c t g hg hd hr hc hv ht hl he
    obtain ⟨f1, f2, f3⟩ := fin d r c t _ (zrm (t0 (zmn d r c)) (zsz d)) hd hr hc ht
    have en : znw e t0 g d r c = zsn (zone e (r * zsz d) (c * zsz d) (zsz d)) (zsz d) (t0 (zmn d r c)) (zrm (t0 (zmn d r c)) (zsz d)) := by
      cases g with
      | zero => rfl
      | succ g =>
        rw [znw_s, if_neg]
        rcases hl with hl | hl
        · omega
        · exact hl
    rw [he, en]
    refine ⟨f1, fun d2 r2 c2 hd2 hr2 hc2 => ⟨fun ha hv2 => ?_, fun hn => ?_⟩⟩
    · have hsame : d2 = d ∧ r2 = r ∧ c2 = c := by
        by_cases q : d = 3
        · obtain ⟨h1, h2, h3⟩ := ha
          have q2 : d2 = d := by omega
          rw [q2, show d - d = 0 by omega, show zp2 0 = 1 from rfl] at h2 h3
          exact ⟨q2, by omega, by omega⟩
        · rcases zan_u (by omega) hd2.2 ha with h | ⟨q2, hq2, h⟩
          · exact h
          · exfalso
            have h3 : t0 (zmn d r c) = 3 := by
              have hk := zvk_le (k := d2.toNat) hv2 (a := d.toNat) (by have := h.1; omega)
              rw [show ((d.toNat : Nat) : Int) = d by omega] at hk
              have ha2 := ha.2
              rw [ha2.1, ha2.2] at hk
              exact hk
            rcases hl with hl | hl
            · omega
            · exact hl h3
      rw [hsame.1, hsame.2.1, hsame.2.2, show (3 - d).toNat = g by omega, en]
      exact f2
    · refine f3 _ (fun z => ?_)
      have q := zmn_inj hd2 hr2 hc2 hd hr hc z
      refine hn ⟨⟨by omega, ?_, ?_⟩, ?_⟩
      · rw [q.1, show d - d = 0 by omega, show zp2 0 = 1 from rfl, q.2.1]
        omega
      · rw [q.1, show d - d = 0 by omega, show zp2 0 = 1 from rfl, q.2.2]
        omega
      · rw [q.1, q.2.1, q.2.2]
        exact hv
  intro g
  induction g with
  | zero =>
    intro d r c t hg hd hr hc hv hag
    have hds : (0 ≤ d ∧ d ≤ 3) := by omega
    have h0 := hag d r c hds hr hc ⟨by omega, by rw [show d - d = 0 by omega, show zp2 0 = 1 from rfl]; omega, by rw [show d - d = 0 by omega, show zp2 0 = 1 from rfl]; omega⟩
    refine leaf d r c t 0 hg hds hr hc hv h0 (Or.inl rfl) ?_
    rw [← h0]
    have e3 : d = 3 := by omega
    rw [e3] at hr hc ⊢
    show zsf t e 3 (r * zsz 3) (c * zsz 3) (zrm (t (zno 3 (r * zsz 3) (c * zsz 3))) 2) = _
    rw [zno_b (by decide)]
    rfl
  | succ g ih =>
    intro d r c t hg hd hr hc hv hag
    have hds : (0 ≤ d ∧ d ≤ 3) := by omega
    have h0 := hag d r c hds hr hc ⟨by omega, by rw [show d - d = 0 by omega, show zp2 0 = 1 from rfl]; omega, by rw [show d - d = 0 by omega, show zp2 0 = 1 from rfl]; omega⟩
    have e2 : (2 - g : Int) = d := by omega
    have e3 : (3 - g : Int) = d + 1 := by omega
    have h2 : zsz d = 2 * zsz (d + 1) := by
      have h3 : d = 0 ∨ d = 1 ∨ d = 2 := by omega
      rcases h3 with rfl | rfl | rfl <;> decide
    have eS := zshr_s e g t (r * zsz d) (c * zsz d)
    rw [e2, e3, zno_b hds] at eS
    by_cases h3 : t (zmn d r c) = 3
    · rw [if_pos h3] at eS
      have h30 : t0 (zmn d r c) = 3 := h0.symm.trans h3
      have parts : ∀ j : Nat, j ≤ 4 → (zfo (zstep (zshr e g) (r * zsz d) (c * zsz d) (zsz (d + 1))) (t, 1) j).2 = 1 + zsm (fun q => (znw e t0 g (d + 1) (2 * r + q / 2) (2 * c + q % 2)).2) j ∧ ∀ d2 r2 c2, (0 ≤ d2 ∧ d2 ≤ 3) → (0 ≤ r2 ∧ r2 < zp2 d2) → (0 ≤ c2 ∧ c2 < zp2 d2) → ((∃ q : Nat, q < j ∧ zan (d + 1) (2 * r + (q : Int) / 2) (2 * c + (q : Int) % 2) d2 r2 c2) → zvis t0 d2 r2 c2 = true → (zfo (zstep (zshr e g) (r * zsz d) (c * zsz d) (zsz (d + 1))) (t, 1) j).1 (zmn d2 r2 c2) = (znw e t0 (3 - d2).toNat d2 r2 c2).1) ∧ (¬ ((∃ q : Nat, q < j ∧ zan (d + 1) (2 * r + (q : Int) / 2) (2 * c + (q : Int) % 2) d2 r2 c2) ∧ zvis t0 d2 r2 c2 = true) → (zfo (zstep (zshr e g) (r * zsz d) (c * zsz d) (zsz (d + 1))) (t, 1) j).1 (zmn d2 r2 c2) = t (zmn d2 r2 c2)) := by
        intro j
        induction j with
        | zero =>
          intro _
          refine ⟨rfl, fun d2 r2 c2 _ _ _ => ⟨fun ⟨q, hq, _⟩ => absurd hq (by omega), fun _ => rfl⟩⟩
        | succ j ihj =>
          intro hj
          obtain ⟨k1, k2⟩ := ihj (by omega)
          have q1 := zpq (k := j) (d := d) (by omega) hr (by omega)
          have q2 := zpq (k := j) (d := d) (by omega) hc (by omega)
          have hvc : zvis t0 (d + 1) (2 * r + (j : Int) / 2) (2 * c + (j : Int) % 2) = true := by
            rw [zvis_s t0 (by omega) (by omega), hv, h30]
            rfl
          have er : r * zsz d + (j : Int) / 2 * zsz (d + 1) = (2 * r + (j : Int) / 2) * zsz (d + 1) := by
            rw [h2, Int.add_mul, ← Int.mul_assoc, Int.mul_comm r 2]
          have ec : c * zsz d + (j : Int) % 2 * zsz (d + 1) = (2 * c + (j : Int) % 2) * zsz (d + 1) := by
            rw [h2, Int.add_mul, ← Int.mul_assoc, Int.mul_comm c 2]
          have eJ : zfo (zstep (zshr e g) (r * zsz d) (c * zsz d) (zsz (d + 1))) (t, 1) (j + 1) = ((zshr e g (zfo (zstep (zshr e g) (r * zsz d) (c * zsz d) (zsz (d + 1))) (t, 1) j).1 ((2 * r + (j : Int) / 2) * zsz (d + 1)) ((2 * c + (j : Int) % 2) * zsz (d + 1))).1, (zfo (zstep (zshr e g) (r * zsz d) (c * zsz d) (zsz (d + 1))) (t, 1) j).2 + (zshr e g (zfo (zstep (zshr e g) (r * zsz d) (c * zsz d) (zsz (d + 1))) (t, 1) j).1 ((2 * r + (j : Int) / 2) * zsz (d + 1)) ((2 * c + (j : Int) % 2) * zsz (d + 1))).2) := by
            rw [← er, ← ec]
            rfl
          rw [eJ]
          generalize zfo (zstep (zshr e g) (r * zsz d) (c * zsz d) (zsz (d + 1))) (t, 1) j = Y at *
          obtain ⟨i1, i2⟩ := ih (d + 1) (2 * r + (j : Int) / 2) (2 * c + (j : Int) % 2) Y.1 (by omega) (by omega) q1.1 q2.2 hvc (fun d2 r2 c2 hd2 hr2 hc2 ha => by
            rw [(k2 d2 r2 c2 hd2 hr2 hc2).2 (fun ⟨⟨q, hq, hz⟩, _⟩ => by
              have := zan_x (q := (q : Int)) (q2 := (j : Int)) (by omega) (by omega) hz ha
              omega)]
            exact hag d2 r2 c2 hd2 hr2 hc2 (zan_d (by omega) hd2.2 j (by omega) ha))
          refine ⟨?_, fun d2 r2 c2 hd2 hr2 hc2 => ⟨fun ⟨q, hq, hz⟩ hv2 => ?_, fun hn => ?_⟩⟩
          · dsimp only
            rw [i1, k1]
            exact Int.add_assoc _ _ _
          · dsimp only
            by_cases qj : q = j
            · subst qj
              exact (i2 d2 r2 c2 hd2 hr2 hc2).1 hz hv2
            · rw [(i2 d2 r2 c2 hd2 hr2 hc2).2 (fun ⟨z, _⟩ => by
                have := zan_x (q := (q : Int)) (q2 := (j : Int)) (by omega) (by omega) hz z
                omega)]
              exact (k2 d2 r2 c2 hd2 hr2 hc2).1 ⟨q, by omega, hz⟩ hv2
          · dsimp only
            rw [(i2 d2 r2 c2 hd2 hr2 hc2).2 (fun ⟨z, z2⟩ => hn ⟨⟨j, by omega, z⟩, z2⟩)]
            exact (k2 d2 r2 c2 hd2 hr2 hc2).2 (fun ⟨⟨q, hq, z⟩, z2⟩ => hn ⟨⟨q, by omega, z⟩, z2⟩)
      obtain ⟨p1, p2⟩ := parts 4 (Nat.le_refl _)
      have hnode : (zfo (zstep (zshr e g) (r * zsz d) (c * zsz d) (zsz (d + 1))) (t, 1) 4).1 (zmn d r c) = 3 := by
        rw [(p2 d r c hds hr hc).2 (fun ⟨⟨q, hq, z⟩, _⟩ => by have := z.1; omega)]
        exact h3
      rw [eS]
      generalize zfo (zstep (zshr e g) (r * zsz d) (c * zsz d) (zsz (d + 1))) (t, 1) 4 = Y at *
      obtain ⟨f1, f2, f3⟩ := fin d r c Y.1 3 Y.2 hds hr hc hnode
      have en : znw e t0 (g + 1) d r c = zsn (zone e (r * zsz d) (c * zsz d) (zsz d)) (zsz d) 3 Y.2 := by
        rw [znw_s, if_pos h30, h30, p1]
      rw [en]
      refine ⟨f1, fun d2 r2 c2 hd2 hr2 hc2 => ⟨fun ha hv2 => ?_, fun hn => ?_⟩⟩
      · rcases zan_u (by omega) hd2.2 ha with h | ⟨q, hq, hz⟩
        · rw [h.1, h.2.1, h.2.2, show (3 - d).toNat = g + 1 by omega, en]
          exact f2
        · rw [f3 _ (fun z => by
            have q9 := zmn_inj hd2 hr2 hc2 hds hr hc z
            have := hz.1
            omega)]
          exact (p2 d2 r2 c2 hd2 hr2 hc2).1 ⟨q, hq, hz⟩ hv2
      · have hne : zmn d2 r2 c2 ≠ zmn d r c := fun z => by
          have q := zmn_inj hd2 hr2 hc2 hds hr hc z
          refine hn ⟨⟨by omega, ?_, ?_⟩, ?_⟩
          · rw [q.1, show d - d = 0 by omega, show zp2 0 = 1 from rfl, q.2.1]
            omega
          · rw [q.1, show d - d = 0 by omega, show zp2 0 = 1 from rfl, q.2.2]
            omega
          · rw [q.1, q.2.1, q.2.2]
            exact hv
        rw [f3 _ hne]
        exact (p2 d2 r2 c2 hd2 hr2 hc2).2 (fun ⟨⟨q, hq, z⟩, z2⟩ => hn ⟨zan_d (by omega) hd2.2 q (by omega) z, z2⟩)
    · rw [if_neg h3] at eS
      exact leaf d r c t (g + 1) hg hds hr hc hv h0 (Or.inr (by rw [← h0]; exact h3)) (by rw [eS, h0])
