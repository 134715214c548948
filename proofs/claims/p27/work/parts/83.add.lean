/-- an entry in a block -/
def zib (j d r c : Int) : Prop := j / 16 / zsz d = r ∧ j % 16 / zsz d = c
theorem zib_sq {j d r c : Int} (hd : 0 ≤ d ∧ d ≤ 3) : zib j d r c ↔ (r * zsz d ≤ j / 16 ∧ j / 16 < r * zsz d + zsz d) ∧ c * zsz d ≤ j % 16 ∧ j % 16 < c * zsz d + zsz d := by
  unfold zib
  rcases zsz_v hd with ⟨-, q⟩ | ⟨-, q⟩ | ⟨-, q⟩ | ⟨-, q⟩ <;> rw [q] <;> omega
theorem zib_an {j d r c d2 r2 c2 : Int} (hd : 0 ≤ d) (hd2 : d2 ≤ 3) (h : zan d r c d2 r2 c2) (hj : zib j d2 r2 c2) : zib j d r c := by
  obtain ⟨h1, h2, h3⟩ := h
  obtain ⟨j1, j2⟩ := hj
  unfold zib
  rw [← h2, ← h3, ← j1, ← j2]
  have h4 : (d = 0 ∨ d = 1 ∨ d = 2 ∨ d = 3) ∧ (d2 = 0 ∨ d2 = 1 ∨ d2 = 2 ∨ d2 = 3) := by omega
  rcases h4 with ⟨rfl | rfl | rfl | rfl, rfl | rfl | rfl | rfl⟩ <;> simp [zp2, zsz] at * <;> omega
/-- what both have cut above a block -/
def zon (t tq : Int → Int) (d r c : Int) : Bool := zvis t d r c && zvis tq d r c
/-- a block in which the sum is made -/
def zht (t tq : Int → Int) (d r c : Int) : Prop := zon t tq d r c = true ∧ ¬ (tq (zmn d r c) = 3 ∧ t (zmn d r c) = 3) ∧ tq (zmn d r c) ≠ 0
def zhi (t tq : Int → Int) (d r c j : Int) : Prop := ∃ d2 r2 c2, (0 ≤ d2 ∧ d2 ≤ 3) ∧ (0 ≤ r2 ∧ r2 < zp2 d2) ∧ (0 ≤ c2 ∧ c2 < zp2 d2) ∧ zan d r c d2 r2 c2 ∧ zht t tq d2 r2 c2 ∧ zib j d2 r2 c2
theorem zan_r {d r c : Int} : zan d r c d r c := ⟨Int.le_refl _, by rw [Int.sub_self, show zp2 0 = 1 from rfl]; omega, by rw [Int.sub_self, show zp2 0 = 1 from rfl]; omega⟩
theorem zan_0 {d r c r2 c2 : Int} (h : zan d r c d r2 c2) : r2 = r ∧ c2 = c := by
  obtain ⟨-, h2, h3⟩ := h
  rw [Int.sub_self, show zp2 0 = 1 from rfl] at h2 h3
  omega
theorem zon_s (t tq : Int → Int) {d r c k : Int} (hd : 0 ≤ d ∧ d ≤ 2) (hk : 0 ≤ k ∧ k < 4) : zon t tq (d + 1) (2 * r + k / 2) (2 * c + k % 2) = (zon t tq d r c && decide (tq (zmn d r c) = 3 ∧ t (zmn d r c) = 3)) := by
  unfold zon
  rw [zvis_s _ hd hk, zvis_s _ hd hk]
  by_cases a : t (zmn d r c) = 3 <;> by_cases b : tq (zmn d r c) = 3 <;> simp [a, b]
theorem zon_d (t tq : Int → Int) {d : Int} (r c : Int) (hd : 0 ≤ d ∧ d ≤ 2) : zon t tq (d + 1) r c = (zon t tq d (r / 2) (c / 2) && decide (tq (zmn d (r / 2) (c / 2)) = 3 ∧ t (zmn d (r / 2) (c / 2)) = 3)) := by
  unfold zon
  rw [zvis_d _ _ _ hd, zvis_d _ _ _ hd]
  by_cases a : t (zmn d (r / 2) (c / 2)) = 3 <;> by_cases b : tq (zmn d (r / 2) (c / 2)) = 3 <;> simp [a, b]
/-- below a block that isn't cut in both there is none -/
theorem zht_x {t tq : Int → Int} {d r c d2 r2 c2 : Int} (hd : 0 ≤ d) (hd2 : d2 ≤ 3) (hn : ¬ (tq (zmn d r c) = 3 ∧ t (zmn d r c) = 3)) (ha : zan d r c d2 r2 c2) (h : zon t tq d2 r2 c2 = true) : d2 = d ∧ r2 = r ∧ c2 = c := by
  by_cases q : d2 = d
  · subst q
    have := zan_0 ha
    exact ⟨rfl, this⟩
  · exfalso
    unfold zon at h
    rw [Bool.and_eq_true] at h
    have hlt : d < d2 := by have := ha.1; omega
    have k1 := zvk_le (k := d2.toNat) h.1 (a := d.toNat) (by omega)
    have k2 := zvk_le (k := d2.toNat) h.2 (a := d.toNat) (by omega)
    rw [Int.toNat_of_nonneg hd, ha.2.1, ha.2.2] at k1 k2
    exact hn ⟨k2, k1⟩
/-- what the class's sum leaves -/
def zje (e0 eq t0 tq : Int → Int) (x d r c : Int) (p P : (Int → Int) × (Int → Int)) : Prop := (∀ d2 r2 c2, (0 ≤ d2 ∧ d2 ≤ 3) → (0 ≤ r2 ∧ r2 < zp2 d2) → (0 ≤ c2 ∧ c2 < zp2 d2) → (zan d r c d2 r2 c2 → zht t0 tq d2 r2 c2 → P.2 (zmn d2 r2 c2) = 1) ∧ (¬ (zan d r c d2 r2 c2 ∧ zht t0 tq d2 r2 c2) → P.2 (zmn d2 r2 c2) = p.2 (zmn d2 r2 c2))) ∧ ∀ j, 0 ≤ j → j < 256 → (zhi t0 tq d r c j → P.1 j = zclp (e0 j + eq j * x)) ∧ (¬ zhi t0 tq d r c j → P.1 j = p.1 j)
theorem zjn_e {e0 eq t0 tq : Int → Int} {x : Int} : ∀ (f : Nat) (d r c : Int) (p : (Int → Int) × (Int → Int)), d = 3 - f → 0 ≤ d → (0 ≤ r ∧ r < zp2 d) → (0 ≤ c ∧ c < zp2 d) → zVl t0 → zon t0 tq d r c = true → (∀ d2 r2 c2, (0 ≤ d2 ∧ d2 ≤ 3) → (0 ≤ r2 ∧ r2 < zp2 d2) → (0 ≤ c2 ∧ c2 < zp2 d2) → zan d r c d2 r2 c2 → p.2 (zmn d2 r2 c2) = t0 (zmn d2 r2 c2)) → (∀ j, 0 ≤ j → j < 256 → zib j d r c → p.1 j = e0 j) → zje e0 eq t0 tq x d r c p (zjn eq tq x f p (r * zsz d) (c * zsz d)) := by
  -- a block that isn't cut in both
  have leaf : ∀ (f : Nat) (d r c : Int) (p : (Int → Int) × (Int → Int)), (0 ≤ d ∧ d ≤ 3) → (0 ≤ r ∧ r < zp2 d) → (0 ≤ c ∧ c < zp2 d) → zon t0 tq d r c = true → (∀ j, 0 ≤ j → j < 256 → zib j d r c → p.1 j = e0 j) → ¬ (tq (zmn d r c) = 3 ∧ t0 (zmn d r c) = 3) → zjn eq tq x f p (r * zsz d) (c * zsz d) = (if tq (zmn d r c) = 0 then p else (zjoE eq x (r * zsz d) (c * zsz d) (zsz d) p.1, zu p.2 (zmn d r c) 1)) → zje e0 eq t0 tq x d r c p (zjn eq tq x f p (r * zsz d) (c * zsz d)) := by
    intro f d r c p hd hr hc ho he hn e
    rw [e]
    by_cases h0 : tq (zmn d r c) = 0
    · rw [if_pos h0]
      have hno : ∀ d2 r2 c2, d2 ≤ 3 → zan d r c d2 r2 c2 → ¬ zht t0 tq d2 r2 c2 := fun d2 r2 c2 hd2 ha hz => by
        obtain ⟨q1, q2, q3⟩ := zht_x hd.1 hd2 hn ha hz.1
        rw [q1, q2, q3] at hz
        exact hz.2.2 h0
      refine ⟨fun d2 r2 c2 hd2 _ _ => ⟨fun ha hz => absurd hz (hno _ _ _ hd2.2 ha), fun _ => rfl⟩, fun j _ _ => ⟨fun ⟨d2, r2, c2, hd2, _, _, ha, hz, _⟩ => absurd hz (hno _ _ _ hd2.2 ha), fun _ => rfl⟩⟩
    · rw [if_neg h0]
      have hself : zht t0 tq d r c := ⟨ho, hn, h0⟩
      refine ⟨fun d2 r2 c2 hd2 hr2 hc2 => ⟨fun ha hz => ?_, fun hz => ?_⟩, fun j j1 j2 => ⟨fun ⟨d2, r2, c2, hd2, _, _, ha, hz, hj⟩ => ?_, fun hz => ?_⟩⟩
      · obtain ⟨q1, q2, q3⟩ := zht_x hd.1 hd2.2 hn ha hz.1
        rw [q1, q2, q3]
        exact zu_s _ _ _
      · refine zu_n _ _ (fun w => hz ?_)
        obtain ⟨q1, q2, q3⟩ := zmn_inj hd2 hr2 hc2 hd hr hc w
        rw [q1, q2, q3]
        exact ⟨zan_r, hself⟩
      · have hj2 := zib_an hd.1 hd2.2 ha hj
        show zjoE eq x (r * zsz d) (c * zsz d) (zsz d) p.1 j = _
        unfold zjoE zsq
        rw [if_pos ((zib_sq hd).mp hj2)]
        dsimp only
        rw [he j j1 j2 hj2]
      · show zjoE eq x (r * zsz d) (c * zsz d) (zsz d) p.1 j = _
        unfold zjoE zsq
        rw [if_neg (fun w => hz ⟨d, r, c, hd, hr, hc, zan_r, hself, (zib_sq hd).mpr w⟩)]
  intro f
  induction f with
  | zero =>
    intro d r c p hf hd hr hc hvl ho ht he
    have e3 : d = 3 := by omega
    have hv3 : t0 (zmn d r c) ≠ 3 := by
      rw [e3] at hr hc ho ⊢
      unfold zon at ho
      rw [Bool.and_eq_true] at ho
      exact hvl r c hr hc ho.1
    refine leaf 0 d r c p (by omega) hr hc ho he (fun z => hv3 z.2) ?_
    show (if tq (zno 3 (r * zsz d) (c * zsz d)) = 0 then p else (zjoE eq x (r * zsz d) (c * zsz d) (zsz 3) p.1, zu p.2 (zno 3 (r * zsz d) (c * zsz d)) 1)) = _
    rw [e3, zno_b (by decide)]
  | succ f ih =>
    intro d r c p hf hd hr hc hvl ho ht he
    have hds : 0 ≤ d ∧ d ≤ 3 := by omega
    have e2 : (2 - f : Int) = d := by omega
    have e3 : (3 - f : Int) = d + 1 := by omega
    have eS := zjn_s eq tq x f p (r * zsz d) (c * zsz d)
    rw [e2, e3, zno_b hds, ht d r c hds hr hc zan_r] at eS
    by_cases hb : t0 (zmn d r c) = 3 ∧ tq (zmn d r c) = 3
    · rw [if_neg (by omega), if_pos hb] at eS
      rw [eS]
      have h2 : zsz d = 2 * zsz (d + 1) := by
        have h3 : d = 0 ∨ d = 1 ∨ d = 2 := by omega
        rcases h3 with rfl | rfl | rfl <;> decide
      have parts : ∀ j : Nat, j ≤ 4 → (∀ d2 r2 c2, (0 ≤ d2 ∧ d2 ≤ 3) → (0 ≤ r2 ∧ r2 < zp2 d2) → (0 ≤ c2 ∧ c2 < zp2 d2) → ((∃ q : Nat, q < j ∧ zan (d + 1) (2 * r + (q : Int) / 2) (2 * c + (q : Int) % 2) d2 r2 c2) → zht t0 tq d2 r2 c2 → (zfo (fun p k => zjn eq tq x f p (r * zsz d + k / 2 * zsz (d + 1)) (c * zsz d + k % 2 * zsz (d + 1))) p j).2 (zmn d2 r2 c2) = 1) ∧ (¬ ((∃ q : Nat, q < j ∧ zan (d + 1) (2 * r + (q : Int) / 2) (2 * c + (q : Int) % 2) d2 r2 c2) ∧ zht t0 tq d2 r2 c2) → (zfo (fun p k => zjn eq tq x f p (r * zsz d + k / 2 * zsz (d + 1)) (c * zsz d + k % 2 * zsz (d + 1))) p j).2 (zmn d2 r2 c2) = p.2 (zmn d2 r2 c2))) ∧ ∀ i, 0 ≤ i → i < 256 → ((∃ q : Nat, q < j ∧ zhi t0 tq (d + 1) (2 * r + (q : Int) / 2) (2 * c + (q : Int) % 2) i) → (zfo (fun p k => zjn eq tq x f p (r * zsz d + k / 2 * zsz (d + 1)) (c * zsz d + k % 2 * zsz (d + 1))) p j).1 i = zclp (e0 i + eq i * x)) ∧ (¬ (∃ q : Nat, q < j ∧ zhi t0 tq (d + 1) (2 * r + (q : Int) / 2) (2 * c + (q : Int) % 2) i) → (zfo (fun p k => zjn eq tq x f p (r * zsz d + k / 2 * zsz (d + 1)) (c * zsz d + k % 2 * zsz (d + 1))) p j).1 i = p.1 i) := by
        intro j
        induction j with
        | zero =>
          intro _
          exact ⟨fun d2 r2 c2 _ _ _ => ⟨fun ⟨q, hq, _⟩ => absurd hq (by omega), fun _ => rfl⟩, fun i _ _ => ⟨fun ⟨q, hq, _⟩ => absurd hq (by omega), fun _ => rfl⟩⟩
        | succ j ihj =>
          intro hj
          obtain ⟨k1, k2⟩ := ihj (by omega)
          have q1 := zpq (k := j) (d := d) (by omega) hr (by omega)
          have q2 := zpq (k := j) (d := d) (by omega) hc (by omega)
          have er : r * zsz d + (j : Int) / 2 * zsz (d + 1) = (2 * r + (j : Int) / 2) * zsz (d + 1) := by
            rw [h2, Int.add_mul, ← Int.mul_assoc, Int.mul_comm r 2]
          have ec : c * zsz d + (j : Int) % 2 * zsz (d + 1) = (2 * c + (j : Int) % 2) * zsz (d + 1) := by
            rw [h2, Int.add_mul, ← Int.mul_assoc, Int.mul_comm c 2]
          have eJ : zfo (fun p k => zjn eq tq x f p (r * zsz d + k / 2 * zsz (d + 1)) (c * zsz d + k % 2 * zsz (d + 1))) p (j + 1) = zjn eq tq x f (zfo (fun p k => zjn eq tq x f p (r * zsz d + k / 2 * zsz (d + 1)) (c * zsz d + k % 2 * zsz (d + 1))) p j) ((2 * r + (j : Int) / 2) * zsz (d + 1)) ((2 * c + (j : Int) % 2) * zsz (d + 1)) := by
            rw [← er, ← ec]
            rfl
          rw [eJ]
          generalize zfo (fun p k => zjn eq tq x f p (r * zsz d + k / 2 * zsz (d + 1)) (c * zsz d + k % 2 * zsz (d + 1))) p j = Y at *
          -- no entry is in two of the four
          have sep : ∀ {q : Nat} {i : Int}, q < 4 → zib i (d + 1) (2 * r + (q : Int) / 2) (2 * c + (q : Int) % 2) → zib i (d + 1) (2 * r + (j : Int) / 2) (2 * c + (j : Int) % 2) → q = j := fun {q i} hq a b => by
            have a1 := a.1.symm.trans b.1
            have a2 := a.2.symm.trans b.2
            omega
          have hii : ∀ {q : Nat} {i : Int}, zhi t0 tq (d + 1) (2 * r + (q : Int) / 2) (2 * c + (q : Int) % 2) i → zib i (d + 1) (2 * r + (q : Int) / 2) (2 * c + (q : Int) % 2) := fun {q i} ⟨d2, r2, c2, hd2, _, _, ha, _, hi⟩ => zib_an (by omega) hd2.2 ha hi
          obtain ⟨i1, i2⟩ := ih (d + 1) (2 * r + (j : Int) / 2) (2 * c + (j : Int) % 2) Y (by omega) (by omega) q1.1 q2.2 hvl (by rw [zon_s _ _ (by omega) (by omega), ho, decide_eq_true (And.symm hb)]; rfl) (fun d2 r2 c2 hd2 hr2 hc2 ha => by
            rw [(k1 d2 r2 c2 hd2 hr2 hc2).2 (fun ⟨⟨q, hq, hz⟩, _⟩ => by
              have := zan_x (q := (q : Int)) (q2 := (j : Int)) (by omega) (by omega) hz ha
              omega)]
            exact ht d2 r2 c2 hd2 hr2 hc2 (zan_d (by omega) hd2.2 j (by omega) ha)) (fun i h1 h3 hi => by
            rw [(k2 i h1 h3).2 (fun ⟨q, hq, hz⟩ => by
              have := sep (q := q) (by omega) (hii hz) hi
              omega)]
            exact he i h1 h3 (zib_an hd (by omega) (zan_d (by omega) (by omega) j (by omega) zan_r) hi))
          refine ⟨fun d2 r2 c2 hd2 hr2 hc2 => ⟨fun ⟨q, hq, hz⟩ hv2 => ?_, fun hn => ?_⟩, fun i h1 h3 => ⟨fun ⟨q, hq, hz⟩ => ?_, fun hn => ?_⟩⟩
          · by_cases qj : q = j
            · subst qj
              exact (i1 d2 r2 c2 hd2 hr2 hc2).1 hz hv2
            · rw [(i1 d2 r2 c2 hd2 hr2 hc2).2 (fun ⟨z, _⟩ => by
                have := zan_x (q := (q : Int)) (q2 := (j : Int)) (by omega) (by omega) hz z
                omega)]
              exact (k1 d2 r2 c2 hd2 hr2 hc2).1 ⟨q, by omega, hz⟩ hv2
          · rw [(i1 d2 r2 c2 hd2 hr2 hc2).2 (fun ⟨z, z2⟩ => hn ⟨⟨j, by omega, z⟩, z2⟩)]
            exact (k1 d2 r2 c2 hd2 hr2 hc2).2 (fun ⟨⟨q, hq, z⟩, z2⟩ => hn ⟨⟨q, by omega, z⟩, z2⟩)
          · by_cases qj : q = j
            · subst qj
              exact (i2 i h1 h3).1 hz
            · rw [(i2 i h1 h3).2 (fun z => qj (sep (by omega) (hii hz) (hii z)))]
              exact (k2 i h1 h3).1 ⟨q, by omega, hz⟩
          · rw [(i2 i h1 h3).2 (fun z => hn ⟨j, by omega, z⟩)]
            exact (k2 i h1 h3).2 (fun ⟨q, hq, z⟩ => hn ⟨q, by omega, z⟩)
      obtain ⟨p1, p2⟩ := parts 4 (Nat.le_refl _)
      have hnh : ¬ zht t0 tq d r c := fun z => z.2.1 (And.symm hb)
      have up : ∀ {d2 r2 c2 : Int}, d2 ≤ 3 → zan d r c d2 r2 c2 → zht t0 tq d2 r2 c2 → ∃ q : Nat, q < 4 ∧ zan (d + 1) (2 * r + (q : Int) / 2) (2 * c + (q : Int) % 2) d2 r2 c2 := fun {d2 r2 c2} hd2 ha hz => by
        rcases zan_u (by omega) hd2 ha with h | h
        · rw [h.1, h.2.1, h.2.2] at hz
          exact absurd hz hnh
        · exact h
      refine ⟨fun d2 r2 c2 hd2 hr2 hc2 => ⟨fun ha hz => (p1 d2 r2 c2 hd2 hr2 hc2).1 (up hd2.2 ha hz) hz, fun hn => (p1 d2 r2 c2 hd2 hr2 hc2).2 (fun ⟨⟨q, hq, z⟩, z2⟩ => hn ⟨zan_d (by omega) hd2.2 q (by omega) z, z2⟩)⟩, fun i h1 h3 => ⟨fun ⟨d2, r2, c2, hd2, hr2, hc2, ha, hz, hi⟩ => (p2 i h1 h3).1 ?_, fun hn => (p2 i h1 h3).2 (fun ⟨q, hq, d2, r2, c2, hd2, hr2, hc2, ha, hz, hi⟩ => hn ⟨d2, r2, c2, hd2, hr2, hc2, zan_d (by omega) hd2.2 q (by omega) ha, hz, hi⟩)⟩⟩
      obtain ⟨q, hq, h⟩ := up hd2.2 ha hz
      exact ⟨q, hq, d2, r2, c2, hd2, hr2, hc2, h, hz, hi⟩
    · refine leaf (f + 1) d r c p hds hr hc ho he (fun z => hb (And.symm z)) ?_
      rw [eS]
      by_cases h0 : tq (zmn d r c) = 0
      · rw [if_pos h0, if_pos h0]
      · rw [if_neg h0, if_neg h0, if_neg hb]
