theorem zib_4 {j d r c : Int} (hd : 0 ≤ d ∧ d ≤ 2) (hj : 0 ≤ j ∧ j < 256) (h : zib j d r c) : ∃ q : Nat, q < 4 ∧ zib j (d + 1) (2 * r + (q : Int) / 2) (2 * c + (q : Int) % 2) := by
  obtain ⟨a, b⟩ := h
  subst a b
  have h2 : ∀ x, 0 ≤ x → x < 16 → x / zsz d = x / zsz (d + 1) / 2 := fun x x0 x1 => by
    have h3 : d = 0 ∨ d = 1 ∨ d = 2 := by omega
    rcases h3 with rfl | rfl | rfl <;> simp [zsz] <;> omega
  have a1 := h2 (j / 16) (by omega) (by omega)
  have a2 := h2 (j % 16) (by omega) (by omega)
  refine ⟨((j / 16 / zsz (d + 1)) % 2 * 2 + (j % 16 / zsz (d + 1)) % 2).toNat, by omega, ?_, ?_⟩ <;> omega
section
variable {f : Int → Int} {L : Int} {R : zRVs} {V : Int → Bool × Int × Int}
theorem zRB_s (R : zRVs) (V : Int → Bool × Int × Int) (f : Int → Int) (L : Int) (g : Nat) (d row col : Int) (S : zPS) : zRB R V f L (g + 1) d row col S = zR0 R V f L d row col S (if zpk f L S.p 40 = true then zRC f L (zps4 (fun q T => zRB R V f L g (d + 1) (row + q / 2 * zsz (d + 1)) (col + q % 2 * zsz (d + 1)) T) (zlc d row col (zpa f L 40 S)) 4) else (false, S)) := rfl
theorem zps4_s (B : Int → zPS → Bool × zPS) (S : zPS) (k : Nat) : zps4 B S (k + 1) = if (zps4 B S k).1 = true then B k (zps4 B S k).2 else zps4 B S k := rfl
theorem zRB_pe (h : isKT R V f L) (hL : 0 ≤ L ∧ L ≤ 80) : ∀ (g : Nat) (d r c : Int) (S S2 : zPS), d = 3 - g → 0 ≤ d → (0 ≤ r ∧ r < zp2 d) → (0 ≤ c ∧ c < zp2 d) → S.p = S2.p → (0 ≤ S.p ∧ S.p ≤ 80) → zPe g d r c S S2 (zRB R V f L g d (r * zsz d) (c * zsz d) S) (zRB R V f L g d (r * zsz d) (c * zsz d) S2) := by
  intro g
  induction g with
  | zero =>
    intro d r c S S2 hg hd hr hc hp hpi
    exact zR0_pe h hL (by omega) hr hc hp hpi (zfail_pe hp hpi)
  | succ g ih =>
    intro d r c S S2 hg hd hr hc hp hpi
    have hds : 0 ≤ d ∧ d ≤ 3 := by omega
    rw [zRB_s, zRB_s]
    refine zR0_pe h hL hds hr hc hp hpi ?_
    rw [← hp]
    by_cases c4 : zpk f L S.p 40 = true
    · rw [if_pos c4, if_pos c4]
      have hpa := zpp_in (f := f) (L := L) (p := S.p) 40 ⟨hpi.2, hL.2⟩
      have h2 : zsz d = 2 * zsz (d + 1) := by
        have h3 : d = 0 ∨ d = 1 ∨ d = 2 := by omega
        rcases h3 with rfl | rfl | rfl <;> decide
      obtain ⟨A, hA⟩ : ∃ A, A = zlc d (r * zsz d) (c * zsz d) (zpa f L 40 S) := ⟨_, rfl⟩
      obtain ⟨A2, hA2⟩ : ∃ A2, A2 = zlc d (r * zsz d) (c * zsz d) (zpa f L 40 S2) := ⟨_, rfl⟩
      have pA : A.p = zpp f L S.p 40 := by rw [hA]; rfl
      have pA2 : A2.p = zpp f L S.p 40 := by rw [hA2, hp]; rfl
      have eA : A.e = S.e := by rw [hA]; rfl
      have eA2 : A2.e = S2.e := by rw [hA2]; rfl
      have tA : A.t = zu S.t (zmn d r c) 3 := by rw [hA, ← zno_b hds]; rfl
      have tA2 : A2.t = zu S2.t (zmn d r c) 3 := by rw [hA2, ← zno_b hds]; rfl
      rw [← hA, ← hA2]
      have parts : ∀ j : Nat, j ≤ 4 → ∀ B B2 : Bool × zPS, B = zps4 (fun q T => zRB R V f L g (d + 1) (r * zsz d + q / 2 * zsz (d + 1)) (c * zsz d + q % 2 * zsz (d + 1)) T) A j → B2 = zps4 (fun q T => zRB R V f L g (d + 1) (r * zsz d + q / 2 * zsz (d + 1)) (c * zsz d + q % 2 * zsz (d + 1)) T) A2 j → B.1 = B2.1 ∧ B.2.p = B2.2.p ∧ (0 ≤ B.2.p ∧ B.2.p ≤ 80) ∧ (B.1 = true → (∀ d2 r2 c2, (0 ≤ d2 ∧ d2 ≤ 3) → (0 ≤ r2 ∧ r2 < zp2 d2) → (0 ≤ c2 ∧ c2 < zp2 d2) → (∀ q : Nat, q < j → ¬ zan (d + 1) (2 * r + (q : Int) / 2) (2 * c + (q : Int) % 2) d2 r2 c2) → B.2.t (zmn d2 r2 c2) = A.t (zmn d2 r2 c2) ∧ B2.2.t (zmn d2 r2 c2) = A2.t (zmn d2 r2 c2)) ∧ (∀ i, 0 ≤ i → i < 256 → (∀ q : Nat, q < j → ¬ zib i (d + 1) (2 * r + (q : Int) / 2) (2 * c + (q : Int) % 2)) → B.2.e i = A.e i ∧ B2.2.e i = A2.e i) ∧ (∀ i, 0 ≤ i → i < 256 → (∃ q : Nat, q < j ∧ zib i (d + 1) (2 * r + (q : Int) / 2) (2 * c + (q : Int) % 2)) → B.2.e i = B2.2.e i) ∧ ∀ q : Nat, q < j → zPt B.2.t B2.2.t B2.2.e g (d + 1) (2 * r + (q : Int) / 2) (2 * c + (q : Int) % 2)) := by
        intro j
        induction j with
        | zero =>
          intro _ B B2 e e2
          rw [e, e2]
          refine ⟨rfl, pA.trans pA2.symm, show 0 ≤ A.p ∧ A.p ≤ 80 by rw [pA]; omega, fun _ => ⟨fun _ _ _ _ _ _ _ => ⟨rfl, rfl⟩, fun _ _ _ _ => ⟨rfl, rfl⟩, fun _ _ _ ⟨q, hq, _⟩ => absurd hq (by omega), fun q hq => absurd hq (by omega)⟩⟩
        | succ j ihj =>
          intro hj B B2 e e2
          obtain ⟨k1, k2, k3, k4⟩ := ihj (by omega) _ _ rfl rfl
          rw [zps4_s] at e e2
          generalize zps4 (fun q T => zRB R V f L g (d + 1) (r * zsz d + q / 2 * zsz (d + 1)) (c * zsz d + q % 2 * zsz (d + 1)) T) A j = Y at *
          generalize zps4 (fun q T => zRB R V f L g (d + 1) (r * zsz d + q / 2 * zsz (d + 1)) (c * zsz d + q % 2 * zsz (d + 1)) T) A2 j = Y2 at *
          by_cases ok : Y.1 = true
          · rw [if_pos ok] at e
            rw [if_pos (k1.symm.trans ok)] at e2
            obtain ⟨m1, m2, m3, m4⟩ := k4 ok
            have q1 := zpq (k := j) (d := d) (by omega) hr (by omega)
            have q2 := zpq (k := j) (d := d) (by omega) hc (by omega)
            have er : r * zsz d + (j : Int) / 2 * zsz (d + 1) = (2 * r + (j : Int) / 2) * zsz (d + 1) := by
              rw [h2, Int.add_mul, ← Int.mul_assoc, Int.mul_comm r 2]
            have ec : c * zsz d + (j : Int) % 2 * zsz (d + 1) = (2 * c + (j : Int) % 2) * zsz (d + 1) := by
              rw [h2, Int.add_mul, ← Int.mul_assoc, Int.mul_comm c 2]
            rw [er, ec] at e e2
            have i := ih (d + 1) (2 * r + (j : Int) / 2) (2 * c + (j : Int) % 2) Y.2 Y2.2 (by omega) (by omega) q1.1 q2.2 k2 k3
            rw [← e, ← e2] at i
            obtain ⟨i1, i2, i3, i4⟩ := i
            refine ⟨i1, i2, i3, fun w => ?_⟩
            obtain ⟨f1, f2, f3, f4⟩ := i4 w
            have sep : ∀ {q : Nat} {i : Int}, q < 4 → zib i (d + 1) (2 * r + (q : Int) / 2) (2 * c + (q : Int) % 2) → zib i (d + 1) (2 * r + (j : Int) / 2) (2 * c + (j : Int) % 2) → q = j := fun {q i} hq a b => by
              have a1 := a.1.symm.trans b.1
              have a2 := a.2.symm.trans b.2
              omega
            refine ⟨fun d2 r2 c2 hd2 hr2 hc2 hn => ?_, fun i h1 h3 hn => ?_, fun i h1 h3 ⟨q, hq, hz⟩ => ?_, fun q hq => ?_⟩
            · obtain ⟨n1, n2⟩ := m1 d2 r2 c2 hd2 hr2 hc2 (fun q hq => hn q (by omega))
              exact ⟨(f1.1 d2 r2 c2 hd2 hr2 hc2 (hn j (by omega))).trans n1, (f2.1 d2 r2 c2 hd2 hr2 hc2 (hn j (by omega))).trans n2⟩
            · obtain ⟨n1, n2⟩ := m2 i h1 h3 (fun q hq => hn q (by omega))
              exact ⟨(f1.2 i h1 h3 (hn j (by omega))).trans n1, (f2.2 i h1 h3 (hn j (by omega))).trans n2⟩
            · by_cases qj : q = j
              · rw [qj] at hz
                exact f3 i h1 h3 hz
              · have hnj : ¬ zib i (d + 1) (2 * r + (j : Int) / 2) (2 * c + (j : Int) % 2) := fun z => qj (sep (by omega) hz z)
                rw [f1.2 i h1 h3 hnj, f2.2 i h1 h3 hnj]
                exact m3 i h1 h3 ⟨q, by omega, hz⟩
            · by_cases qj : q = j
              · rw [qj]
                exact f4
              · have q3 := zpq (k := q) (d := d) (by omega) hr (by omega)
                have q4 := zpq (k := q) (d := d) (by omega) hc (by omega)
                refine zPt.fr g (d + 1) _ _ (by omega) (by omega) q3.1 q4.2 (fun d2 r2 c2 hd2 hr2 hc2 ha => ?_) (fun i h1 h3 hz => ?_) (m4 q (by omega))
                · have hnj : ¬ zan (d + 1) (2 * r + (j : Int) / 2) (2 * c + (j : Int) % 2) d2 r2 c2 := fun z => by
                    have := zan_x (q := (q : Int)) (q2 := (j : Int)) (by omega) (by omega) ha z
                    omega
                  exact ⟨f1.1 d2 r2 c2 hd2 hr2 hc2 hnj, f2.1 d2 r2 c2 hd2 hr2 hc2 hnj⟩
                · exact f2.2 i h1 h3 (fun z => qj (sep (by omega) hz z))
          · rw [if_neg ok] at e
            rw [if_neg (fun z => ok (k1.trans z))] at e2
            rw [e, e2]
            exact ⟨k1, k2, k3, fun z => absurd z ok⟩
      obtain ⟨k1, k2, k3, k4⟩ := parts 4 (Nat.le_refl _) _ _ rfl rfl
      generalize zps4 (fun q T => zRB R V f L g (d + 1) (r * zsz d + q / 2 * zsz (d + 1)) (c * zsz d + q % 2 * zsz (d + 1)) T) A 4 = Y at *
      generalize zps4 (fun q T => zRB R V f L g (d + 1) (r * zsz d + q / 2 * zsz (d + 1)) (c * zsz d + q % 2 * zsz (d + 1)) T) A2 4 = Y2 at *
      unfold zRC
      by_cases ok : Y.1 = true
      · have hpw := zpp_in (f := f) (L := L) (p := Y.2.p) 41 ⟨k3.2, hL.2⟩
        rw [if_pos ok, if_pos (k1.symm.trans ok), ← k2]
        obtain ⟨m1, m2, m3, m4⟩ := k4 ok
        have hself := zmn_in hds hr hc
        have n0 := m1 d r c hds hr hc (fun q hq z => by have := z.1; omega)
        refine ⟨rfl, ?_, show 0 ≤ zpp f L Y.2.p 41 ∧ zpp f L Y.2.p 41 ≤ 80 by omega, fun _ => ⟨⟨fun d2 r2 c2 hd2 hr2 hc2 hn => ?_, fun i h1 h3 hn => ?_⟩, ⟨fun d2 r2 c2 hd2 hr2 hc2 hn => ?_, fun i h1 h3 hn => ?_⟩, fun i h1 h3 hz => ?_, ?_⟩⟩
        · show zpp f L Y.2.p 41 = zpp f L Y2.2.p 41
          rw [k2]
        · refine ((m1 d2 r2 c2 hd2 hr2 hc2 (fun q hq z => hn (zan_d (by omega) hd2.2 q (by omega) z))).1).trans ?_
          rw [tA]
          refine zu_n _ _ (fun z => hn ?_)
          obtain ⟨q1, q2, q3⟩ := zmn_inj hd2 hr2 hc2 hds hr hc z
          rw [q1, q2, q3]
          exact zan_r
        · refine ((m2 i h1 h3 (fun q hq z => hn (zib_an hd (by omega) (zan_d (by omega) (by omega) q (by omega) zan_r) z))).1).trans ?_
          rw [eA]
        · refine ((m1 d2 r2 c2 hd2 hr2 hc2 (fun q hq z => hn (zan_d (by omega) hd2.2 q (by omega) z))).2).trans ?_
          rw [tA2]
          refine zu_n _ _ (fun z => hn ?_)
          obtain ⟨q1, q2, q3⟩ := zmn_inj hd2 hr2 hc2 hds hr hc z
          rw [q1, q2, q3]
          exact zan_r
        · refine ((m2 i h1 h3 (fun q hq z => hn (zib_an hd (by omega) (zan_d (by omega) (by omega) q (by omega) zan_r) z))).2).trans ?_
          rw [eA2]
        · exact m3 i h1 h3 (zib_4 (by omega) ⟨h1, h3⟩ hz)
        · have z1 : Y.2.t (zmn d r c) = 3 := by
            rw [n0.1, tA]
            exact zu_s _ _ _
          have z2 : Y2.2.t (zmn d r c) = 3 := by
            rw [n0.2, tA2]
            exact zu_s _ _ _
          exact ⟨z1.trans z2.symm, fun z => absurd (z2.symm.trans z) (by decide), fun _ q hq => m4 q hq⟩
      · rw [if_neg ok, if_neg (fun z => ok (k1.trans z))]
        exact ⟨k1, k2, k3, fun z => absurd z ok⟩
    · rw [if_neg c4, if_neg c4]
      exact zfail_pe hp hpi
/-- what is read doesn't hang on what lay there -/
theorem zrd_pe (h : isKT R V f L) (hL : 0 ≤ L ∧ L ≤ 80) (S S2 : zPS) : (zrd R V f L S).1 = (zrd R V f L S2).1 ∧ (zrd R V f L S).2.p = (zrd R V f L S2).2.p ∧ (0 ≤ (zrd R V f L S).2.p ∧ (zrd R V f L S).2.p ≤ 80) ∧ ((zrd R V f L S).1 = true → zMm (zrd R V f L S).2.e (zrd R V f L S).2.t (zrd R V f L S2).2.e (zrd R V f L S2).2.t) := by
  have := zRB_pe h hL 3 0 0 0 (S.sp 0 S.x) (S2.sp 0 S2.x) (by decide) (by decide) (by decide) (by decide) rfl (show (0 : Int) ≤ 0 ∧ (0 : Int) ≤ 80 by decide)
  rw [show (0 : Int) * zsz 0 = 0 from rfl] at this
  obtain ⟨h1, h2, h3, h4⟩ := this
  refine ⟨h1, h2, h3, fun w => ?_⟩
  obtain ⟨-, -, f3, f4⟩ := h4 w
  obtain ⟨g1, g2, g3⟩ := zPt.end f4
  refine ⟨fun j j1 j2 => f3 j j1 j2 ⟨?_, ?_⟩, g1, g2, g3⟩
  · show j / 16 / 16 = 0
    omega
  · show j % 16 / 16 = 0
    omega
theorem zwl_pe (h : isKT R V f L) (hL : 0 ≤ L ∧ L ≤ 80) (S S2 : zPS) : zwl L (zrd R V f L S) = zwl L (zrd R V f L S2) := by
  obtain ⟨a, b, _⟩ := zrd_pe h hL S S2
  unfold zwl
  rw [a, b]
end
/-- the told matrix is the same on both sides -/
theorem ztl_rl {X : zSV} {S Rd : Int → Int} (h : zRl X S) {m : Int} (hm : 0 ≤ m ∧ m < 4) {T P : zPS} (hT : zMm T.e T.t P.e P.t) (hMt : zMt Rd P) (hb : zBd T.e) (hR : ∀ k, 0 ≤ k → k < 85 → 0 ≤ Rd k ∧ Rd k ≤ 3) : zRl (zsm1 (zch X (X.2.2 + 1)) m T.e T.t) (zseg (zcn S) Rd (341 * m) 341) ∧ zroom T.t 3 0 0 = zrmF (zsT (zseg (zcn S) Rd (341 * m) 341) m) 0 0 0 := by
  have hE : ∀ j, 0 ≤ j → j < 256 → zsE (zseg (zcn S) Rd (341 * m) 341) m j = P.e j := fun j j1 j2 => by
    unfold zsE zseg
    rw [if_pos (by omega), hMt.1 j j1 j2]
    congr 1
    omega
  have hK : ∀ k, 0 ≤ k → k < 85 → zsT (zseg (zcn S) Rd (341 * m) 341) m k = P.t k := fun k k1 k2 => by
    unfold zsT zseg
    rw [if_pos (by omega), hMt.2 k k1 k2]
    congr 1
    omega
  have hmm := hT.cg (fun j j1 j2 => (hE j j1 j2).symm) (zSim.of (fun k k1 k2 => (hK k k1 k2).symm))
  refine ⟨h.ch hm (fun m2 hm2 hne => ⟨fun j j1 j2 => ?_, fun k k1 k2 => ?_⟩) ?_ hmm (fun k k1 k2 => ?_) (fun j j1 j2 => ?_), ?_⟩
  · unfold zsE zseg zcn
    rw [if_neg (by omega), zu_n _ _ (by omega)]
  · unfold zsT zseg zcn
    rw [if_neg (by omega), zu_n _ _ (by omega)]
  · unfold zseg zcn
    rw [if_neg (by omega), zu_s]
  · rw [hK k k1 k2, hMt.2 k k1 k2]
    exact hR k k1 k2
  · rw [← hmm.1 j j1 j2]
    exact hb j
  · rw [zroom_F (hmm.2.1.symm.Vl hmm.2.2.1), hmm.2.1.room]
