/-- two texts' matrices are one on all that is there, below a block -/
def zPt (t t2 e2 : Int → Int) : Nat → Int → Int → Int → Prop
  | 0, d, r, c => t (zmn d r c) = t2 (zmn d r c) ∧ (t2 (zmn d r c) = 0 → zallz e2 (r * zsz d) (c * zsz d) (zsz d)) ∧ t2 (zmn d r c) ≠ 3
  | g + 1, d, r, c => t (zmn d r c) = t2 (zmn d r c) ∧ (t2 (zmn d r c) = 0 → zallz e2 (r * zsz d) (c * zsz d) (zsz d)) ∧ (t2 (zmn d r c) = 3 → ∀ q : Nat, q < 4 → zPt t t2 e2 g (d + 1) (2 * r + (q : Int) / 2) (2 * c + (q : Int) % 2))
theorem zib_al {e e2 : Int → Int} {d r c : Int} (hd : 0 ≤ d ∧ d ≤ 3) (hr : 0 ≤ r ∧ r < zp2 d) (hc : 0 ≤ c ∧ c < zp2 d) (h : ∀ j, 0 ≤ j → j < 256 → zib j d r c → e2 j = e j) (hz : zallz e (r * zsz d) (c * zsz d) (zsz d)) : zallz e2 (r * zsz d) (c * zsz d) (zsz d) := by
  intro i j i1 i2 j1 j2
  have b1 := zbl hd hr
  have b2 := zbl hd hc
  rw [h (i * 16 + j) (by omega) (by omega) ((zib_sq hd).mpr (by omega))]
  exact hz i j i1 i2 j1 j2
theorem zPt.fr {t t2 e2 u u2 f2 : Int → Int} : ∀ (g : Nat) (d r c : Int), d = 3 - g → 0 ≤ d → (0 ≤ r ∧ r < zp2 d) → (0 ≤ c ∧ c < zp2 d) → (∀ d2 r2 c2, (0 ≤ d2 ∧ d2 ≤ 3) → (0 ≤ r2 ∧ r2 < zp2 d2) → (0 ≤ c2 ∧ c2 < zp2 d2) → zan d r c d2 r2 c2 → u (zmn d2 r2 c2) = t (zmn d2 r2 c2) ∧ u2 (zmn d2 r2 c2) = t2 (zmn d2 r2 c2)) → (∀ j, 0 ≤ j → j < 256 → zib j d r c → f2 j = e2 j) → zPt t t2 e2 g d r c → zPt u u2 f2 g d r c
  | 0, d, r, c, hg, hd, hr, hc, hn, he, h => by
    obtain ⟨k1, k2⟩ := hn d r c (by omega) hr hc zan_r
    obtain ⟨h1, h2, h3⟩ := h
    refine ⟨by rw [k1, k2]; exact h1, fun z => zib_al (by omega) hr hc he (h2 (by rw [← k2]; exact z)), by rw [k2]; exact h3⟩
  | g + 1, d, r, c, hg, hd, hr, hc, hn, he, h => by
    obtain ⟨k1, k2⟩ := hn d r c (by omega) hr hc zan_r
    obtain ⟨h1, h2, h3⟩ := h
    refine ⟨by rw [k1, k2]; exact h1, fun z => zib_al (by omega) hr hc he (h2 (by rw [← k2]; exact z)), fun z q hq => ?_⟩
    have q1 := zpq (k := q) (d := d) (by omega) hr (by omega)
    have q2 := zpq (k := q) (d := d) (by omega) hc (by omega)
    exact zPt.fr g (d + 1) _ _ (by omega) (by omega) q1.1 q2.2 (fun d2 r2 c2 hd2 hr2 hc2 ha => hn d2 r2 c2 hd2 hr2 hc2 (zan_d (by omega) hd2.2 q (by omega) ha)) (fun j j1 j2 hj => he j j1 j2 (zib_an hd (by omega) (zan_d (by omega) (by omega) q (by omega) zan_r) hj)) (h3 (by rw [← k2]; exact z) q hq)
theorem zPt.vis {t t2 e2 : Int → Int} (h : zPt t t2 e2 3 0 0 0) : ∀ (k : Nat) (r c : Int), k ≤ 3 → (0 ≤ r ∧ r < zp2 k) → (0 ≤ c ∧ c < zp2 k) → zvis t2 k r c = true → zPt t t2 e2 (3 - k) k r c := by
  intro k
  induction k with
  | zero =>
    intro r c _ hr hc _
    rw [show zp2 ((0 : Nat) : Int) = 1 from rfl] at hr hc
    rw [show r = 0 by omega, show c = 0 by omega]
    exact h
  | succ k ih =>
    intro r c hk hr hc hv
    have hr2 := zp2_h (d := k) (by omega) hr
    have hc2 := zp2_h (d := k) (by omega) hc
    rw [Int.natCast_add, Int.natCast_one, zvis_d _ r c (by omega), Bool.and_eq_true, decide_eq_true_iff] at hv
    have i := ih (r / 2) (c / 2) (by omega) hr2 hc2 hv.1
    rw [show 3 - k = (3 - (k + 1)) + 1 by omega] at i
    have j := i.2.2 hv.2 (r % 2 * 2 + c % 2).toNat (by omega)
    rw [show 2 * (r / 2) + (((r % 2 * 2 + c % 2).toNat : Nat) : Int) / 2 = r by omega, show 2 * (c / 2) + (((r % 2 * 2 + c % 2).toNat : Nat) : Int) % 2 = c by omega] at j
    exact j
theorem zPt.end {t t2 e2 : Int → Int} (h : zPt t t2 e2 3 0 0 0) : zSim t t2 ∧ zVl t2 ∧ zEz e2 t2 := by
  have key : ∀ {d r c : Int}, (0 ≤ d ∧ d ≤ 3) → (0 ≤ r ∧ r < zp2 d) → (0 ≤ c ∧ c < zp2 d) → zvis t2 d r c = true → zPt t t2 e2 (3 - d.toNat) d r c := fun {d r c} hd hr hc hv => by
    have := zPt.vis h d.toNat r c (by omega) (by rw [Int.toNat_of_nonneg hd.1]; exact hr) (by rw [Int.toNat_of_nonneg hd.1]; exact hc) (by rw [Int.toNat_of_nonneg hd.1]; exact hv)
    rw [Int.toNat_of_nonneg hd.1] at this
    exact this
  refine ⟨fun d r c hd hr hc hv => ?_, fun r c hr hc hv => ?_, fun d r c hd hr hc hv h0 => ?_⟩
  · have := key hd hr hc hv
    cases hg : 3 - d.toNat with
    | zero => rw [hg] at this; exact this.1
    | succ g => rw [hg] at this; exact this.1
  · exact (key (d := 3) (by decide) hr hc hv).2.2
  · have := key hd hr hc hv
    cases hg : 3 - d.toNat with
    | zero => rw [hg] at this; exact this.2.1 h0
    | succ g => rw [hg] at this; exact this.2.1 h0
/-- outside a block nothing changes -/
def zFm (d r c : Int) (S T : zPS) : Prop := (∀ d2 r2 c2, (0 ≤ d2 ∧ d2 ≤ 3) → (0 ≤ r2 ∧ r2 < zp2 d2) → (0 ≤ c2 ∧ c2 < zp2 d2) → ¬ zan d r c d2 r2 c2 → T.t (zmn d2 r2 c2) = S.t (zmn d2 r2 c2)) ∧ ∀ j, 0 ≤ j → j < 256 → ¬ zib j d r c → T.e j = S.e j
def zPe (g : Nat) (d r c : Int) (S S2 : zPS) (B B2 : Bool × zPS) : Prop := B.1 = B2.1 ∧ B.2.p = B2.2.p ∧ (0 ≤ B.2.p ∧ B.2.p ≤ 80) ∧ (B.1 = true → zFm d r c S B.2 ∧ zFm d r c S2 B2.2 ∧ (∀ j, 0 ≤ j → j < 256 → zib j d r c → B.2.e j = B2.2.e j) ∧ zPt B.2.t B2.2.t B2.2.e g d r c)
theorem zset_fm {d r c : Int} (hd : 0 ≤ d ∧ d ≤ 3) (hr : 0 ≤ r ∧ r < zp2 d) (hc : 0 ≤ c ∧ c < zp2 d) {S T : zPS} {vf : Int → Int} {s : Int} (he : T.e = zsq S.e (r * zsz d) (c * zsz d) (zsz d) vf) (ht : T.t = zu S.t (zno d (r * zsz d) (c * zsz d)) s) : zFm d r c S T := by
  refine ⟨fun d2 r2 c2 hd2 hr2 hc2 hn => ?_, fun j j1 j2 hn => ?_⟩
  · rw [ht, zno_b hd]
    refine zu_n _ _ (fun z => hn ?_)
    obtain ⟨q1, q2, q3⟩ := zmn_inj hd2 hr2 hc2 hd hr hc z
    rw [q1, q2, q3]
    exact zan_r
  · rw [he]
    exact if_neg (fun z => hn ((zib_sq hd).mpr z))
/-- a block that is laid -/
theorem zset_pe {g : Nat} {d r c : Int} (hd : 0 ≤ d ∧ d ≤ 3) (hr : 0 ≤ r ∧ r < zp2 d) (hc : 0 ≤ c ∧ c < zp2 d) {S S2 T T2 : zPS} {vf vf2 : Int → Int} {s : Int} (he : T.e = zsq S.e (r * zsz d) (c * zsz d) (zsz d) vf) (ht : T.t = zu S.t (zno d (r * zsz d) (c * zsz d)) s) (he2 : T2.e = zsq S2.e (r * zsz d) (c * zsz d) (zsz d) vf2) (ht2 : T2.t = zu S2.t (zno d (r * zsz d) (c * zsz d)) s) (hp : T.p = T2.p) (hpi : 0 ≤ T.p ∧ T.p ≤ 80) (hs : s ≠ 3) (hv : ∀ i j, (0 ≤ i ∧ i < zsz d) → (0 ≤ j ∧ j < zsz d) → vf ((r * zsz d + i) * 16 + (c * zsz d + j)) = vf2 ((r * zsz d + i) * 16 + (c * zsz d + j))) (h0 : s = 0 → ∀ j, vf2 j = 0) : zPe g d r c S S2 (true, T) (true, T2) := by
  have b1 := zbl hd hr
  have b2 := zbl hd hc
  have hn : T.t (zmn d r c) = s := by
    rw [ht, zno_b hd]
    exact zu_s _ _ _
  have hn2 : T2.t (zmn d r c) = s := by
    rw [ht2, zno_b hd]
    exact zu_s _ _ _
  have hz : T2.t (zmn d r c) = 0 → zallz T2.e (r * zsz d) (c * zsz d) (zsz d) := fun z i j i1 i2 j1 j2 => by
    rw [he2]
    unfold zsq
    rw [if_pos (by omega)]
    exact h0 (by rw [← hn2]; exact z) _
  refine ⟨rfl, hp, hpi, fun _ => ⟨zset_fm hd hr hc he ht, zset_fm hd hr hc he2 ht2, fun j j1 j2 hj => ?_, ?_⟩⟩
  · dsimp only
    have w := (zib_sq hd).mp hj
    rw [he, he2]
    unfold zsq
    rw [if_pos w, if_pos w]
    have := hv (j / 16 - r * zsz d) (j % 16 - c * zsz d) (by omega) (by omega)
    rw [show (r * zsz d + (j / 16 - r * zsz d)) * 16 + (c * zsz d + (j % 16 - c * zsz d)) = j by omega] at this
    exact this
  · cases g with
    | zero => exact ⟨hn.trans hn2.symm, hz, by dsimp only; rw [hn2]; exact hs⟩
    | succ g => exact ⟨hn.trans hn2.symm, hz, fun z => absurd (hn2.symm.trans z) hs⟩
theorem zfail_pe {g : Nat} {d r c : Int} {S S2 T T2 : zPS} (hp : T.p = T2.p) (hpi : 0 ≤ T.p ∧ T.p ≤ 80) : zPe g d r c S S2 (false, T) (false, T2) := ⟨rfl, hp, hpi, fun z => by cases z⟩
section
variable {f : Int → Int} {L : Int} {R : zRVs} {V : Int → Bool × Int × Int}
theorem isKT.cg (h : isKT R V f L) (hL : 0 ≤ L ∧ L ≤ 80) {m p : Int} (hm : 0 ≤ m) (hp : 0 ≤ p ∧ p ≤ 80) (x x2 : Int) (u u2 : Int → Int) : (R m p x u).1 = (R m p x2 u2).1 ∧ (R m p x u).2.1 = (R m p x2 u2).2.1 ∧ (0 ≤ (R m p x u).2.1 ∧ (R m p x u).2.1 ≤ 80) ∧ ((R m p x u).1 = true → ∀ j, 0 ≤ j → j < m → (R m p x u).2.2.2 j = (R m p x2 u2).2.2.2 j) := by
  obtain ⟨a1, a2, a3⟩ := zmvF_R h hL hm hp x u u
  obtain ⟨b1, b2, b3⟩ := zmvF_R h hL hm hp x2 u u2
  have hi := h.i2 hL.2 x u hm hp.2
  refine ⟨a1.symm.trans b1, a2.symm.trans b2, by omega, fun z j j1 j2 => ?_⟩
  exact (a3 z j j1 j2).symm.trans (b3 ((b1.symm.trans a1).trans z) j j1 j2)
theorem isKT.vi (h : isKT R V f L) (hL : 0 ≤ L ∧ L ≤ 80) {p : Int} (hp : 0 ≤ p ∧ p ≤ 80) : 0 ≤ (V p).2.1 ∧ (V p).2.1 ≤ 80 := by
  rw [h.1]
  have := zvl_in (f := f) (L := L) hL.2 hp.2
  omega
theorem zR0_pe (h : isKT R V f L) (hL : 0 ≤ L ∧ L ≤ 80) {g : Nat} {d r c : Int} (hd : 0 ≤ d ∧ d ≤ 3) (hr : 0 ≤ r ∧ r < zp2 d) (hc : 0 ≤ c ∧ c < zp2 d) {S S2 : zPS} (hp : S.p = S2.p) (hpi : 0 ≤ S.p ∧ S.p ≤ 80) {B B2 : Bool × zPS} (hB : zPe g d r c S S2 B B2) : zPe g d r c S S2 (zR0 R V f L d (r * zsz d) (c * zsz d) S B) (zR0 R V f L d (r * zsz d) (c * zsz d) S2 B2) := by
  have hz := zsz_4 d
  have pa : ∀ k, (zpa f L k S).p = (zpa f L k S2).p ∧ (0 ≤ (zpa f L k S).p ∧ (zpa f L k S).p ≤ 80) := fun k => by
    have := zpp_in (f := f) (L := L) (p := S.p) k ⟨hpi.2, hL.2⟩
    refine ⟨?_, show 0 ≤ zpp f L S.p k ∧ zpp f L S.p k ≤ 80 by omega⟩
    show zpp f L S.p k = zpp f L S2.p k
    rw [hp]
  unfold zR0
  rw [← hp]
  by_cases c0 : zpk f L S.p 48 = true
  · rw [if_pos c0, if_pos c0]
    exact zset_pe hd hr hc rfl rfl rfl rfl (pa 48).1 (pa 48).2 (by decide) (fun _ _ _ _ => rfl) (fun _ _ => rfl)
  rw [if_neg c0, if_neg c0]
  by_cases c1 : zpk f L S.p 100 = true
  · rw [if_pos c1, if_pos c1]
    obtain ⟨p1, p2⟩ := pa 100
    have hv := h.vi hL p2
    have e1 : (zpa f L 100 S).e = S.e := rfl
    have e2 : (zpa f L 100 S2).e = S2.e := rfl
    have e3 : (zpa f L 100 S).t = S.t := rfl
    have e4 : (zpa f L 100 S2).t = S2.t := rfl
    generalize zpa f L 100 S = A at *
    generalize zpa f L 100 S2 = A2 at *
    unfold zRS
    rw [← p1]
    cases hok : (V A.p).1
    · rw [if_neg (by decide), if_neg (by decide)]
      exact zfail_pe rfl hv
    · rw [if_pos rfl, if_pos rfl]
      refine zset_pe hd hr hc (s := 2) (by rw [← e1]; rfl) (by rw [← e3]; rfl) (by rw [← e2]; rfl) (by rw [← e4]; rfl) rfl hv (by decide) (fun i j hi hj => ?_) (fun z => absurd z (by decide))
      have x1 : ∀ {k x : Int} {u : Int → Int}, 0 ≤ k → k < zsz d → zfx 16 x u k = x := fun {k x u} k1 k2 => if_pos (by omega)
      show zfx 16 (V A.p).2.2 A.u (((r * zsz d + i) * 16 + (c * zsz d + j)) / 16 - r * zsz d) * zfx 16 1 A.v (((r * zsz d + i) * 16 + (c * zsz d + j)) % 16 - c * zsz d) = zfx 16 (V A.p).2.2 A2.u (((r * zsz d + i) * 16 + (c * zsz d + j)) / 16 - r * zsz d) * zfx 16 1 A2.v (((r * zsz d + i) * 16 + (c * zsz d + j)) % 16 - c * zsz d)
      have b2 := zbl hd hc
      rw [show ((r * zsz d + i) * 16 + (c * zsz d + j)) / 16 - r * zsz d = i by omega, show ((r * zsz d + i) * 16 + (c * zsz d + j)) % 16 - c * zsz d = j by omega, x1 hi.1 hi.2, x1 hi.1 hi.2, x1 hj.1 hj.2, x1 hj.1 hj.2]
  rw [if_neg c1, if_neg c1]
  by_cases c2 : zpk f L S.p 117 = true
  · rw [if_pos c2, if_pos c2]
    obtain ⟨p1, p2⟩ := pa 117
    have e1 : (zpa f L 117 S).e = S.e := rfl
    have e2 : (zpa f L 117 S2).e = S2.e := rfl
    have e3 : (zpa f L 117 S).t = S.t := rfl
    have e4 : (zpa f L 117 S2).t = S2.t := rfl
    generalize zpa f L 117 S = A at *
    generalize zpa f L 117 S2 = A2 at *
    obtain ⟨r1, r2, r3, r4⟩ := h.cg hL (m := zsz d) (by omega) p2 A.x A2.x A.u A2.u
    have hu : (zru R (zsz d) A).p = (zru R (zsz d) A2).p := by
      show (R (zsz d) A.p A.x A.u).2.1 = (R (zsz d) A2.p A2.x A2.u).2.1
      rw [← p1]
      exact r2
    have hui : 0 ≤ (zru R (zsz d) A).p ∧ (zru R (zsz d) A).p ≤ 80 := r3
    unfold zRP
    rw [← p1, ← hu]
    by_cases k1 : (R (zsz d) A.p A.x A.u).1 = true
    · have k1' : (R (zsz d) A.p A2.x A2.u).1 = true := r1.symm.trans k1
      rw [if_pos k1, if_pos k1']
      have hpw := zpp_in (f := f) (L := L) (p := (zru R (zsz d) A).p) 118 ⟨hui.2, hL.2⟩
      have hq : (zpa f L 118 (zru R (zsz d) A)).p = (zpa f L 118 (zru R (zsz d) A2)).p := by
        show zpp f L (zru R (zsz d) A).p 118 = zpp f L (zru R (zsz d) A2).p 118
        rw [hu]
      have hqi : 0 ≤ (zpa f L 118 (zru R (zsz d) A)).p ∧ (zpa f L 118 (zru R (zsz d) A)).p ≤ 80 := by
        show 0 ≤ zpp f L (zru R (zsz d) A).p 118 ∧ zpp f L (zru R (zsz d) A).p 118 ≤ 80
        omega
      by_cases k2 : zpk f L (zru R (zsz d) A).p 118 = true
      · rw [if_pos k2, if_pos k2]
        have f1 : (zpa f L 118 (zru R (zsz d) A)).e = S.e := e1
        have f2 : (zpa f L 118 (zru R (zsz d) A2)).e = S2.e := e2
        have f3 : (zpa f L 118 (zru R (zsz d) A)).t = S.t := e3
        have f4 : (zpa f L 118 (zru R (zsz d) A2)).t = S2.t := e4
        have f5 : (zpa f L 118 (zru R (zsz d) A)).u = (R (zsz d) A.p A.x A.u).2.2.2 := rfl
        have f6 : (zpa f L 118 (zru R (zsz d) A2)).u = (R (zsz d) A.p A2.x A2.u).2.2.2 := by rw [p1]; rfl
        generalize zpa f L 118 (zru R (zsz d) A) = D at *
        generalize zpa f L 118 (zru R (zsz d) A2) = D2 at *
        obtain ⟨s1, s2, s3, s4⟩ := h.cg hL (m := zsz d) (by omega) hqi D.x D2.x D.v D2.v
        rw [← hq]
        by_cases k3 : (R (zsz d) D.p D.x D.v).1 = true
        · have k3' : (R (zsz d) D.p D2.x D2.v).1 = true := s1.symm.trans k3
          rw [if_pos k3, if_pos k3']
          refine zset_pe hd hr hc (s := 2) (by rw [← f1]; rfl) (by rw [← f3]; rfl) (by rw [← f2]; rfl) (by rw [← f4]; rfl) ?_ s3 (by decide) (fun i j hi hj => ?_) (fun z => absurd z (by decide))
          · show (R (zsz d) D.p D.x D.v).2.1 = (R (zsz d) D2.p D2.x D2.v).2.1
            rw [← hq]
            exact s2
          · show D.u (((r * zsz d + i) * 16 + (c * zsz d + j)) / 16 - r * zsz d) * (R (zsz d) D.p D.x D.v).2.2.2 (((r * zsz d + i) * 16 + (c * zsz d + j)) % 16 - c * zsz d) = D2.u (((r * zsz d + i) * 16 + (c * zsz d + j)) / 16 - r * zsz d) * (R (zsz d) D2.p D2.x D2.v).2.2.2 (((r * zsz d + i) * 16 + (c * zsz d + j)) % 16 - c * zsz d)
            have b2 := zbl hd hc
            rw [show ((r * zsz d + i) * 16 + (c * zsz d + j)) / 16 - r * zsz d = i by omega, show ((r * zsz d + i) * 16 + (c * zsz d + j)) % 16 - c * zsz d = j by omega, f5, f6, r4 k1 i hi.1 hi.2, ← hq, s4 k3 j hj.1 hj.2]
        · have k3' : ¬ (R (zsz d) D.p D2.x D2.v).1 = true := fun z => k3 (s1.trans z)
          rw [if_neg k3, if_neg k3']
          refine zfail_pe ?_ s3
          show (R (zsz d) D.p D.x D.v).2.1 = (R (zsz d) D2.p D2.x D2.v).2.1
          rw [← hq]
          exact s2
      · rw [if_neg k2, if_neg k2]
        exact zfail_pe hq hqi
    · have k1' : ¬ (R (zsz d) A.p A2.x A2.u).1 = true := fun z => k1 (r1.trans z)
      rw [if_neg k1, if_neg k1']
      exact zfail_pe hu hui
  rw [if_neg c2, if_neg c2]
  by_cases c3 : zpk f L S.p 102 = true
  · rw [if_pos c3, if_pos c3]
    obtain ⟨p1, p2⟩ := pa 102
    have e1 : (zpa f L 102 S).e = S.e := rfl
    have e2 : (zpa f L 102 S2).e = S2.e := rfl
    have e3 : (zpa f L 102 S).t = S.t := rfl
    have e4 : (zpa f L 102 S2).t = S2.t := rfl
    generalize zpa f L 102 S = A at *
    generalize zpa f L 102 S2 = A2 at *
    have hm0 : 0 ≤ zsz d * zsz d := Int.mul_nonneg (by omega) (by omega)
    obtain ⟨r1, r2, r3, r4⟩ := h.cg hL (m := zsz d * zsz d) hm0 p2 A.x A2.x A.w A2.w
    unfold zRF
    rw [← p1]
    by_cases k1 : (R (zsz d * zsz d) A.p A.x A.w).1 = true
    · have k1' : (R (zsz d * zsz d) A.p A2.x A2.w).1 = true := r1.symm.trans k1
      rw [if_pos k1, if_pos k1', k1, k1']
      refine zset_pe hd hr hc (s := 1) (by rw [← e1]; rfl) (by rw [← e3]; rfl) (by rw [← e2]; rfl) (by rw [← e4]; rfl) ?_ r3 (by decide) (fun i j hi hj => ?_) (fun z => absurd z (by decide))
      · show (R (zsz d * zsz d) A.p A.x A.w).2.1 = (R (zsz d * zsz d) A2.p A2.x A2.w).2.1
        rw [← p1]
        exact r2
      · show (R (zsz d * zsz d) A.p A.x A.w).2.2.2 ((((r * zsz d + i) * 16 + (c * zsz d + j)) / 16 - r * zsz d) * zsz d + (((r * zsz d + i) * 16 + (c * zsz d + j)) % 16 - c * zsz d)) = (R (zsz d * zsz d) A2.p A2.x A2.w).2.2.2 ((((r * zsz d + i) * 16 + (c * zsz d + j)) / 16 - r * zsz d) * zsz d + (((r * zsz d + i) * 16 + (c * zsz d + j)) % 16 - c * zsz d))
        have b2 := zbl hd hc
        have hlt := zrq (r := i) (P := zsz d) (a := j) (N := zsz d) hi hj
        rw [show ((r * zsz d + i) * 16 + (c * zsz d + j)) / 16 - r * zsz d = i by omega, show ((r * zsz d + i) * 16 + (c * zsz d + j)) % 16 - c * zsz d = j by omega, ← p1, r4 k1 _ hlt.1 hlt.2]
    · have k1' : ¬ (R (zsz d * zsz d) A.p A2.x A2.w).1 = true := fun z => k1 (r1.trans z)
      have k2 : (R (zsz d * zsz d) A.p A.x A.w).1 = false := by cases hq : (R (zsz d * zsz d) A.p A.x A.w).1; rfl; exact absurd hq k1
      have k2' : (R (zsz d * zsz d) A.p A2.x A2.w).1 = false := r1.symm.trans k2
      rw [if_neg k1, if_neg k1', k2, k2']
      refine zfail_pe ?_ r3
      show (R (zsz d * zsz d) A.p A.x A.w).2.1 = (R (zsz d * zsz d) A2.p A2.x A2.w).2.1
      rw [← p1]
      exact r2
  rw [if_neg c3, if_neg c3]
  exact hB
end
