/-! what the text of the law's calls tells -/
def pdOk (f : Int → Int) : Prop := ∀ j, 0 ≤ f j ∧ f j < 65536
theorem zvd_y {f : Int → Int} {L : Int} {k : Nat} {p x : Int} (h : 0 ≤ zdg f L p) (h2 : ¬ 999 < x * 10 + zdg f L p) : zvd f L (k + 1) p x = zvd f L k (p + 1) (x * 10 + zdg f L p) := by
  show (if 0 ≤ zdg f L p then (if 999 < x * 10 + zdg f L p then (false, p, x * 10 + zdg f L p) else zvd f L k (p + 1) (x * 10 + zdg f L p)) else (true, p, x)) = _
  rw [if_pos h, if_neg h2]
theorem zvd_n {f : Int → Int} {L : Int} {k : Nat} {p x : Int} (h : ¬ 0 ≤ zdg f L p) : zvd f L (k + 1) p x = (true, p, x) := by
  show (if 0 ≤ zdg f L p then (if 999 < x * 10 + zdg f L p then (false, p, x * 10 + zdg f L p) else zvd f L k (p + 1) (x * 10 + zdg f L p)) else (true, p, x)) = _
  rw [if_neg h]
section
variable {f : Int → Int} {a b : Int}
theorem v1_is (f1 : f 1 = 49 + a) (ha : 0 ≤ a ∧ a < 9) (f2 : f 2 = 44) : zvl f 4 1 = (true, 2, 1 + a) := by
  have p45 : zpp f 4 1 45 = 1 := if_neg (fun z => by omega)
  have k48 : zpk f 4 1 48 = false := decide_eq_false (fun z => by omega)
  have k45 : zpk f 4 1 45 = false := decide_eq_false (fun z => by omega)
  have d1 : zdg f 4 1 = 1 + a := (if_pos ⟨by decide, by omega, by omega⟩).trans (by omega)
  have d2 : zdg f 4 (1 + 1) = -1 := if_neg (fun z => by rw [show (1 : Int) + 1 = 2 from rfl] at z; omega)
  have e : zvd f 4 80 1 0 = (true, 2, 1 + a) := by
    refine (zvd_y (k := 79) (by omega) (by omega)).trans ?_
    refine (zvd_n (k := 78) (by rw [d2]; decide)).trans ?_
    rw [d1, show (0 : Int) * 10 + (1 + a) = 1 + a by omega]
    rfl
  unfold zvl
  rw [p45, k48, if_neg (by decide), d1, if_neg (by omega), k45, e]
  rfl
theorem v3_is (f3 : f 3 = 48 + b) (hb : 0 ≤ b ∧ b < 10) : zvl f 4 3 = (true, 4, b) := by
  have p45 : zpp f 4 3 45 = 3 := if_neg (fun z => by omega)
  have k45 : zpk f 4 3 45 = false := decide_eq_false (fun z => by omega)
  by_cases q : b = 0
  · have k48 : zpk f 4 3 48 = true := decide_eq_true ⟨by decide, by omega⟩
    unfold zvl
    rw [p45, k48, if_pos rfl, q]
    rfl
  · have k48 : zpk f 4 3 48 = false := decide_eq_false (fun z => by omega)
    have d1 : zdg f 4 3 = b := (if_pos ⟨by decide, by omega, by omega⟩).trans (by omega)
    have d2 : zdg f 4 (3 + 1) = -1 := if_neg (fun z => by omega)
    have e : zvd f 4 80 3 0 = (true, 4, b) := by
      refine (zvd_y (k := 79) (by omega) (by omega)).trans ?_
      refine (zvd_n (k := 78) (by rw [d2]; decide)).trans ?_
      rw [d1, show (0 : Int) * 10 + b = b by omega]
      rfl
    unfold zvl
    rw [p45, k48, if_neg (by decide), d1, if_neg (by omega), k45, e]
    rfl
theorem zvw_c {V : Int → Bool × Int × Int} {L m : Int} {k : Nat} {p x fd p1 x1 : Int} {u : Int → Int} (h1 : V p = (true, p1, x1)) (h2 : zpk f L p1 44 = true) : zvw V f L m (k + 1) p x fd u = zvw V f L m k (p1 + 1) x1 (if fd < m then fd + 1 else fd) (if fd < m then zu u fd x1 else u) := by
  show (if (V p).1 = true then (if zpk f L (V p).2.1 44 = true then zvw V f L m k (zpp f L (V p).2.1 44) (V p).2.2 (if fd < m then fd + 1 else fd) (if fd < m then zu u fd (V p).2.2 else u) else (true, zpp f L (V p).2.1 44, (V p).2.2, (if fd < m then fd + 1 else fd), (if fd < m then zu u fd (V p).2.2 else u))) else (false, (V p).2.1, (V p).2.2, fd, u)) = _
  rw [h1]
  refine (if_pos (c := ((true, p1, x1) : Bool × Int × Int).1 = true) rfl).trans ?_
  refine (if_pos (c := zpk f L p1 44 = true) h2).trans ?_
  show zvw V f L m k (zpp f L p1 44) x1 _ _ = _
  rw [zpp_t h2]
theorem zvw_e {V : Int → Bool × Int × Int} {L m : Int} {k : Nat} {p x fd p1 x1 : Int} {u : Int → Int} (h1 : V p = (true, p1, x1)) (h2 : zpk f L p1 44 = false) : zvw V f L m (k + 1) p x fd u = (true, p1, x1, (if fd < m then fd + 1 else fd), (if fd < m then zu u fd x1 else u)) := by
  show (if (V p).1 = true then (if zpk f L (V p).2.1 44 = true then zvw V f L m k (zpp f L (V p).2.1 44) (V p).2.2 (if fd < m then fd + 1 else fd) (if fd < m then zu u fd (V p).2.2 else u) else (true, zpp f L (V p).2.1 44, (V p).2.2, (if fd < m then fd + 1 else fd), (if fd < m then zu u fd (V p).2.2 else u))) else (false, (V p).2.1, (V p).2.2, fd, u)) = _
  rw [h1]
  refine (if_pos (c := ((true, p1, x1) : Bool × Int × Int).1 = true) rfl).trans ?_
  refine (if_neg (c := zpk f L p1 44 = true) (by rw [h2]; decide)).trans ?_
  show (true, zpp f L p1 44, x1, _, _) = _
  rw [zpp_f h2]
theorem rv_is (f1 : f 1 = 49 + a) (ha : 0 ≤ a ∧ a < 9) (f2 : f 2 = 44) (f3 : f 3 = 48 + b) (hb : 0 ≤ b ∧ b < 10) (x : Int) (u : Int → Int) : zrv 80 (zvl f 4) f 4 256 1 x u = (true, 4, b, fun j => if 2 ≤ j ∧ j < 256 then b else zu (zu u 0 (1 + a)) 1 b j) := by
  have e : zvw (zvl f 4) f 4 256 80 1 x 0 u = (true, 4, b, 2, zu (zu u 0 (1 + a)) 1 b) := by
    refine (zvw_c (V := zvl f 4) (p := 1) (k := 79) (v1_is f1 ha f2) (decide_eq_true ⟨by decide, f2⟩)).trans ?_
    rw [if_pos (show (0 : Int) < 256 by decide), if_pos (show (0 : Int) < 256 by decide), show (2 : Int) + 1 = 3 from rfl, show (0 : Int) + 1 = 1 from rfl]
    refine (zvw_e (V := zvl f 4) (p := 3) (k := 78) (v3_is f3 hb) (decide_eq_false (fun z => by omega))).trans ?_
    rw [if_pos (show (1 : Int) < 256 by decide), if_pos (show (1 : Int) < 256 by decide)]
    rfl
  unfold zrv
  rw [e]
  rfl
def zkQ (f : Int → Int) (L : Int) : zRVs := fun m p x u => zrv 80 (zvl f L) f L m p x u
theorem zkq_is (f : Int → Int) (L : Int) : isKT (zkQ f L) (zvl f L) f L := ⟨rfl, 80, rfl, rfl⟩
theorem rd_bad (f0 : f 0 = 100) (f1 : f 1 = 49 + a) (ha : 0 ≤ a ∧ a < 9) (f2 : f 2 = 44) (S : zPS) : zwl 4 (zrd (zkQ f 4) (zvl f 4) f 4 S) = false := by
  have k48 : zpk f 4 0 48 = false := decide_eq_false (fun z => by omega)
  have k100 : zpk f 4 0 100 = true := decide_eq_true ⟨by decide, f0⟩
  have e : zrd (zkQ f 4) (zvl f 4) f 4 S = zRS (zvl f 4) 0 0 0 (zpa f 4 100 (S.sp 0 S.x)) := by
    show zR0 (zkQ f 4) (zvl f 4) f 4 0 0 0 (S.sp 0 S.x) _ = _
    unfold zR0
    rw [show (S.sp 0 S.x).p = 0 from rfl, k48, if_neg (by decide), k100, if_pos rfl]
  have hp : (zpa f 4 100 (S.sp 0 S.x)).p = 1 := (zpp_t k100 : zpp f 4 0 100 = 0 + 1)
  rw [e]
  unfold zRS zwl
  rw [hp, v1_is f1 ha f2]
  exact (show (true && decide ((2 : Int) = 4)) = false from rfl)
theorem rd_ok (f0 : f 0 = 102) (f1 : f 1 = 49 + a) (ha : 0 ≤ a ∧ a < 9) (f2 : f 2 = 44) (f3 : f 3 = 48 + b) (hb : 0 ≤ b ∧ b < 10) (S : zPS) : ∃ W : Int → Int, (∀ j, 0 ≤ j → j < 256 → W j = if j = 0 then 1 + a else b) ∧ zwl 4 (zrd (zkQ f 4) (zvl f 4) f 4 S) = true ∧ (zrd (zkQ f 4) (zvl f 4) f 4 S).2.e = zsq S.e 0 0 16 (fun j => W ((j / 16 - 0) * 16 + (j % 16 - 0))) ∧ (zrd (zkQ f 4) (zvl f 4) f 4 S).2.t = zu S.t 0 1 := by
  have k48 : zpk f 4 0 48 = false := decide_eq_false (fun z => by omega)
  have k100 : zpk f 4 0 100 = false := decide_eq_false (fun z => by omega)
  have k117 : zpk f 4 0 117 = false := decide_eq_false (fun z => by omega)
  have k102 : zpk f 4 0 102 = true := decide_eq_true ⟨by decide, f0⟩
  have e : zrd (zkQ f 4) (zvl f 4) f 4 S = zRF (zkQ f 4) 0 0 0 (zpa f 4 102 (S.sp 0 S.x)) := by
    show zR0 (zkQ f 4) (zvl f 4) f 4 0 0 0 (S.sp 0 S.x) _ = _
    unfold zR0
    rw [show (S.sp 0 S.x).p = 0 from rfl, k48, if_neg (by decide), k100, if_neg (by decide), k117, if_neg (by decide), k102, if_pos rfl]
  have hp : (zpa f 4 102 (S.sp 0 S.x)).p = 1 := (zpp_t k102 : zpp f 4 0 102 = 0 + 1)
  have hr : zkQ f 4 (zsz 0 * zsz 0) (zpa f 4 102 (S.sp 0 S.x)).p (zpa f 4 102 (S.sp 0 S.x)).x (zpa f 4 102 (S.sp 0 S.x)).w = (true, 4, b, fun j => if 2 ≤ j ∧ j < 256 then b else zu (zu S.w 0 (1 + a)) 1 b j) := by
    rw [hp, show zsz 0 * zsz 0 = 256 from rfl]
    exact rv_is f1 ha f2 f3 hb _ _
  refine ⟨fun j => if 2 ≤ j ∧ j < 256 then b else zu (zu S.w 0 (1 + a)) 1 b j, fun j j1 j2 => ?_, ?_⟩
  · dsimp only
    by_cases q : 2 ≤ j
    · rw [if_pos ⟨q, j2⟩, if_neg (by omega)]
    · rw [if_neg (by omega)]
      by_cases q1 : j = 1
      · rw [q1, zu_s, if_neg (by decide)]
      · obtain rfl : j = 0 := by omega
        rw [zu_n _ _ (by decide), zu_s, if_pos rfl]
  · rw [e]
    unfold zRF zrx
    rw [hr]
    exact ⟨rfl, rfl, rfl⟩
theorem tell_mm {e t W : Int → Int} (hW : ∀ j, 0 ≤ j → j < 256 → W j = if j = 0 then 1 + a else b) : zMm (zsq e 0 0 16 (fun j => W ((j / 16 - 0) * 16 + (j % 16 - 0)))) (zu t 0 1) (fun j => if j = 0 then 1 + a else b) (fun _ => 1) := by
  refine ⟨fun j j1 j2 => ?_, fun d r c hd hr hc hv => ?_, fun r c hr hc hv => ?_, fun d r c hd hr hc hv h0 => ?_⟩
  · show (if (0 ≤ j / 16 ∧ j / 16 < 0 + 16) ∧ 0 ≤ j % 16 ∧ j % 16 < 0 + 16 then W ((j / 16 - 0) * 16 + (j % 16 - 0)) else e j) = if j = 0 then 1 + a else b
    rw [if_pos (by omega), show (j / 16 - 0) * 16 + (j % 16 - 0) = j by omega]
    exact hW j j1 j2
  · by_cases q : d = 0
    · subst q
      rw [show zp2 0 = 1 from rfl] at hr hc
      obtain rfl : r = 0 := by omega
      obtain rfl : c = 0 := by omega
      exact zu_s t 0 1
    · have h := (zvk_iff (fun _ => 1) d r c d.toNat).mp hv 0 (by omega)
      exact absurd h (show ¬ (1 : Int) = 3 by decide)
  · exact (show (1 : Int) ≠ 3 by decide)
  · exact absurd h0 (show ¬ (1 : Int) = 0 by decide)
/-- what the model would hold behind a text that is well told -/
def ztS (S : Int → Int) (m a b : Int) : Int → Int := fun j => if 341 * m ≤ j ∧ j < 341 * m + 85 then 1 else if 341 * m + 85 ≤ j ∧ j < 341 * m + 341 then (if j = 341 * m + 85 then 1 + a else b) else zcn S j
theorem ztS_rl {X : zSV} {S : Int → Int} (h : zRl X S) {m : Int} (hm : 0 ≤ m ∧ m < 4) (ha : 0 ≤ a ∧ a < 9) (hb : 0 ≤ b ∧ b < 10) {e t : Int → Int} (hM : zMm e t (fun j => if j = 0 then 1 + a else b) (fun _ => 1)) : zRl (zsm1 (zch X (X.2.2 + 1)) m e t) (ztS S m a b) := by
  have hE : ∀ j, 0 ≤ j → j < 256 → zsE (ztS S m a b) m j = if j = 0 then 1 + a else b := fun j j1 j2 => by
    unfold zsE ztS
    rw [if_neg (by omega), if_pos (by omega)]
    by_cases q : j = 0
    · rw [if_pos (by omega), if_pos q]
    · rw [if_neg (by omega), if_neg q]
  have hK : ∀ k, 0 ≤ k → k < 85 → zsT (ztS S m a b) m k = 1 := fun k k1 k2 => by
    unfold zsT ztS
    rw [if_pos (by omega)]
  refine h.ch hm (fun m2 hm2 hne => ⟨fun j j1 j2 => ?_, fun k k1 k2 => ?_⟩) ?_ (hM.cg (fun j j1 j2 => (hE j j1 j2).symm) (zSim.of (fun k k1 k2 => (hK k k1 k2).symm))) (fun k k1 k2 => ?_) (fun j j1 j2 => ?_)
  · unfold zsE ztS zcn
    rw [if_neg (by omega), if_neg (by omega), zu_n _ _ (by omega)]
  · unfold zsT ztS zcn
    rw [if_neg (by omega), if_neg (by omega), zu_n _ _ (by omega)]
  · unfold ztS zcn
    rw [if_neg (by omega), if_neg (by omega), zu_s]
  · rw [hK k k1 k2]
    decide
  · rw [hE j j1 j2]
    split <;> omega
end
section
variable {σ : zS} {X : zSV} {o l : Int} {Hs : Int → zSV} {Sl : Int → zSV × Bool} {f : Int → Int} {L : Int}
theorem put1 (R : RepC σ 144 X o l Hs Sl f L) (hf : pdOk f) {z : Int} (hz : 33 ≤ z ∧ z ≤ 126) (hL : 0 ≤ L ∧ L < 80) : ∃ (f2 : Int → Int) (σ2 : zS), zCt 3 0 0 yX5_put cX5_put 5 (some .int) [zr 1, zl z] 144 σ (some (zi (L + 1))) 144 σ2 ∧ RepC σ2 144 X o l Hs Sl f2 (L + 1) ∧ pdOk f2 ∧ f2 L = z ∧ ∀ j, j ≠ L → f2 j = f j := by
  obtain ⟨p, x, h1, h2, h3⟩ := R.p0
  have hu : z % 18446744073709551616 = z := by omega
  have hk : zsgn (z % 18446744073709551616) 1 := by
    rw [hu]
    refine Or.inl ⟨by decide, fun i hi => ?_, ?_⟩
    · obtain rfl : i = 0 := by omega
      rw [Int.pow_zero]
      omega
    · rw [show (256 : Int) ^ 1 = 256 from rfl]
      omega
  have hp := ctX5_put (z := z) (by omega) hk R.1 h1 h2 (show 0 ≤ L ∧ L + ((1 : Nat) : Int) ≤ 80 by omega) (by decide)
  refine ⟨fun j => if L ≤ j ∧ j < L + 1 then z % 18446744073709551616 / 256 ^ (L + 1 - 1 - j).toNat % 256 else f j, _, hp, (R.pt (by omega) _ p x).1, fun j => ?_, ?_, fun j hj => ?_⟩
  · dsimp only
    split
    · have g1 := Int.emod_nonneg (z % 18446744073709551616 / 256 ^ (L + 1 - 1 - j).toNat) (show (256 : Int) ≠ 0 by decide)
      have g2 := Int.emod_lt_of_pos (z % 18446744073709551616 / 256 ^ (L + 1 - 1 - j).toNat) (show (0 : Int) < 256 by decide)
      exact ⟨g1, by omega⟩
    · exact hf j
  · dsimp only
    rw [if_pos (by omega), show (L + 1 - 1 - L).toNat = 0 by omega, Int.pow_zero]
    omega
  · exact if_neg (by omega)
end
