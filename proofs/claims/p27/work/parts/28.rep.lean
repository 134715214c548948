/-- the pad: cell 103, its characters 104, the matrix told 105, three rows -/
def isPd (σ : zS) (n : Nat) (f : Int → Int) (L p x : Int) (te tt u v w : Int → Int) : Prop := σ 103 = zO 2 [zr 104, zi L, zr 105, zr 108, zr 109, zr 110, zi p, zi x] ∧ σ 104 = zP 2 80 f ∧ isM σ n 105 te tt ∧ (σ 108 = zA 16 u ∧ σ 109 = zA 16 v ∧ σ 110 = zA 256 w) ∧ (zBd te ∧ zSt tt) ∧ 0 ≤ L ∧ L ≤ 80
def isPad (σ : zS) (n : Nat) (f : Int → Int) (L : Int) : Prop := ∃ (p x : Int) (te tt u v w : Int → Int), isPd σ n f L p x te tt u v w
theorem isPd.ag {σ σ2 : zS} {n : Nat} {f : Int → Int} {L p x : Int} {te tt u v w : Int → Int} {a b : Int} (h : isPd σ n f L p x te tt u v w) (hg : zAg σ σ2 a b) (hd : 110 < a ∨ b < 103) : isPd σ2 n f L p x te tt u v w := by
  obtain ⟨h1, h2, h3, ⟨h4, h5, h6⟩, h7⟩ := h
  exact ⟨(hg 103 (by omega)).trans h1, (hg 104 (by omega)).trans h2, h3.ag hg (by omega), ⟨(hg 108 (by omega)).trans h4, (hg 109 (by omega)).trans h5, (hg 110 (by omega)).trans h6⟩, h7⟩
theorem isPad.ag {σ σ2 : zS} {n : Nat} {f : Int → Int} {L a b : Int} (h : isPad σ n f L) (hg : zAg σ σ2 a b) (hd : 110 < a ∨ b < 103) : isPad σ2 n f L := by
  obtain ⟨p, x, te, tt, u, v, w, h⟩ := h
  exact ⟨p, x, te, tt, u, v, w, h.ag hg hd⟩
def isSl (σ : zS) (n : Nat) (Sl : Int → zSV × Bool) : Prop := σ 102 = zQ 5 2 (fun k => some (115 + 15 * k)) ∧ ∀ k, 0 ≤ k → k < 2 → σ (115 + 15 * k) = zO 3 [zr (116 + 15 * k), zi (zb (Sl k).2)] ∧ isSt σ n (116 + 15 * k) (Sl k).1
theorem isSl.ag {σ σ2 : zS} {n : Nat} {Sl : Int → zSV × Bool} {a b : Int} (h : isSl σ n Sl) (hg : zAg σ σ2 a b) (hd : b < 102 ∨ (102 < a ∧ b < 115)) : isSl σ2 n Sl :=
  ⟨(hg 102 (by omega)).trans h.1, fun k h1 h2 => ⟨(hg _ (by omega)).trans (h.2 k h1 h2).1, (h.2 k h1 h2).2.ag hg (by omega)⟩⟩
/-- the whole object -/
def RepC (σ : zS) (n : Nat) (X : zSV) (o l : Int) (Hs : Int → zSV) (Sl : Int → zSV × Bool) (f : Int → Int) (L : Int) : Prop :=
  isB σ n ∧ (isSt σ n 2 X ∧ okS X) ∧ (isHi σ n o l Hs ∧ ∀ k, okS (Hs k)) ∧ (isSl σ n Sl ∧ ∀ k, okS (Sl k).1) ∧ isPad σ n f L ∧ (∃ de dt : Int → Int, isM σ n 111 de dt) ∧ ∃ z : Int → Int, σ 114 = zA 199 z
theorem isB.ag {σ σ2 : zS} {n : Nat} {a b : Int} (h : isB σ n) (hg : zAg σ σ2 a b) (hd : 1 < a) : isB σ2 n := ⟨(hg 1 (by omega)).trans h.1, h.2⟩
theorem okS.ch {X : zSV} (h : okS X) (c : Int) : okS (zch X c) := h
theorem okH {Hs : Int → zSV} (h : ∀ k, okS (Hs k)) (i : Int) {X : zSV} (hX : okS X) : ∀ k, okS (zhu Hs i X k) := fun k => by
  unfold zhu
  split
  · exact hX
  · exact h k
section
variable {n : Nat} {σ : zS} {X : zSV} {o l : Int} {Hs : Int → zSV} {Sl : Int → zSV × Bool} {f : Int → Int} {L : Int}
theorem RepC.now (R : RepC σ n X o l Hs Sl f L) {σ2 : zS} (hg : zAg σ σ2 2 101) {X2 : zSV} (hs : isSt σ2 n 2 X2) (hok : okS X2) {o2 l2 : Int} {Hs2 : Int → zSV} (hh : isHi σ2 n o2 l2 Hs2) (hoh : ∀ k, okS (Hs2 k)) : RepC σ2 n X2 o2 l2 Hs2 Sl f L := by
  obtain ⟨h1, h2, h3, h4, h5, ⟨de, dt, h6⟩, z, h7⟩ := R
  exact ⟨h1.ag hg (by decide), ⟨hs, hok⟩, ⟨hh, hoh⟩, ⟨h4.1.ag hg (by decide), h4.2⟩, h5.ag hg (by decide), ⟨de, dt, h6.ag hg (by decide)⟩, z, (hg 114 (by decide)).trans h7⟩
/-- behind a change of one matrix -/
theorem RepC.chg (R : RepC σ n X o l Hs Sl f L) {m : Int} (hm : 0 ≤ m ∧ m < 4) {e t : Int → Int} (he : zBd e) (ht : zSt t) : RepC (sM (zbc σ X o l) (2 + 2 + 3 * m) e t) n (zsm1 (zch X (X.2.2 + 1)) m e t) (zkO o l) (zkL l) (zhu Hs ((o + l) % 6) X) Sl f L ∧ zAg σ (sM (zbc σ X o l) (2 + 2 + 3 * m) e t) 2 101 := by
  obtain ⟨hh, hs⟩ := zbc_is R.2.2.1.1 R.2.1.1
  have g1 : zAg σ (sM (zbc σ X o l) (2 + 2 + 3 * m) e t) 2 101 := zAg.trans zbc_ag ((zAg.sM _ _ _ _).wide (by omega))
  exact ⟨R.now g1 (hs.setM hm e t) ((R.2.1.2.ch _).setM m he ht) (hh.ag (zAg.sM _ _ _ _) (by omega)) (okH R.2.2.1.2 _ R.2.1.2), g1⟩
end
