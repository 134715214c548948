section
variable {n : Nat} {σ σ2 : zS} {X : zSV} {o l : Int} {Hs : Int → zSV} {Sl : Int → zSV × Bool} {f : Int → Int} {L : Int}
/-- what the model does leaves the object alone -/
theorem RepC.md (R : RepC σ n X o l Hs Sl f L) (hg : zAg σ σ2 145 155) : RepC σ2 n X o l Hs Sl f L := by
  obtain ⟨h1, h2, h3, h4, h5, ⟨de, dt, h6⟩, z, h7⟩ := R
  refine ⟨h1.ag hg (by decide), ⟨h2.1.ag hg (by decide), h2.2⟩, ⟨h3.1.ag hg (by decide), h3.2⟩, ⟨⟨(hg 102 (by decide)).trans h4.1.1, fun k k1 k2 => ?_⟩, h4.2⟩, h5.ag hg (by decide), ⟨de, dt, h6.ag hg (by decide)⟩, z, (hg 114 (by decide)).trans h7⟩
  obtain ⟨a, b⟩ := h4.1.2 k k1 k2
  exact ⟨(hg _ (by omega)).trans a, b.ag hg (by omega)⟩
theorem RepC.nn (R : RepC σ n X o l Hs Sl f L) : 144 ≤ n := R.1.2
theorem RepC.b (R : RepC σ n X o l Hs Sl f L) : (0 ≤ o ∧ o < 6) ∧ 0 ≤ l ∧ l ≤ 6 := R.2.2.1.1.2.2.1
/-- the matrix aside -/
theorem RepC.dr (R : RepC σ n X o l Hs Sl f L) (e t : Int → Int) : RepC (sM σ 111 e t) n X o l Hs Sl f L ∧ zAg σ (sM σ 111 e t) 1 144 := by
  obtain ⟨h1, h2, h3, h4, h5, ⟨de, dt, h6⟩, z, h7⟩ := R
  have hg : zAg σ (sM σ 111 e t) 112 113 := zAg.sM σ 111 e t
  exact ⟨⟨h1.ag hg (by decide), ⟨h2.1.ag hg (by decide), h2.2⟩, ⟨h3.1.ag hg (by decide), h3.2⟩, ⟨h4.1.ag hg (by decide), h4.2⟩, h5.ag hg (by decide), ⟨e, t, isM_s h6 e t⟩, z, (hg 114 (by decide)).trans h7⟩, hg.wide (by decide)⟩
theorem RepC.zz (R : RepC σ n X o l Hs Sl f L) (z2 : Int → Int) : RepC (zsu σ 114 (zA 199 z2)) n X o l Hs Sl f L ∧ zAg σ (zsu σ 114 (zA 199 z2)) 1 144 := by
  obtain ⟨h1, h2, h3, h4, h5, ⟨de, dt, h6⟩, z, h7⟩ := R
  have hg : zAg σ (zsu σ 114 (zA 199 z2)) 114 114 := zAg.su σ 114 _
  exact ⟨⟨h1.ag hg (by decide), ⟨h2.1.ag hg (by decide), h2.2⟩, ⟨h3.1.ag hg (by decide), h3.2⟩, ⟨h4.1.ag hg (by decide), h4.2⟩, h5.ag hg (by decide), ⟨de, dt, h6.ag hg (by decide)⟩, z2, zsu_s _ _ _⟩, hg.wide (by decide)⟩
theorem RepC.un (R : RepC σ n X o l Hs Sl f L) (hl : 0 < l) : RepC (zbec (zsu σ 16 (zO 0 [zr 17, zi o, zi (l - 1)])) 2 (Hs ((o + (l - 1)) % 6))) n (Hs ((o + (l - 1)) % 6)) o (l - 1) Hs Sl f L ∧ zAg σ (zbec (zsu σ 16 (zO 0 [zr 17, zi o, zi (l - 1)])) 2 (Hs ((o + (l - 1)) % 6))) 1 144 := by
  have hb := R.b
  have g1 : zAg σ (zsu σ 16 (zO 0 [zr 17, zi o, zi (l - 1)])) 2 101 := (zAg.su σ 16 _).wide (by decide)
  have g2 := zbec_ag (zsu σ 16 (zO 0 [zr 17, zi o, zi (l - 1)])) 2 (Hs ((o + (l - 1)) % 6))
  have hs2 : isSt (zsu σ 16 (zO 0 [zr 17, zi o, zi (l - 1)])) n 2 X := R.2.1.1.ag (zAg.su σ 16 _) (by decide)
  have g3 := g1.trans (g2.wide (by decide))
  refine ⟨R.now g3 (zbec_is _ hs2) (R.2.2.1.2 _) ⟨(g2 16 (by decide)).trans (zsu_s _ _ _), ?_, ⟨hb.1, by omega, by omega⟩, fun k k1 k2 => ?_⟩ R.2.2.1.2, g3.wide (by decide)⟩
  · exact (g2 17 (by decide)).trans ((zsu_n _ _ (by decide)).trans R.2.2.1.1.2.1)
  · exact ((R.2.2.1.1.2.2.2 k k1 k2).ag (zAg.su σ 16 _) (by omega)).ag g2 (by omega)
theorem RepC.sv (R : RepC σ n X o l Hs Sl f L) {k : Int} (hk : 0 ≤ k ∧ k < 2) : RepC (zsu (zbec σ (116 + 15 * k) X) (115 + 15 * k) (zO 3 [zr (116 + 15 * k), zi (zb true)])) n X o l Hs (fun j => if j = k then (X, true) else Sl j) f L ∧ zAg σ (zsu (zbec σ (116 + 15 * k) X) (115 + 15 * k) (zO 3 [zr (116 + 15 * k), zi (zb true)])) 1 144 := by
  obtain ⟨h1, h2, h3, h4, h5, ⟨de, dt, h6⟩, z, h7⟩ := R
  have g0 := zbec_ag σ (116 + 15 * k) X
  have gs := zAg.su (zbec σ (116 + 15 * k) X) (115 + 15 * k) (zO 3 [zr (116 + 15 * k), zi (zb true)])
  have hg : zAg σ (zsu (zbec σ (116 + 15 * k) X) (115 + 15 * k) (zO 3 [zr (116 + 15 * k), zi (zb true)])) (115 + 15 * k) (129 + 15 * k) := (g0.wide (by omega)).trans (gs.wide (by omega))
  have hw : zAg σ (zsu (zbec σ (116 + 15 * k) X) (115 + 15 * k) (zO 3 [zr (116 + 15 * k), zi (zb true)])) 115 144 := hg.wide (by omega)
  refine ⟨⟨h1.ag hw (by decide), ⟨h2.1.ag hw (by decide), h2.2⟩, ⟨h3.1.ag hw (by decide), h3.2⟩, ⟨⟨(hw 102 (by decide)).trans h4.1.1, fun j j1 j2 => ?_⟩, fun j => ?_⟩, h5.ag hw (by decide), ⟨de, dt, h6.ag hw (by decide)⟩, z, (hw 114 (by decide)).trans h7⟩, hw.wide (by decide)⟩
  · obtain ⟨a, b⟩ := h4.1.2 j j1 j2
    by_cases q : j = k
    · subst q
      dsimp only
      rw [if_pos rfl]
      exact ⟨zsu_s _ _ _, (zbec_is X b).ag gs (by omega)⟩
    · dsimp only
      rw [if_neg q]
      exact ⟨(hg _ (by omega)).trans a, b.ag hg (by omega)⟩
  · dsimp only
    split
    · exact h2.2
    · exact h4.2 j
theorem RepC.rs (R : RepC σ n X o l Hs Sl f L) {k : Int} (hk : 0 ≤ k ∧ k < 2) : RepC (zbec (zsu (zbec σ (18 + 14 * ((o + l) % 6)) X) 16 (zO 0 [zr 17, zi (zkO o l), zi (zkL l)])) 2 (Sl k).1) n (Sl k).1 (zkO o l) (zkL l) (zhu Hs ((o + l) % 6) X) Sl f L ∧ zAg σ (zbec (zsu (zbec σ (18 + 14 * ((o + l) % 6)) X) 16 (zO 0 [zr 17, zi (zkO o l), zi (zkL l)])) 2 (Sl k).1) 1 144 := by
  have hb := R.b
  have hi : 0 ≤ (o + l) % 6 ∧ (o + l) % 6 < 6 := by omega
  have hp := R.2.2.1.1.put hi X (zkO o l) (zkL l) (zkb hb)
  have g0 := zbec_ag σ (18 + 14 * ((o + l) % 6)) X
  have g1 := zAg.su (zbec σ (18 + 14 * ((o + l) % 6)) X) 16 (zO 0 [zr 17, zi (zkO o l), zi (zkL l)])
  have g01 := (g0.wide (a2 := 16) (b2 := 101) (by omega)).trans (g1.wide (by decide))
  have g2 := zbec_ag (zsu (zbec σ (18 + 14 * ((o + l) % 6)) X) 16 (zO 0 [zr 17, zi (zkO o l), zi (zkL l)])) 2 (Sl k).1
  have hs2 := R.2.1.1.ag g01 (by decide)
  have g3 := (g01.wide (a2 := 2) (b2 := 101) (by decide)).trans (g2.wide (by decide))
  exact ⟨R.now g3 (zbec_is _ hs2) (R.2.2.2.1.2 k) (hp.ag g2 (by decide)) (okH R.2.2.1.2 _ R.2.1.2), g3.wide (by decide)⟩
theorem RepC.p0 (R : RepC σ n X o l Hs Sl f L) : ∃ p x, σ 103 = zPO L p x ∧ σ 104 = zP 2 80 f ∧ 0 ≤ L ∧ L ≤ 80 := by
  obtain ⟨p, x, te, tt, u, v, w, h⟩ := R.2.2.2.2.1
  exact ⟨p, x, h.1, h.2.1, h.2.2.2.2.2⟩
theorem isPd.set {p x : Int} {te tt u v w : Int → Int} (h : isPd σ n f L p x te tt u v w) {L2 : Int} (hL : 0 ≤ L2 ∧ L2 ≤ 80) (f2 : Int → Int) (p2 x2 : Int) : isPd (zsu (zsu σ 104 (zP 2 80 f2)) 103 (zPO L2 p2 x2)) n f2 L2 p2 x2 te tt u v w := by
  obtain ⟨h1, h2, h3, ⟨h4, h5, h6⟩, h7, h8⟩ := h
  have hg : zAg σ (zsu (zsu σ 104 (zP 2 80 f2)) 103 (zPO L2 p2 x2)) 103 104 := ((zAg.su σ 104 _).wide (by decide)).trans ((zAg.su _ 103 _).wide (by decide))
  exact ⟨zsu_s _ _ _, (zsu_n _ _ (by decide)).trans (zsu_s _ _ _), h3.ag hg (by decide), ⟨(hg _ (by decide)).trans h4, (hg _ (by decide)).trans h5, (hg _ (by decide)).trans h6⟩, h7, hL⟩
theorem RepC.pt (R : RepC σ n X o l Hs Sl f L) {L2 : Int} (hL : 0 ≤ L2 ∧ L2 ≤ 80) (f2 : Int → Int) (p2 x2 : Int) : RepC (zsu (zsu σ 104 (zP 2 80 f2)) 103 (zPO L2 p2 x2)) n X o l Hs Sl f2 L2 ∧ zAg σ (zsu (zsu σ 104 (zP 2 80 f2)) 103 (zPO L2 p2 x2)) 1 144 := by
  obtain ⟨p, x, te, tt, u, v, w, h⟩ := R.2.2.2.2.1
  have hg : zAg σ (zsu (zsu σ 104 (zP 2 80 f2)) 103 (zPO L2 p2 x2)) 103 110 := ((zAg.su σ 104 _).wide (by decide)).trans ((zAg.su _ 103 _).wide (by decide))
  exact ⟨R.pad hg ⟨p2, x2, te, tt, u, v, w, h.set hL f2 p2 x2⟩, hg.wide (by decide)⟩
theorem RepC.wp (R : RepC σ n X o l Hs Sl f L) (p2 x2 : Int) : RepC (zsu σ 103 (zPO 0 p2 x2)) n X o l Hs Sl f 0 ∧ zAg σ (zsu σ 103 (zPO 0 p2 x2)) 1 144 := by
  obtain ⟨p, x, h1, h2, h3⟩ := R.p0
  have := R.pt (L2 := 0) (by decide) f p2 x2
  rw [zsu_self h2] at this
  exact this
end
section
variable {σ σ2 : zS} {um L : Int} {S U Z H P : Int → Int}
theorem zAg.q {k : Int} {c : zC} (h : 145 ≤ k ∧ k ≤ 155) : zAg σ (zsu σ k c) 145 155 := (zAg.su σ k c).wide (by omega)
theorem zAg.m4 {O : zC} : zAg σ (zM4 σ O S U) 145 155 := fun k hk => zM4_o _ _ _ _ (by omega)
end
