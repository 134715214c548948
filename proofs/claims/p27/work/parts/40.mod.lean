/-! THE MODEL: its object is cell 145, its rows are 146 to 155 -/
abbrev zMO (um L p : Int) (wl : Bool) (lv br bc : Int) : zC := zO 6 [zi 0, zr 146, zr 147, zr 148, zi um, zr 149, zr 150, zr 151, zi L, zi p, zi (zb wl), zr 152, zr 153, zr 154, zi lv, zi br, zi bc, zr 155]
def zp2 (d : Int) : Int := if d = 0 then 1 else if d = 1 then 2 else if d = 2 then 4 else 8
def zmn (d r c : Int) : Int := (if d = 0 then 0 else if d = 1 then 1 else if d = 2 then 5 else 21) + r * zp2 d + c
def zsE (S : Int → Int) (m j : Int) : Int := S (341 * m + 85 + j)
def zsT (S : Int → Int) (m k : Int) : Int := S (341 * m + k)
theorem zmn_no (d row col : Int) : zno d row col = zmn d (row / zsz d) (col / zsz d) := rfl
theorem zp2_v {d : Int} (h : 0 ≤ d ∧ d ≤ 3) : (d = 0 ∧ zp2 d = 1) ∨ (d = 1 ∧ zp2 d = 2) ∨ (d = 2 ∧ zp2 d = 4) ∨ (d = 3 ∧ zp2 d = 8) := by
  have h3 : d = 0 ∨ d = 1 ∨ d = 2 ∨ d = 3 := by omega
  rcases h3 with rfl | rfl | rfl | rfl <;> decide
theorem zp2_e {d : Int} (h : 0 ≤ d ∧ d ≤ 3) : (2 : Int) ^ d.toNat = zp2 d := by
  have h3 : d = 0 ∨ d = 1 ∨ d = 2 ∨ d = 3 := by omega
  rcases h3 with rfl | rfl | rfl | rfl <;> decide
theorem zsz_p2 {d : Int} (h : 0 ≤ d ∧ d ≤ 3) : zsz d * zp2 d = 16 := by
  have h3 : d = 0 ∨ d = 1 ∨ d = 2 ∨ d = 3 := by omega
  rcases h3 with rfl | rfl | rfl | rfl <;> decide
theorem zsz_e {d : Int} (h : 0 ≤ d ∧ d ≤ 3) : (16 : Int) / 2 ^ d.toNat = zsz d := by
  have h3 : d = 0 ∨ d = 1 ∨ d = 2 ∨ d = 3 := by omega
  rcases h3 with rfl | rfl | rfl | rfl <;> decide
theorem zmn_in {d r c : Int} (hd : 0 ≤ d ∧ d ≤ 3) (hr : 0 ≤ r ∧ r < zp2 d) (hc : 0 ≤ c ∧ c < zp2 d) : 0 ≤ zmn d r c ∧ zmn d r c < 85 := by
  have h3 : d = 0 ∨ d = 1 ∨ d = 2 ∨ d = 3 := by omega
  rcases h3 with rfl | rfl | rfl | rfl <;> simp [zp2, zmn] at * <;> omega
/-- the model's memory, so far as most of its methods see it -/
def isMo (σ : zS) (n : Nat) (S : Int → Int) : Prop := (∃ (um L p : Int) (wl : Bool) (lv br bc : Int), σ 145 = zMO um L p wl lv br bc) ∧ σ 146 = zA 1365 S ∧ 144 ≤ n
theorem isMo.s {σ : zS} {n : Nat} {S : Int → Int} (h : isMo σ n S) (S2 : Int → Int) : isMo (zsu σ 146 (zA 1365 S2)) n S2 := by
  obtain ⟨⟨um, L, p, wl, lv, br, bc, h1⟩, h2, h3⟩ := h
  exact ⟨⟨um, L, p, wl, lv, br, bc, (zsu_n _ _ (by decide)).trans h1⟩, zsu_s _ _ _, h3⟩
theorem isMo.o {σ : zS} {n : Nat} {S : Int → Int} (h : isMo σ n S) {k : Int} (hk : k ≠ 145 ∧ k ≠ 146) (c : zC) : isMo (zsu σ k c) n S := by
  obtain ⟨⟨um, L, p, wl, lv, br, bc, h1⟩, h2, h3⟩ := h
  exact ⟨⟨um, L, p, wl, lv, br, bc, (zsu_n _ _ (by omega)).trans h1⟩, (zsu_n _ _ (by omega)).trans h2, h3⟩
section
variable {n : Nat} {σ : zS} {S : Int → Int}
/-- the room of a block of a sort, the cut ones too -/
def zrk (s q : Int) : Int := if s = 1 then q * q else if s = 2 then 2 * q else if s = 3 then 1 else 0
end
