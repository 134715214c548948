theorem zvk_iff (t : Int → Int) (d r c : Int) : ∀ k : Nat, zvk t d r c k = true ↔ ∀ a : Nat, a < k → t (zmn a (r / zp2 (d - a)) (c / zp2 (d - a))) = 3
  | 0 => ⟨fun _ a ha => absurd ha (by omega), fun _ => rfl⟩
  | k + 1 => by
    have ih := zvk_iff t d r c k
    rw [zvk, Bool.and_eq_true, ih, decide_eq_true_iff]
    constructor
    · intro h a ha
      by_cases q : a < k
      · exact h.1 a q
      · rw [show a = k by omega]
        exact h.2
    · intro h
      exact ⟨fun a ha => h a (by omega), h k (by omega)⟩
theorem zvis_mono {t t2 : Int → Int} (h : ∀ x, 0 ≤ x → x < 85 → t2 x = 3 → t x = 3) {d r c : Int} (hd : 0 ≤ d ∧ d ≤ 3) (hr : 0 ≤ r ∧ r < zp2 d) (hc : 0 ≤ c ∧ c < zp2 d) (hv : zvis t2 d r c = true) : zvis t d r c = true := by
  have h2 := (zvk_iff t2 d r c d.toNat).mp hv
  refine (zvk_iff t d r c d.toNat).mpr (fun a ha => ?_)
  have h3 := zp2_d (d := d) (j := d - a) (by omega) hd.2 hr
  have h4 := zp2_d (d := d) (j := d - a) (by omega) hd.2 hc
  rw [show d - (d - (a : Int)) = a by omega] at h3 h4
  have h5 := zmn_in (d := a) (by omega) h3 h4
  exact h _ h5.1 h5.2 (h2 a ha)
/-- the deepest blocks that are there are not cut -/
def zVl (t : Int → Int) : Prop := ∀ r c, (0 ≤ r ∧ r < 8) → (0 ≤ c ∧ c < 8) → zvis t 3 r c = true → t (zmn 3 r c) ≠ 3
theorem zVl.mono {t t2 : Int → Int} (hv : zVl t) (h : ∀ x, 0 ≤ x → x < 85 → t2 x = 3 → t x = 3) : zVl t2 := by
  intro r c hr hc h1 h2
  have h5 := zmn_in (d := 3) (r := r) (c := c) (by decide) hr hc
  exact hv r c hr hc (zvis_mono h (by decide) hr hc h1) (h _ h5.1 h5.2 h2)
theorem zsz_4 (d : Int) : zsz d = 16 ∨ zsz d = 8 ∨ zsz d = 4 ∨ zsz d = 2 := by
  unfold zsz
  split
  · exact Or.inl rfl
  split
  · exact Or.inr (Or.inl rfl)
  split
  · exact Or.inr (Or.inr (Or.inl rfl))
  · exact Or.inr (Or.inr (Or.inr rfl))
theorem zp2_4 (d : Int) : zp2 d = 1 ∨ zp2 d = 2 ∨ zp2 d = 4 ∨ zp2 d = 8 := by
  unfold zp2
  split
  · exact Or.inl rfl
  split
  · exact Or.inr (Or.inl rfl)
  split
  · exact Or.inr (Or.inr (Or.inl rfl))
  · exact Or.inr (Or.inr (Or.inr rfl))
theorem zrk_in (s d : Int) : 0 ≤ zrk s (zsz d) ∧ zrk s (zsz d) ≤ 256 := by
  unfold zrk
  rcases zsz_4 d with h | h | h | h <;> rw [h] <;> split <;> (try split) <;> (try split) <;> decide
theorem zrmI_in (t : Int → Int) (b N r c k : Int) : 0 ≤ zrmI t b N r c k ∧ zrmI t b N r c k ≤ 256 := by
  unfold zrmI
  split
  · exact zrk_in _ _
  · decide
theorem zrmO_in (t : Int → Int) (d r c j : Int) : 0 ≤ zrmO t d r c j ∧ zrmO t d r c j ≤ 16384 := by
  have h := zsmN (fun k => zrmI_in t (d + j) (zp2 j) r c k) (zp2 j * zp2 j).toNat
  have h2 : (zp2 j * zp2 j).toNat ≤ 64 := by
    rcases zp2_4 j with h | h | h | h <;> rw [h] <;> decide
  unfold zrmO
  omega
theorem zrmF_in (t : Int → Int) {d : Int} (hd : 0 ≤ d) (r c : Int) : 0 ≤ zrmF t d r c ∧ zrmF t d r c ≤ 65536 := by
  have h := zsmN (fun k => zrmO_in t d r c k) (4 - d).toNat
  unfold zrmF
  omega
noncomputable def zmb (S : Int → Int) (m d r c : Int) : Int → Int :=
  if zsT S m (zmn d r c) = 3 then zu S (341 * m + zmn d r c) (if ∀ k : Nat, k < 4 → zsT S m (zmn (d + 1) (2 * r + (k : Int) / 2) (2 * c + (k : Int) % 2)) = 0 then 0 else if zone (zsE S m) (r * zsz d) (c * zsz d) (zsz d) = 1 ∧ 2 * zsz d ≤ zrmF (zsT S m) d r c then 2 else 3)
  else if zsT S m (zmn d r c) ≠ 0 then zu S (341 * m + zmn d r c) (if zone (zsE S m) (r * zsz d) (c * zsz d) (zsz d) = 2 then 0 else if zone (zsE S m) (r * zsz d) (c * zsz d) (zsz d) = 1 then 2 else zsT S m (zmn d r c)) else S
noncomputable def zlvs (m d N : Int) (T : Int → Int) (k : Int) : Int → Int := if zvis (zsT T m) d (k / N) (k % N) = true then zmb T m d (k / N) (k % N) else T
noncomputable def zlv (m d N : Int) (S : Int → Int) : Nat → Int → Int := zfo (zlvs m d N) S
noncomputable def zsh (m : Int) (S : Int → Int) : Nat → Int → Int := zfo (fun T j => zlv m (3 - j) (zp2 (3 - j)) T (zp2 (3 - j) * zp2 (3 - j)).toNat) S
def okM (m : Int) (S : Int → Int) : Prop := isSo S ∧ zEn S ∧ zVl (zsT S m)
theorem zmb_ok {S : Int → Int} {m d r c : Int} (h : okM m S) (hm : 0 ≤ m ∧ m < 4) (hd : 0 ≤ d ∧ d ≤ 3) (hr : 0 ≤ r ∧ r < zp2 d) (hc : 0 ≤ c ∧ c < zp2 d) : okM m (zmb S m d r c) := by
  obtain ⟨h1, h2, h3⟩ := h
  have hz := zmn_in hd hr hc
  have hs := h1.m hm hd hr hc
  have key : ∀ v : Int, (0 ≤ v ∧ v ≤ 3) → (v = 3 → zsT S m (zmn d r c) = 3) → okM m (zu S (341 * m + zmn d r c) v) := by
    intro v hv hv3
    refine ⟨h1.t hm hz hv, h2.t v hm hz, h3.mono (fun x hx1 hx2 hx3 => ?_)⟩
    rw [zsT_t S v hm hz hm ⟨hx1, hx2⟩] at hx3
    by_cases q : m = m ∧ x = zmn d r c
    · rw [if_pos q] at hx3
      rw [q.2]
      exact hv3 hx3
    · rw [if_neg q] at hx3
      exact hx3
  unfold zmb
  split
  · rename_i c3
    refine key _ ?_ (fun _ => c3)
    split
    · decide
    · split <;> decide
  · split
    · refine key _ ?_ ?_
      · split
        · decide
        · split
          · decide
          · exact hs
      · split
        · intro q
          cases q
        · split
          · intro q
            cases q
          · exact fun q => q
    · exact ⟨h1, h2, h3⟩
theorem zlvs_ok {S : Int → Int} {m d k : Int} (h : okM m S) (hm : 0 ≤ m ∧ m < 4) (hd : 0 ≤ d ∧ d ≤ 3) (hr : 0 ≤ k / zp2 d ∧ k / zp2 d < zp2 d) (hc : 0 ≤ k % zp2 d ∧ k % zp2 d < zp2 d) : okM m (zlvs m d (zp2 d) S k) := by
  unfold zlvs
  split
  · exact zmb_ok h hm hd hr hc
  · exact h
section
variable {n : Nat} {σ : zS} {S : Int → Int}
end
