/-- what holds between the object's values and the model's -/
def zPu (X : zSV) (o l : Int) (Hs : Int → zSV) (Sl : Int → zSV × Bool) (f : Int → Int) (L : Int) (S U Z H P : Int → Int) : Prop := zRl X S ∧ (∀ k, 0 ≤ k → k < l → zRl (Hs ((o + k) % 6)) (fun j => U (1365 * k + j))) ∧ (∀ k, 0 ≤ k → k < 2 → H k = zb (Sl k).2 ∧ ((Sl k).2 = true → zRl (Sl k).1 (fun j => Z (1365 * k + j)))) ∧ isPm P f L
section
variable {X : zSV} {o l : Int} {Hs : Int → zSV} {Sl : Int → zSV × Bool} {f : Int → Int} {L : Int} {S U Z H P : Int → Int}
theorem zkL_u (h : 0 ≤ l ∧ l ≤ 6) : zkL l = zu1 l + 1 := by
  unfold zkL zu1
  split <;> split <;> omega
theorem zPu.ch (h : zPu X o l Hs Sl f L S U Z H P) (hb : (0 ≤ o ∧ o < 6) ∧ 0 ≤ l ∧ l ≤ 6) {X2 : zSV} {S2 : Int → Int} (h2 : zRl X2 S2) : zPu X2 (zkO o l) (zkL l) (zhu Hs ((o + l) % 6) X) Sl f L S2 (zU2 l U S) Z H P := by
  obtain ⟨k1, k2, k3⟩ := h
  refine ⟨h2, fun k q1 q2 => ?_, k3⟩
  by_cases h6 : l < 6
  · have e1 : zkO o l = o := if_pos h6
    have e2 : zkL l = l + 1 := if_pos h6
    have e3 : zu1 l = l := if_neg (by omega)
    have e4 : zU1 l U = U := if_neg (by omega)
    rw [e1]
    by_cases q : k = l
    · rw [q, show zhu Hs ((o + l) % 6) X ((o + l) % 6) = X from if_pos rfl]
      refine k1.cg (fun j j1 j2 => ?_)
      show zU2 l U S (1365 * l + j) = S j
      unfold zU2
      rw [e3, if_pos (by omega)]
      congr 1
      omega
    · rw [show zhu Hs ((o + l) % 6) X ((o + k) % 6) = Hs ((o + k) % 6) from if_neg (by omega)]
      refine (k2 k q1 (by omega)).cg (fun j j1 j2 => ?_)
      show zU2 l U S (1365 * k + j) = U (1365 * k + j)
      unfold zU2
      rw [e3, e4, if_neg (by omega)]
  · have e1 : zkO o l = (o + 1) % 6 := if_neg h6
    have e2 : zkL l = l := if_neg h6
    have e3 : zu1 l = 5 := if_pos (by omega)
    rw [e1]
    by_cases q : k = 5
    · rw [show zhu Hs ((o + l) % 6) X (((o + 1) % 6 + k) % 6) = X from if_pos (by omega)]
      refine k1.cg (fun j j1 j2 => ?_)
      show zU2 l U S (1365 * k + j) = S j
      unfold zU2
      rw [e3, if_pos (by omega)]
      congr 1
      omega
    · rw [show zhu Hs ((o + l) % 6) X (((o + 1) % 6 + k) % 6) = Hs ((o + (k + 1)) % 6) by
        rw [show ((o + 1) % 6 + k) % 6 = (o + (k + 1)) % 6 by omega]
        exact if_neg (by omega)]
      refine (k2 (k + 1) (by omega) (by omega)).cg (fun j j1 j2 => ?_)
      show zU2 l U S (1365 * k + j) = U (1365 * (k + 1) + j)
      unfold zU2 zU1
      rw [e3, if_neg (by omega), if_pos (by omega)]
      refine (if_pos (by omega)).trans ?_
      congr 1
      omega
theorem zPu.un (h : zPu X o l Hs Sl f L S U Z H P) (hl : 0 < l) (A : Int → Int) : zPu (Hs ((o + (l - 1)) % 6)) o (l - 1) Hs Sl f L (zcpy A (fun j => U (1365 * (l - 1) + j)) 1365) U Z H P := by
  obtain ⟨k1, k2, k3⟩ := h
  refine ⟨(k2 (l - 1) (by omega) (by omega)).cg (fun j j1 j2 => ?_), fun k q1 q2 => k2 k q1 (by omega), k3⟩
  exact if_pos ⟨j1, j2⟩
theorem zPu.sv (h : zPu X o l Hs Sl f L S U Z H P) {k : Int} (hk : 0 ≤ k ∧ k < 2) : zPu X o l Hs (fun j => if j = k then (X, true) else Sl j) f L S U (zseg Z S (1365 * k) 1365) (zu H k 1) P := by
  obtain ⟨k1, k2, k3, k4⟩ := h
  refine ⟨k1, k2, fun i i1 i2 => ?_, k4⟩
  by_cases q : i = k
  · dsimp only
    rw [if_pos q, q]
    refine ⟨zu_s _ _ _, fun _ => k1.cg (fun j j1 j2 => ?_)⟩
    show zseg Z S (1365 * k) 1365 (1365 * k + j) = S j
    unfold zseg
    rw [if_pos (by omega)]
    congr 1
    omega
  · dsimp only
    rw [if_neg q]
    obtain ⟨a, b⟩ := k3 i i1 i2
    refine ⟨(zu_n _ _ q).trans a, fun w => (b w).cg (fun j j1 j2 => ?_)⟩
    show zseg Z S (1365 * k) 1365 (1365 * i + j) = Z (1365 * i + j)
    unfold zseg
    rw [if_neg (by omega)]
theorem zPu.rs (h : zPu X o l Hs Sl f L S U Z H P) {k : Int} (hk : 0 ≤ k ∧ k < 2) (hs : (Sl k).2 = true) (A : Int → Int) : zRl (Sl k).1 (zcpy A (fun j => Z (1365 * k + j)) 1365) := ((h.2.2.1 k hk.1 hk.2).2 hs).cg (fun j j1 j2 => if_pos ⟨j1, j2⟩)
theorem zPu.wp (h : zPu X o l Hs Sl f L S U Z H P) : zPu X o l Hs Sl f 0 S U Z H P := ⟨h.1, h.2.1, h.2.2.1, by decide, fun j j1 j2 => by omega, h.2.2.2.2.2⟩
theorem zPu.pt (h : zPu X o l Hs Sl f L S U Z H P) {k : Nat} (hk : L + k ≤ 80) (v : Int → Int) (hv : ∀ j, 0 ≤ v j ∧ v j < 65536) : zPu X o l Hs Sl (fun j => if L ≤ j ∧ j < L + k then v j else f j) (L + k) S U Z H (fun j => if L ≤ j ∧ j < L + k then v j else P j) := by
  obtain ⟨k1, k2, k3, k4, k5, k6⟩ := h
  refine ⟨k1, k2, k3, by omega, fun j j1 j2 => ?_, fun j => ?_⟩
  · dsimp only
    by_cases q : L ≤ j ∧ j < L + k
    · rw [if_pos q, if_pos q]
    · rw [if_neg q, if_neg q]
      exact k5 j j1 (by omega)
  · dsimp only
    split
    · exact hv j
    · exact k6 j
theorem zPu.cg (h : zPu X o l Hs Sl f L S U Z H P) {S2 : Int → Int} (hS : ∀ k, 0 ≤ k → k < 1365 → S2 k = S k) : zPu X o l Hs Sl f L S2 U Z H P := ⟨h.1.cg hS, h.2⟩
end
/-- object and model stand as they should -/
def zAll (σ : zS) (n : Nat) : Prop := ∃ (X : zSV) (o l : Int) (Hs : Int → zSV) (Sl : Int → zSV × Bool) (f : Int → Int) (L : Int) (S U Z H P : Int → Int), RepC σ n X o l Hs Sl f L ∧ RepM σ l L S U Z H P ∧ zPu X o l Hs Sl f L S U Z H P
theorem zdp_3 {t : Int → Int} {row col : Int} (hr : 0 ≤ row ∧ row < 16) (hc : 0 ≤ col ∧ col < 16) (h : zVl t) : t (zno 0 row col) = 3 → t (zno 1 row col) = 3 → t (zno 2 row col) = 3 → t (zno 3 row col) ≠ 3 := by
  intro a b c
  have hd := zdvs (k := 3) (by decide) hr
  have hd2 := zdvs (k := 3) (by decide) hc
  refine h (row / zsz 3) (col / zsz 3) hd hd2 (zvis_p 3 (by decide) (fun k hk => ?_))
  have h3 : k = 0 ∨ k = 1 ∨ k = 2 := by omega
  rcases h3 with rfl | rfl | rfl
  · exact a
  · exact b
  · exact c
