theorem zaq_e {m q x row col : Int} {N : Nat} {S : Int → Int} (hm : 0 ≤ m ∧ m < 4) (hq : 0 ≤ q ∧ q < 4) (hne : m ≠ q) (h1 : 0 ≤ row ∧ row + N ≤ 16) (h2 : 0 ≤ col ∧ col + N ≤ 16) : ∀ k : Nat, k ≤ N * N → (∀ i, (i < 341 * m + 85 ∨ 341 * m + 341 ≤ i) → zaq S m q x row col N k i = S i) ∧ ∀ j, 0 ≤ j → j < 256 → zaq S m q x row col N k (341 * m + 85 + j) = if ((row ≤ j / 16 ∧ j / 16 < row + N) ∧ col ≤ j % 16 ∧ j % 16 < col + N) ∧ (j / 16 - row) * N + (j % 16 - col) < k then zclp (zsE S m j + x * zsE S q j) else S (341 * m + 85 + j)
  | 0, _ => ⟨fun _ _ => rfl, fun j j1 j2 => by
    by_cases c : ((row ≤ j / 16 ∧ j / 16 < row + N) ∧ col ≤ j % 16 ∧ j % 16 < col + N)
    · have h3 : 0 ≤ (j / 16 - row) * (N : Int) := Int.mul_nonneg (by omega) (by omega)
      rw [if_neg (by omega)]
      rfl
    · rw [if_neg (fun z => c z.1)]
      rfl⟩
  | k + 1, hk => by
    obtain ⟨g1, g2⟩ := zaq_e (S := S) (x := x) hm hq hne h1 h2 k (by omega)
    have hd := zdm (N := N) (k := k) (by omega)
    have e : zaq S m q x row col N (k + 1) = zu (zaq S m q x row col N k) (341 * m + 85 + ((row + k / N) * 16 + (col + k % N))) (zclp (zsE (zaq S m q x row col N k) m ((row + k / N) * 16 + (col + k % N)) + x * zsE (zaq S m q x row col N k) q ((row + k / N) * 16 + (col + k % N)))) := rfl
    rw [e]
    refine ⟨fun i hi => ?_, fun j j1 j2 => ?_⟩
    · rw [zu_n _ _ (by omega)]
      exact g1 i hi
    · have hEq : ∀ j, 0 ≤ j → j < 256 → zsE (zaq S m q x row col N k) q j = zsE S q j := fun j j1 j2 => g1 _ (by omega)
      by_cases w : j = (row + k / N) * 16 + (col + k % N)
      · have q1 : j / 16 = row + (k : Int) / N := by omega
        have q2 : j % 16 = col + (k : Int) % N := by omega
        have q3 : (j / 16 - row) * N + (j % 16 - col) = (k : Int) := by
          rw [q1, q2, show row + (k : Int) / N - row = (k : Int) / N by omega, show col + (k : Int) % N - col = (k : Int) % N by omega]
          exact Int.ediv_mul_add_emod _ _
        rw [if_pos (by omega), ← w, zu_s, hEq j j1 j2]
        congr 2
        have := g2 j j1 j2
        rw [if_neg (by omega)] at this
        exact this
      · rw [zu_n _ _ (by omega), g2 j j1 j2]
        by_cases c : ((row ≤ j / 16 ∧ j / 16 < row + N) ∧ col ≤ j % 16 ∧ j % 16 < col + N)
        · have q4 : (j / 16 - row) * (N : Int) + (j % 16 - col) ≠ k := by
            intro z
            have z2 := zdq (q := N) (i := j / 16 - row) (j := j % 16 - col) (by omega)
            rw [z] at z2
            omega
          by_cases c2 : (j / 16 - row) * (N : Int) + (j % 16 - col) < k
          · rw [if_pos ⟨c, c2⟩, if_pos ⟨c, by omega⟩]
          · rw [if_neg (fun z => c2 z.2), if_neg (by omega)]
        · rw [if_neg (fun z => c z.1), if_neg (fun z => c z.1)]
/-- the blocks before place k of depth d -/
def zpc (d k d2 r2 c2 : Int) : Prop := d2 < d ∨ (d2 = d ∧ r2 * zp2 d + c2 < k)
theorem zpc_s {d r c d2 r2 c2 : Int} (hr : 0 ≤ r ∧ r < zp2 d) (hc : 0 ≤ c ∧ c < zp2 d) (hr2 : 0 ≤ r2 ∧ r2 < zp2 d2) (hc2 : 0 ≤ c2 ∧ c2 < zp2 d2) : zpc d (r * zp2 d + c + 1) d2 r2 c2 ↔ (zpc d (r * zp2 d + c) d2 r2 c2 ∨ (d2 = d ∧ r2 = r ∧ c2 = c)) := by
  have pos : d2 = d → (r2 * zp2 d + c2 < r * zp2 d + c + 1 ↔ (r2 * zp2 d + c2 < r * zp2 d + c ∨ (r2 = r ∧ c2 = c))) := by
    intro e
    rw [e] at hr2 hc2
    have q4 := zp2_4 d
    revert hr2 hc2 hr hc
    generalize zp2 d = N at q4 ⊢
    intro hr hc hr2 hc2
    rcases q4 with rfl | rfl | rfl | rfl <;> omega
  unfold zpc
  constructor
  · rintro (z | ⟨z, z2⟩)
    · exact Or.inl (Or.inl z)
    · rcases (pos z).mp z2 with w | w
      · exact Or.inl (Or.inr ⟨z, w⟩)
      · exact Or.inr ⟨z, w⟩
  · rintro ((z | ⟨z, z2⟩) | ⟨z, w⟩)
    · exact Or.inl z
    · exact Or.inr ⟨z, (pos z).mpr (Or.inl z2)⟩
    · exact Or.inr ⟨z, (pos z).mpr (Or.inr w)⟩
theorem zpc_nx {d d2 r2 c2 : Int} (hr2 : 0 ≤ r2 ∧ r2 < zp2 d2) (hc2 : 0 ≤ c2 ∧ c2 < zp2 d2) : zpc d (zp2 d * zp2 d) d2 r2 c2 ↔ zpc (d + 1) 0 d2 r2 c2 := by
  have q4 := zp2_4 d
  have q5 := zp2_4 (d + 1)
  have hrc : d2 = d → r2 * zp2 d + c2 < zp2 d * zp2 d := fun e => by
    rw [e] at hr2 hc2
    revert hr2 hc2
    generalize zp2 d = N at q4 ⊢
    intro hr2 hc2
    rcases q4 with rfl | rfl | rfl | rfl <;> omega
  have hnn : ¬ (r2 * zp2 (d + 1) + c2 < 0) := by
    revert q5
    generalize zp2 (d + 1) = N
    intro q5
    rcases q5 with rfl | rfl | rfl | rfl <;> omega
  unfold zpc
  constructor
  · rintro (z | ⟨z, _⟩)
    · exact Or.inl (by omega)
    · exact Or.inl (by omega)
  · rintro (z | ⟨z, z2⟩)
    · by_cases q : d2 = d
      · exact Or.inr ⟨q, hrc q⟩
      · exact Or.inl (by omega)
    · exact absurd z2 hnn
theorem zpc_self {d r c : Int} : ¬ zpc d (r * zp2 d + c) d r c := by
  unfold zpc
  omega
/-- what stands in the model's sum before place k of depth d -/
def zJv (S : Int → Int) (m q x : Int) (P : (Int → Int) × (Int → Int)) (d k : Int) : Prop := (∀ i, (i < 341 * m ∨ 341 * m + 341 ≤ i) → P.1 i = S i) ∧ (∀ d2 r2 c2, (0 ≤ d2 ∧ d2 ≤ 3) → (0 ≤ r2 ∧ r2 < zp2 d2) → (0 ≤ c2 ∧ c2 < zp2 d2) → (zpc d k d2 r2 c2 → zht (zsT S m) (zsT S q) d2 r2 c2 → zsT P.1 m (zmn d2 r2 c2) = 1) ∧ (¬ (zpc d k d2 r2 c2 ∧ zht (zsT S m) (zsT S q) d2 r2 c2) → zsT P.1 m (zmn d2 r2 c2) = zsT S m (zmn d2 r2 c2)) ∧ (P.2 (zmn d2 r2 c2) ≠ 0 ↔ zon (zsT S m) (zsT S q) d2 r2 c2 = true ∧ (d2 = 0 ∨ zpc d k (d2 - 1) (r2 / 2) (c2 / 2)))) ∧ ∀ j, 0 ≤ j → j < 256 → ((∃ d2 r2 c2, (0 ≤ d2 ∧ d2 ≤ 3) ∧ (0 ≤ r2 ∧ r2 < zp2 d2) ∧ (0 ≤ c2 ∧ c2 < zp2 d2) ∧ zpc d k d2 r2 c2 ∧ zht (zsT S m) (zsT S q) d2 r2 c2 ∧ zib j d2 r2 c2) → zsE P.1 m j = zclp (zsE S m j + x * zsE S q j)) ∧ (¬ (∃ d2 r2 c2, (0 ≤ d2 ∧ d2 ≤ 3) ∧ (0 ≤ r2 ∧ r2 < zp2 d2) ∧ (0 ≤ c2 ∧ c2 < zp2 d2) ∧ zpc d k d2 r2 c2 ∧ zht (zsT S m) (zsT S q) d2 r2 c2 ∧ zib j d2 r2 c2) → zsE P.1 m j = zsE S m j)
theorem zib_z {j d r c d2 r2 c2 : Int} (hj : 0 ≤ j ∧ j < 256) (h0 : 0 ≤ d) (h1 : d ≤ d2) (h2 : d2 ≤ 3) (hi : zib j d r c) (hi2 : zib j d2 r2 c2) : zan d r c d2 r2 c2 := by
  obtain ⟨a, b⟩ := hi
  obtain ⟨a2, b2⟩ := hi2
  subst a b a2 b2
  have key : ∀ x : Int, 0 ≤ x → x < 16 → x / zsz d2 / zp2 (d2 - d) = x / zsz d := by
    intro x x0 x1
    have h4 : (d = 0 ∧ (d2 = 0 ∨ d2 = 1 ∨ d2 = 2 ∨ d2 = 3)) ∨ (d = 1 ∧ (d2 = 1 ∨ d2 = 2 ∨ d2 = 3)) ∨ (d = 2 ∧ (d2 = 2 ∨ d2 = 3)) ∨ (d = 3 ∧ d2 = 3) := by omega
    rcases h4 with ⟨rfl, rfl | rfl | rfl | rfl⟩ | ⟨rfl, rfl | rfl | rfl⟩ | ⟨rfl, rfl | rfl⟩ | ⟨rfl, rfl⟩ <;> simp [zp2, zsz] <;> omega
  exact ⟨h1, key _ (by omega) (by omega), key _ (by omega) (by omega)⟩
/-- two hits are never one in the other -/
theorem zht_1 {t tq : Int → Int} {j d r c d2 r2 c2 : Int} (hd : 0 ≤ d ∧ d ≤ 3) (hd2 : 0 ≤ d2 ∧ d2 ≤ 3) (hj : 0 ≤ j ∧ j < 256) (h : ¬ (tq (zmn d r c) = 3 ∧ t (zmn d r c) = 3)) (ho : zon t tq d2 r2 c2 = true) (hi : zib j d r c) (hi2 : zib j d2 r2 c2) : d2 ≤ d := by
  by_cases q : d2 ≤ d
  · exact q
  · exfalso
    have ha : zan d r c d2 r2 c2 := zib_z hj hd.1 (by omega) hd2.2 hi hi2
    have := zht_x hd.1 hd2.2 h ha ho
    omega
theorem zJv.s {S : Int → Int} {m q x : Int} {P : (Int → Int) × (Int → Int)} (hm : 0 ≤ m ∧ m < 4) (hq : 0 ≤ q ∧ q < 4) (hne : m ≠ q) (hvl : zVl (zsT S m)) {d r c : Int} (hd : 0 ≤ d ∧ d ≤ 3) (hr : 0 ≤ r ∧ r < zp2 d) (hc : 0 ≤ c ∧ c < zp2 d) (h : zJv S m q x P d (r * zp2 d + c)) : zJv S m q x (if P.2 (zmn d r c) = 0 then P else zab P.1 P.2 m q x d r c) d (r * zp2 d + c + 1) := by
  have hbz := zmn_in hd hr hc
  obtain ⟨h1, h2, h3⟩ := h
  have hn := h2 d r c hd hr hc
  have hT : zsT P.1 m (zmn d r c) = zsT S m (zmn d r c) := hn.2.1 (fun z => zpc_self z.1)
  have hQ : zsT P.1 q (zmn d r c) = zsT S q (zmn d r c) := h1 _ (by omega)
  have hO : P.2 (zmn d r c) ≠ 0 ↔ zon (zsT S m) (zsT S q) d r c = true := by
    rw [hn.2.2]
    refine ⟨fun z => z.1, fun z => ⟨z, ?_⟩⟩
    by_cases q : d = 0
    · exact Or.inl q
    · exact Or.inr (Or.inl (by omega))
  -- a block's own four
  have par : ∀ {d2 r2 c2 : Int}, (1 ≤ d2 ∧ d2 ≤ 3) → zon (zsT S m) (zsT S q) d2 r2 c2 = true → d2 - 1 = d → r2 / 2 = r → c2 / 2 = c → zon (zsT S m) (zsT S q) d r c = true ∧ (zsT S q (zmn d r c) = 3 ∧ zsT S m (zmn d r c) = 3) := by
    intro d2 r2 c2 hd2 hz e1 e2 e3
    have := zon_d (zsT S m) (zsT S q) (d := d) r2 c2 (by omega)
    rw [show d + 1 = d2 by omega, hz, e2, e3] at this
    have := this.symm
    rw [Bool.and_eq_true, decide_eq_true_iff] at this
    exact this
  have pz : ∀ {d2 r2 c2 : Int}, (1 ≤ d2 ∧ d2 ≤ 3) → (0 ≤ r2 ∧ r2 < zp2 d2) → (0 ≤ c2 ∧ c2 < zp2 d2) → (zpc d (r * zp2 d + c + 1) (d2 - 1) (r2 / 2) (c2 / 2) ↔ (zpc d (r * zp2 d + c) (d2 - 1) (r2 / 2) (c2 / 2) ∨ (d2 - 1 = d ∧ r2 / 2 = r ∧ c2 / 2 = c))) := by
    intro d2 r2 c2 hd2 hr2 hc2
    refine zpc_s hr hc ?_ ?_
    · exact zp2_h (d := d2 - 1) (by omega) (by rw [show d2 - 1 + 1 = d2 by omega]; exact hr2)
    · exact zp2_h (d := d2 - 1) (by omega) (by rw [show d2 - 1 + 1 = d2 by omega]; exact hc2)
  -- nothing is done here: what stands is kept
  have same : ¬ zht (zsT S m) (zsT S q) d r c → ¬ (zon (zsT S m) (zsT S q) d r c = true ∧ (zsT S q (zmn d r c) = 3 ∧ zsT S m (zmn d r c) = 3)) → zJv S m q x P d (r * zp2 d + c + 1) := by
    intro hnh hno
    refine ⟨h1, fun d2 r2 c2 hd2 hr2 hc2 => ?_, fun j j1 j2 => ?_⟩
    · obtain ⟨k1, k2, k3⟩ := h2 d2 r2 c2 hd2 hr2 hc2
      refine ⟨fun z w => k1 ?_ w, fun z => k2 (fun w => z ⟨(zpc_s hr hc hr2 hc2).mpr (Or.inl w.1), w.2⟩), ?_⟩
      · rcases (zpc_s hr hc hr2 hc2).mp z with z | ⟨e1, e2, e3⟩
        · exact z
        · rw [e1, e2, e3] at w
          exact absurd w hnh
      · rw [k3]
        constructor
        · rintro ⟨a, b⟩
          refine ⟨a, ?_⟩
          rcases b with b | b
          · exact Or.inl b
          · by_cases e : d2 = 0
            · exact Or.inl e
            · exact Or.inr ((pz (by omega) hr2 hc2).mpr (Or.inl b))
        · rintro ⟨a, b⟩
          refine ⟨a, ?_⟩
          rcases b with b | b
          · exact Or.inl b
          · by_cases e : d2 = 0
            · exact Or.inl e
            · rcases (pz (by omega) hr2 hc2).mp b with b | ⟨e1, e2, e3⟩
              · exact Or.inr b
              · exact absurd (par (by omega) a e1 e2 e3) hno
    · obtain ⟨k1, k2⟩ := h3 j j1 j2
      refine ⟨fun ⟨d2, r2, c2, hd2, hr2, hc2, z, w, u⟩ => k1 ⟨d2, r2, c2, hd2, hr2, hc2, ?_, w, u⟩, fun z => k2 (fun ⟨d2, r2, c2, hd2, hr2, hc2, v, w, u⟩ => z ⟨d2, r2, c2, hd2, hr2, hc2, (zpc_s hr hc hr2 hc2).mpr (Or.inl v), w, u⟩)⟩
      rcases (zpc_s hr hc hr2 hc2).mp z with z | ⟨e1, e2, e3⟩
      · exact z
      · rw [e1, e2, e3] at w
        exact absurd w hnh
  by_cases ho : zon (zsT S m) (zsT S q) d r c = true
  · rw [if_neg (hO.mpr ho)]
    unfold zab
    rw [hT, hQ]
    by_cases hb : zsT S q (zmn d r c) = 3 ∧ zsT S m (zmn d r c) = 3
    · -- both are cut: the four are opened
      rw [if_pos hb]
      have hd2 : d ≤ 2 := by
        by_cases e : d = 3
        · subst e
          unfold zon at ho
          rw [Bool.and_eq_true] at ho
          exact absurd hb.2 (hvl r c hr hc ho.1)
        · omega
      have hnh : ¬ zht (zsT S m) (zsT S q) d r c := fun z => z.2.1 hb
      have e4 : ∀ g : (Int → Int) → Int → Int → Int, ∀ a : Int → Int, zfo g a 4 = g (g (g (g a 0) 1) 2) 3 := fun g a => rfl
      have e5 : ∀ k, zfo (fun T k => zu T (zmn (d + 1) (2 * r + k / 2) (2 * c + k % 2)) 1) P.2 4 k = @ite _ (zch4 d r c k) (Classical.propDecidable _) 1 (P.2 k) := by
        intro k
        rw [e4]
        rw [show 2 * r + 0 / 2 = 2 * r by omega, show 2 * c + 0 % 2 = 2 * c by omega, show 2 * r + 1 / 2 = 2 * r by omega, show 2 * c + 1 % 2 = 2 * c + 1 by omega, show 2 * r + 2 / 2 = 2 * r + 1 by omega, show 2 * c + 2 % 2 = 2 * c by omega, show 2 * r + 3 / 2 = 2 * r + 1 by omega, show 2 * c + 3 % 2 = 2 * c + 1 by omega]
        exact z4u P.2 _ _ _ _ 1 k
      refine ⟨h1, fun d2 r2 c2 hd2' hr2 hc2 => ?_, fun j j1 j2 => ?_⟩
      · obtain ⟨k1, k2, k3⟩ := h2 d2 r2 c2 hd2' hr2 hc2
        refine ⟨fun z w => k1 ?_ w, fun z => k2 (fun w => z ⟨(zpc_s hr hc hr2 hc2).mpr (Or.inl w.1), w.2⟩), ?_⟩
        · rcases (zpc_s hr hc hr2 hc2).mp z with z | ⟨e1, e2, e3⟩
          · exact z
          · rw [e1, e2, e3] at w
            exact absurd w hnh
        · dsimp only
          rw [e5]
          by_cases w : zch4 d r c (zmn d2 r2 c2)
          · rw [if_pos w]
            obtain ⟨e1, e2, e3⟩ := zch4_of (by omega) hr hc hd2' hr2 hc2 w
            refine ⟨fun _ => ⟨?_, Or.inr ((pz (by omega) hr2 hc2).mpr (Or.inr ⟨by omega, e2, e3⟩))⟩, fun _ => by decide⟩
            rw [e1, zon_d _ _ _ _ (by omega), e2, e3, ho, decide_eq_true hb]
            rfl
          · rw [if_neg w, k3]
            constructor
            · rintro ⟨a, b⟩
              refine ⟨a, ?_⟩
              rcases b with b | b
              · exact Or.inl b
              · by_cases e : d2 = 0
                · exact Or.inl e
                · exact Or.inr ((pz (by omega) hr2 hc2).mpr (Or.inl b))
            · rintro ⟨a, b⟩
              refine ⟨a, ?_⟩
              rcases b with b | b
              · exact Or.inl b
              · by_cases e : d2 = 0
                · exact Or.inl e
                · rcases (pz (by omega) hr2 hc2).mp b with b | ⟨e1, e2, e3⟩
                  · exact Or.inr b
                  · refine absurd ?_ w
                    rw [← e2, ← e3, show d2 = d + 1 by omega]
                    exact zch4_mk
      · obtain ⟨k1, k2⟩ := h3 j j1 j2
        refine ⟨fun ⟨d2, r2, c2, hd2, hr2, hc2, z, w, u⟩ => k1 ⟨d2, r2, c2, hd2, hr2, hc2, ?_, w, u⟩, fun z => k2 (fun ⟨d2, r2, c2, hd2, hr2, hc2, v, w, u⟩ => z ⟨d2, r2, c2, hd2, hr2, hc2, (zpc_s hr hc hr2 hc2).mpr (Or.inl v), w, u⟩)⟩
        rcases (zpc_s hr hc hr2 hc2).mp z with z | ⟨e1, e2, e3⟩
        · exact z
        · rw [e1, e2, e3] at w
          exact absurd w hnh
    · rw [if_neg hb]
      by_cases h0 : zsT S q (zmn d r c) = 0
      · rw [if_neg (by omega)]
        exact same (fun z => z.2.2 h0) (fun z => hb z.2)
      · rw [if_pos h0]
        have hself : zht (zsT S m) (zsT S q) d r c := ⟨ho, hb, h0⟩
        have b1 := zbl hd hr
        have b2 := zbl hd hc
        obtain ⟨N, hN, hN2⟩ := zszN hd
        have hsq : ∀ j, zib j d r c ↔ _ := fun j => zib_sq (j := j) (r := r) (c := c) hd
        rw [hN] at b1 b2 hsq ⊢
        rw [show ((N : Int) * N).toNat = N * N by rw [← Int.natCast_mul]; rfl]
        obtain ⟨g1, g2⟩ := zaq_e (S := zu P.1 (341 * m + zmn d r c) 1) (x := x) hm hq hne b1 b2 (N * N) (Nat.le_refl _)
        refine ⟨fun i hi => ?_, fun d2 r2 c2 hd2 hr2 hc2 => ?_, fun j j1 j2 => ?_⟩
        · dsimp only
          rw [g1 i (by omega), zu_n _ _ (by omega)]
          exact h1 i hi
        · have hb2 := zmn_in hd2 hr2 hc2
          have eT : zsT (zaq (zu P.1 (341 * m + zmn d r c) 1) m q x (r * N) (c * N) N (N * N)) m (zmn d2 r2 c2) = if m = m ∧ zmn d2 r2 c2 = zmn d r c then 1 else zsT P.1 m (zmn d2 r2 c2) := by
            rw [← zsT_t P.1 1 hm hbz hm hb2]
            exact g1 _ (by omega)
          dsimp only
          rw [eT]
          obtain ⟨k1, k2, k3⟩ := h2 d2 r2 c2 hd2 hr2 hc2
          refine ⟨fun z w => ?_, fun z => ?_, ?_⟩
          · by_cases e : zmn d2 r2 c2 = zmn d r c
            · rw [if_pos ⟨rfl, e⟩]
            · rw [if_neg (fun y => e y.2)]
              refine k1 ?_ w
              rcases (zpc_s hr hc hr2 hc2).mp z with z | ⟨e1, e2, e3⟩
              · exact z
              · exact absurd (by rw [e1, e2, e3]) e
          · have e : zmn d2 r2 c2 ≠ zmn d r c := fun e => by
              obtain ⟨e1, e2, e3⟩ := zmn_inj hd2 hr2 hc2 hd hr hc e
              refine z ⟨(zpc_s hr hc hr2 hc2).mpr (Or.inr ⟨e1, e2, e3⟩), ?_⟩
              rw [e1, e2, e3]
              exact hself
            rw [if_neg (fun y => e y.2)]
            exact k2 (fun w => z ⟨(zpc_s hr hc hr2 hc2).mpr (Or.inl w.1), w.2⟩)
          · rw [k3]
            constructor
            · rintro ⟨a, b⟩
              refine ⟨a, ?_⟩
              rcases b with b | b
              · exact Or.inl b
              · by_cases e : d2 = 0
                · exact Or.inl e
                · exact Or.inr ((pz (by omega) hr2 hc2).mpr (Or.inl b))
            · rintro ⟨a, b⟩
              refine ⟨a, ?_⟩
              rcases b with b | b
              · exact Or.inl b
              · by_cases e : d2 = 0
                · exact Or.inl e
                · rcases (pz (by omega) hr2 hc2).mp b with b | ⟨e1, e2, e3⟩
                  · exact Or.inr b
                  · exact absurd (par (by omega) a e1 e2 e3).2 hb
        · have eQ : zsE (zu P.1 (341 * m + zmn d r c) 1) q j = zsE S q j := by
            show zu P.1 (341 * m + zmn d r c) 1 (341 * q + 85 + j) = _
            rw [zu_n _ _ (by omega)]
            exact h1 _ (by omega)
          have eM : zsE (zu P.1 (341 * m + zmn d r c) 1) m j = zsE P.1 m j := zu_n _ _ (by omega)
          have eR : zsE (zaq (zu P.1 (341 * m + zmn d r c) 1) m q x (r * N) (c * N) N (N * N)) m j = @ite _ (zib j d r c) (Classical.propDecidable _) (zclp (zsE P.1 m j + x * zsE S q j)) (zsE P.1 m j) := by
            refine (g2 j j1 j2).trans ?_
            rw [eQ, eM]
            by_cases w : zib j d r c
            · have w2 := (hsq j).mp w
              have hlt : (j / 16 - r * N) * (N : Int) + (j % 16 - c * N) < ((N * N : Nat) : Int) := by
                have := zrq (r := j / 16 - r * N) (P := N) (a := j % 16 - c * N) (N := N) (by omega) (by omega)
                rw [Int.natCast_mul]
                omega
              rw [if_pos w, if_pos ⟨w2, hlt⟩]
            · rw [if_neg w, if_neg (fun z => w ((hsq j).mpr z.1))]
              exact eM
          dsimp only
          rw [eR]
          obtain ⟨k1, k2⟩ := h3 j j1 j2
          refine ⟨fun ⟨d2, r2, c2, hd2, hr2, hc2, z, w, u⟩ => ?_, fun z => ?_⟩
          · rcases (zpc_s hr hc hr2 hc2).mp z with z | ⟨e1, e2, e3⟩
            · have hnib : ¬ zib j d r c := fun y => by
                have a1 := zht_1 (j := j) hd hd2 ⟨j1, j2⟩ hb w.1 y u
                have a2 := zht_1 (j := j) hd2 hd ⟨j1, j2⟩ w.2.1 ho u y
                have e1 : d2 = d := by omega
                subst e1
                have e2 : r2 = r := u.1.symm.trans y.1
                have e3 : c2 = c := u.2.symm.trans y.2
                rw [e2, e3] at z
                exact zpc_self z
              rw [if_neg hnib]
              exact k1 ⟨d2, r2, c2, hd2, hr2, hc2, z, w, u⟩
            · rw [e1, e2, e3] at u
              rw [if_pos u, k2]
              rintro ⟨d3, r3, c3, hd3, hr3, hc3, z3, w3, u3⟩
              have a1 := zht_1 (j := j) hd hd3 ⟨j1, j2⟩ hb w3.1 u u3
              have a2 := zht_1 (j := j) hd3 hd ⟨j1, j2⟩ w3.2.1 ho u3 u
              have e1 : d3 = d := by omega
              subst e1
              have e2 : r3 = r := u3.1.symm.trans u.1
              have e3 : c3 = c := u3.2.symm.trans u.2
              rw [e2, e3] at z3
              exact zpc_self z3
          · have hnib : ¬ zib j d r c := fun y => z ⟨d, r, c, hd, hr, hc, (zpc_s hr hc hr hc).mpr (Or.inr ⟨rfl, rfl, rfl⟩), hself, y⟩
            rw [if_neg hnib]
            exact k2 (fun ⟨d2, r2, c2, hd2, hr2, hc2, v, w, u⟩ => z ⟨d2, r2, c2, hd2, hr2, hc2, (zpc_s hr hc hr2 hc2).mpr (Or.inl v), w, u⟩)
  · have hz : P.2 (zmn d r c) = 0 := by
      by_cases e : P.2 (zmn d r c) = 0
      · exact e
      · exact absurd (hO.mp e) ho
    rw [if_pos hz]
    exact same (fun z => ho z.1) (fun z => ho z.1)

theorem zJv.l {S : Int → Int} {m q x : Int} {P : (Int → Int) × (Int → Int)} (hm : 0 ≤ m ∧ m < 4) (hq : 0 ≤ q ∧ q < 4) (hne : m ≠ q) (hvl : zVl (zsT S m)) {d : Int} (hd : 0 ≤ d ∧ d ≤ 3) (h : zJv S m q x P d 0) : ∀ k : Nat, k ≤ (zp2 d * zp2 d).toNat → zJv S m q x (zadl m q x d (zp2 d) P k) d k
  | 0, _ => h
  | k + 1, hk => by
    have ih := h.l hm hq hne hvl hd k (by omega)
    obtain ⟨N, hN, hN2⟩ := zp2N hd
    have hk2 : k < N * N := by
      rw [hN, show ((N : Int) * N).toNat = N * N by rw [← Int.natCast_mul]; rfl] at hk
      omega
    have hq2 := zdm hk2
    have ek : (k : Int) = (k : Int) / zp2 d * zp2 d + (k : Int) % zp2 d := by
      have := Int.ediv_mul_add_emod (k : Int) (zp2 d)
      omega
    have := zJv.s hm hq hne hvl hd (r := (k : Int) / zp2 d) (c := (k : Int) % zp2 d) (by rw [hN]; exact hq2.1) (by rw [hN]; exact hq2.2) (P := zadl m q x d (zp2 d) P k) (x := x) (by rw [← ek]; exact ih)
    rw [← ek] at this
    exact this
theorem zJv.nx {S : Int → Int} {m q x : Int} {P : (Int → Int) × (Int → Int)} {d : Int} (hd : 0 ≤ d ∧ d ≤ 3) (h : zJv S m q x P d (zp2 d * zp2 d)) : zJv S m q x P (d + 1) 0 := by
  obtain ⟨h1, h2, h3⟩ := h
  refine ⟨h1, fun d2 r2 c2 hd2 hr2 hc2 => ?_, fun j j1 j2 => ?_⟩
  · have k := h2 d2 r2 c2 hd2 hr2 hc2
    rw [zpc_nx hr2 hc2] at k
    refine ⟨k.1, k.2.1, ?_⟩
    rw [k.2.2]
    by_cases e : d2 = 0
    · exact ⟨fun z => ⟨z.1, Or.inl e⟩, fun z => ⟨z.1, Or.inl e⟩⟩
    · rw [zpc_nx (zp2_h (d := d2 - 1) (by omega) (by rw [show d2 - 1 + 1 = d2 by omega]; exact hr2)) (zp2_h (d := d2 - 1) (by omega) (by rw [show d2 - 1 + 1 = d2 by omega]; exact hc2))]
  · obtain ⟨k1, k2⟩ := h3 j j1 j2
    exact ⟨fun ⟨d2, r2, c2, hd2, hr2, hc2, z, w, u⟩ => k1 ⟨d2, r2, c2, hd2, hr2, hc2, (zpc_nx hr2 hc2).mpr z, w, u⟩, fun z => k2 (fun ⟨d2, r2, c2, hd2, hr2, hc2, v, w, u⟩ => z ⟨d2, r2, c2, hd2, hr2, hc2, (zpc_nx hr2 hc2).mp v, w, u⟩)⟩
theorem zadf_s (m q x : Int) (P : (Int → Int) × (Int → Int)) (j : Nat) : zadf m q x P (j + 1) = zadl m q x j (zp2 j) (zadf m q x P j) (zp2 j * zp2 j).toNat := rfl
theorem zadf_e {S O : Int → Int} {m q x : Int} (hm : 0 ≤ m ∧ m < 4) (hq : 0 ≤ q ∧ q < 4) (hne : m ≠ q) (hvl : zVl (zsT S m)) : ∀ j : Nat, j ≤ 4 → zJv S m q x (zadf m q x (S, zop O 85) j) j 0
  | 0, _ => by
    have hno : ∀ d2 r2 c2 : Int, 0 ≤ d2 → 0 ≤ r2 → 0 ≤ c2 → ¬ zpc ((0 : Nat) : Int) 0 d2 r2 c2 := fun d2 r2 c2 h0 h1 h2 z => by
      unfold zpc at z
      rw [show zp2 ((0 : Nat) : Int) = 1 from rfl] at z
      omega
    refine ⟨fun _ _ => rfl, fun d2 r2 c2 hd2 hr2 hc2 => ⟨fun z => absurd z (hno _ _ _ hd2.1 hr2.1 hc2.1), fun _ => rfl, ?_⟩, fun j _ _ => ⟨fun ⟨d2, r2, c2, hd2, hr2, hc2, z, _⟩ => absurd z (hno _ _ _ hd2.1 hr2.1 hc2.1), fun _ => rfl⟩⟩
    have hz := zmn_in hd2 hr2 hc2
    show zop O 85 (zmn d2 r2 c2) ≠ 0 ↔ _
    unfold zop
    rw [if_pos hz]
    by_cases e : d2 = 0
    · subst e
      have e2 : zmn 0 r2 c2 = 0 := by
        rw [show zp2 0 = 1 from rfl] at hr2 hc2
        rw [show r2 = 0 by omega, show c2 = 0 by omega]
        rfl
      rw [if_pos e2]
      exact ⟨fun _ => ⟨rfl, Or.inl rfl⟩, fun _ => by decide⟩
    · rw [if_neg (fun z : zmn d2 r2 c2 = 0 => e (zmn_inj hd2 hr2 hc2 (d2 := 0) (r2 := 0) (c2 := 0) (by decide) (by decide) (by decide) z).1)]
      refine ⟨fun z => absurd rfl z, fun z => ?_⟩
      rcases z.2 with w | w
      · exact absurd w e
      · exact absurd w (hno _ _ _ (by omega) (by omega) (by omega))
  | j + 1, hj => by
    have ih := zadf_e (O := O) (x := x) hm hq hne hvl j (by omega)
    have h := zJv.l hm hq hne hvl (by omega) ih _ (Nat.le_refl _)
    have hn : 0 ≤ zp2 (j : Int) * zp2 (j : Int) := by
      have q4 := zp2_4 (j : Int)
      rcases q4 with e | e | e | e <;> rw [e] <;> decide
    rw [Int.toNat_of_nonneg hn] at h
    exact h.nx (by omega)
theorem zadf_J {S O : Int → Int} {m q x : Int} (hm : 0 ≤ m ∧ m < 4) (hq : 0 ≤ q ∧ q < 4) (hne : m ≠ q) (hS : isSo S) (hE : zEn S) (hv : zVl (zsT S q)) : ∀ j : Nat, j ≤ 4 → zaJ q (zsT S q) (zadf m q x (S, zop O 85) j)
  | 0, _ => zop_J hS hE (fun _ _ _ => rfl)
  | j + 1, hj => by
    have ih := zadf_J (O := O) (x := x) hm hq hne hS hE hv j (by omega)
    obtain ⟨N, hN, hN2⟩ := zp2N (d := j) (by omega)
    have key : ∀ k : Nat, k ≤ N * N → zaJ q (zsT S q) (zadl m q x j (zp2 j) (zadf m q x (S, zop O 85) j) k) := by
      intro k
      induction k with
      | zero => exact fun _ => ih
      | succ k ihk =>
        intro hk
        have hq2 := zdm (N := N) (k := k) (by omega)
        exact zads_J (ihk (by omega)) hm hq hne hv (by omega) (by rw [hN]; exact hq2.1) (by rw [hN]; exact hq2.2)
    rw [zadf_s]
    refine key _ (Nat.le_of_eq ?_)
    rw [hN, show ((N : Int) * N).toNat = N * N by rw [← Int.natCast_mul]; rfl]
/-- both make the same sum -/
theorem zad_mm {S O : Int → Int} {e t e2 t2 : Int → Int} {m q x : Int} (hm : 0 ≤ m ∧ m < 4) (hq : 0 ≤ q ∧ q < 4) (hne : m ≠ q) (h : zMm e t (zsE S m) (zsT S m)) (h2 : zMm e2 t2 (zsE S q) (zsT S q)) : zMm (zjn e2 t2 x 3 (e, t) 0 0).1 (zjn e2 t2 x 3 (e, t) 0 0).2 (zsE (zadf m q x (S, zop O 85) 4).1 m) (zsT (zadf m q x (S, zop O 85) 4).1 m) ∧ ∀ i, (i < 341 * m ∨ 341 * m + 341 ≤ i) → (zadf m q x (S, zop O 85) 4).1 i = S i := by
  obtain ⟨he, ht, hvl, hz⟩ := h
  obtain ⟨he2, ht2, hvl2, hz2⟩ := h2
  obtain ⟨m1, m2, m3⟩ := zadf_e (O := O) (x := x) hm hq hne hvl 4 (Nat.le_refl _)
  obtain ⟨c1, c2⟩ := zjn_e (e0 := e) (eq := e2) (t0 := t) (tq := t2) (x := x) 3 0 0 0 (e, t) (by decide) (by decide) (by decide) (by decide) (ht.symm.Vl hvl) rfl (fun _ _ _ _ _ _ _ => rfl) (fun _ _ _ _ => rfl)
  rw [show (0 : Int) * zsz 0 = 0 from rfl] at c1 c2
  generalize zjn e2 t2 x 3 (e, t) 0 0 = C at *
  generalize zadf m q x (S, zop O 85) 4 = M at *
  have pc : ∀ d r c, (0 ≤ d ∧ d ≤ 3) → zpc ((4 : Nat) : Int) 0 d r c := fun d r c hd => Or.inl (by omega)
  have an : ∀ {d r c : Int}, (0 ≤ d ∧ d ≤ 3) → (0 ≤ r ∧ r < zp2 d) → (0 ≤ c ∧ c < zp2 d) → zan 0 0 0 d r c := fun {d r c} hd hr hc => by
    have h3 : d = 0 ∨ d = 1 ∨ d = 2 ∨ d = 3 := by omega
    refine ⟨hd.1, ?_, ?_⟩ <;> rcases h3 with rfl | rfl | rfl | rfl <;> simp [zp2] at * <;> omega
  have on : ∀ {d r c : Int}, (0 ≤ d ∧ d ≤ 3) → (0 ≤ r ∧ r < zp2 d) → (0 ≤ c ∧ c < zp2 d) → zon t t2 d r c = zon (zsT S m) (zsT S q) d r c := fun {d r c} hd hr hc => by
    unfold zon
    rw [ht.vi hd hr hc, ht2.vi hd hr hc]
  have hit : ∀ {d r c : Int}, (0 ≤ d ∧ d ≤ 3) → (0 ≤ r ∧ r < zp2 d) → (0 ≤ c ∧ c < zp2 d) → (zht t t2 d r c ↔ zht (zsT S m) (zsT S q) d r c) := fun {d r c} hd hr hc => by
    unfold zht
    rw [on hd hr hc]
    constructor
    · rintro ⟨a, b⟩
      have v := a
      unfold zon at v
      rw [Bool.and_eq_true] at v
      rw [ht d r c hd hr hc v.1, ht2 d r c hd hr hc v.2] at b
      exact ⟨a, b⟩
    · rintro ⟨a, b⟩
      have v := a
      unfold zon at v
      rw [Bool.and_eq_true] at v
      rw [← ht d r c hd hr hc v.1, ← ht2 d r c hd hr hc v.2] at b
      exact ⟨a, b⟩
  have hT3 : ∀ d r c, (0 ≤ d ∧ d ≤ 3) → (0 ≤ r ∧ r < zp2 d) → (0 ≤ c ∧ c < zp2 d) → zsT M.1 m (zmn d r c) = 3 → zsT S m (zmn d r c) = 3 := fun d r c hd hr hc h => by
    obtain ⟨k1, k2, -⟩ := m2 d r c hd hr hc
    by_cases w : zht (zsT S m) (zsT S q) d r c
    · rw [k1 (pc _ _ _ hd) w] at h
      exact absurd h (by decide)
    · rw [← k2 (fun z => w z.2)]
      exact h
  have hvisN : ∀ (k : Nat) (r c : Int), k ≤ 3 → (0 ≤ r ∧ r < zp2 k) → (0 ≤ c ∧ c < zp2 k) → zvis (zsT M.1 m) k r c = true → zvis (zsT S m) k r c = true := by
    intro k
    induction k with
    | zero => intro _ _ _ _ _ _; rfl
    | succ k ih =>
      intro r c hk hr hc hv
      have hr2 := zp2_h (d := k) (by omega) hr
      have hc2 := zp2_h (d := k) (by omega) hc
      rw [Int.natCast_add, Int.natCast_one, zvis_d _ r c (by omega), Bool.and_eq_true, decide_eq_true_iff] at hv ⊢
      exact ⟨ih _ _ (by omega) hr2 hc2 hv.1, hT3 _ _ _ (by omega) hr2 hc2 hv.2⟩
  have hvis : ∀ {d r c : Int}, (0 ≤ d ∧ d ≤ 3) → (0 ≤ r ∧ r < zp2 d) → (0 ≤ c ∧ c < zp2 d) → zvis (zsT M.1 m) d r c = true → zvis (zsT S m) d r c = true := fun {d r c} hd hr hc hv => by
    have := hvisN d.toNat r c (by omega) (by rw [Int.toNat_of_nonneg hd.1]; exact hr) (by rw [Int.toNat_of_nonneg hd.1]; exact hc)
    rw [Int.toNat_of_nonneg hd.1] at this
    exact this hv
  refine ⟨⟨fun j j1 j2 => ?_, fun d r c hd hr hc hv => ?_, fun r c hr hc hv h3 => hvl r c hr hc (hvis (by decide) hr hc hv) (hT3 3 r c (by decide) hr hc h3), fun d r c hd hr hc hv h0 => ?_⟩, m1⟩
  · obtain ⟨a1, a2⟩ := c2 j j1 j2
    obtain ⟨b1, b2⟩ := m3 j j1 j2
    by_cases w : zhi t t2 0 0 0 j
    · rw [a1 w, b1, he j j1 j2, he2 j j1 j2, Int.mul_comm]
      obtain ⟨d, r, c, hd, hr, hc, _, z, u⟩ := w
      exact ⟨d, r, c, hd, hr, hc, pc _ _ _ hd, (hit hd hr hc).mp z, u⟩
    · rw [a2 w, b2]
      · exact he j j1 j2
      · rintro ⟨d, r, c, hd, hr, hc, _, z, u⟩
        exact w ⟨d, r, c, hd, hr, hc, an hd hr hc, (hit hd hr hc).mpr z, u⟩
  · have v := hvis hd hr hc hv
    obtain ⟨a1, a2⟩ := c1 d r c hd hr hc
    obtain ⟨b1, b2, -⟩ := m2 d r c hd hr hc
    by_cases w : zht (zsT S m) (zsT S q) d r c
    · rw [a1 (an hd hr hc) ((hit hd hr hc).mpr w), b1 (pc _ _ _ hd) w]
    · rw [a2 (fun z => w ((hit hd hr hc).mp z.2)), b2 (fun z => w z.2)]
      exact ht d r c hd hr hc v
  · have v := hvis hd hr hc hv
    obtain ⟨b1, b2, -⟩ := m2 d r c hd hr hc
    have w : ¬ zht (zsT S m) (zsT S q) d r c := fun w => by
      rw [b1 (pc _ _ _ hd) w] at h0
      exact absurd h0 (by decide)
    rw [b2 (fun z => w z.2)] at h0
    have hza := hz d r c hd hr hc v h0
    intro i j i1 i2 j1 j2
    have bb1 := zbl hd hr
    have bb2 := zbl hd hc
    have hj : 0 ≤ i * 16 + j ∧ i * 16 + j < 256 := by omega
    have hin : zib (i * 16 + j) d r c := (zib_sq hd).mpr (by omega)
    rw [(m3 _ hj.1 hj.2).2]
    · exact hza i j i1 i2 j1 j2
    · rintro ⟨d2, r2, c2, hd2, hr2, hc2, _, z, u⟩
      -- the hit is this block, above it, or below it
      have a1 := zht_1 (t := zsT S m) (tq := zsT S q) hd hd2 hj (fun y => by rw [h0] at y; exact absurd y.2 (by decide)) z.1 hin u
      by_cases e : d2 = d
      · subst e
        have e2 : r2 = r := u.1.symm.trans hin.1
        have e3 : c2 = c := u.2.symm.trans hin.2
        rw [e2, e3] at z
        exact w z
      · -- above: the sum has made it full
        have hk := (zvk_iff (zsT M.1 m) d r c d.toNat).mp hv d2.toNat (by omega)
        rw [Int.toNat_of_nonneg hd2.1] at hk
        have e2 : r / zp2 (d - d2) = r2 ∧ c / zp2 (d - d2) = c2 := (zib_z hj hd2.1 a1 hd.2 u hin).2
        rw [e2.1, e2.2, (m2 d2 r2 c2 hd2 hr2 hc2).1 (pc _ _ _ hd2) z] at hk
        exact absurd hk (by decide)

theorem zad_rl {X : zSV} {S O : Int → Int} (h : zRl X S) {m q x : Int} (hm : 0 ≤ m ∧ m < 4) (hq : 0 ≤ q ∧ q < 4) (hne : m ≠ q) : zRl (zsm1 (zch X (X.2.2 + 1)) m (zjn (X.1 q) (X.2.1 q) x 3 (X.1 m, X.2.1 m) 0 0).1 (zjn (X.1 q) (X.2.1 q) x 3 (X.1 m, X.2.1 m) 0 0).2) (zadf m q x (zcn S, zop O 85) 4).1 ∧ zroom (zjn (X.1 q) (X.2.1 q) x 3 (X.1 m, X.2.1 m) 0 0).2 3 0 0 = zrmF (zsT (zadf m q x (zcn S, zop O 85) 4).1 m) 0 0 0 := by
  have hcn : ∀ i, 0 ≤ i → i < 1364 → zcn S i = S i := fun i h0 h1 => zu_n _ _ (by omega)
  have hmm : ∀ m2, (0 ≤ m2 ∧ m2 < 4) → zMm (X.1 m2) (X.2.1 m2) (zsE (zcn S) m2) (zsT (zcn S) m2) := fun m2 hm2 => (h.1 m2 hm2).cg (fun j j1 j2 => (hcn _ (by omega) (by omega)).symm) (zSim.of (fun k k1 k2 => (hcn _ (by omega) (by omega)).symm))
  have hSo : isSo (zcn S) := fun m2 k h1 h2 h3 h4 => by
    unfold zsT
    rw [hcn _ (by omega) (by omega)]
    exact h.2.2.1 m2 k h1 h2 h3 h4
  have hEn : zEn (zcn S) := fun m2 hm2 j j1 j2 => by
    unfold zsE
    rw [hcn _ (by omega) (by omega)]
    exact h.2.2.2 m2 hm2 j j1 j2
  obtain ⟨k1, k3⟩ := zad_mm (O := O) (x := x) hm hq hne (hmm m hm) (hmm q hq)
  have hfin := zadf_J (O := O) (x := x) hm hq hne hSo hEn (hmm q hq).2.2.1 4 (Nat.le_refl _)
  generalize zjn (X.1 q) (X.2.1 q) x 3 (X.1 m, X.2.1 m) 0 0 = C at *
  generalize zadf m q x (zcn S, zop O 85) 4 = M at *
  refine ⟨h.ch hm (fun m2 hm2 hne2 => ⟨fun j j1 j2 => ?_, fun k q1 q2 => ?_⟩) ?_ k1 (fun k q1 q2 => hfin.1.1 m k hm.1 hm.2 q1 q2) (hfin.1.2 m hm), ?_⟩
  · show M.1 (341 * m2 + 85 + j) = S (341 * m2 + 85 + j)
    rw [k3 _ (by omega), hcn _ (by omega) (by omega)]
  · show M.1 (341 * m2 + k) = S (341 * m2 + k)
    rw [k3 _ (by omega), hcn _ (by omega) (by omega)]
  · rw [k3 _ (by omega)]
    exact zu_s _ _ _
  · rw [zroom_F (k1.2.1.symm.Vl k1.2.2.1), k1.2.1.room]
