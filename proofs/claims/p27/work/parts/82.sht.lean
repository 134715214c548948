/-- what stands after the blocks (d, k'), k' < k, and all deeper ones are made smaller -/
def zIv (m : Int) (S T : Int → Int) (d k : Int) : Prop := (∀ i, (i < 341 * m ∨ 341 * m + 85 ≤ i) → T i = S i) ∧ ∀ d2 r2 c2, (0 ≤ d2 ∧ d2 ≤ 3) → (0 ≤ r2 ∧ r2 < zp2 d2) → (0 ≤ c2 ∧ c2 < zp2 d2) → ((d < d2 ∨ (d2 = d ∧ r2 * zp2 d + c2 < k)) → zvis (zsT S m) d2 r2 c2 = true → zsT T m (zmn d2 r2 c2) = zw8 (zsE S m) (zsT S m) d2 r2 c2) ∧ (¬ ((d < d2 ∨ (d2 = d ∧ r2 * zp2 d + c2 < k)) ∧ zvis (zsT S m) d2 r2 c2 = true) → zsT T m (zmn d2 r2 c2) = zsT S m (zmn d2 r2 c2))
/-- one block -/
theorem zmb_e {m : Int} {S T : Int → Int} (hm : 0 ≤ m ∧ m < 4) (hS : okM m S) (hz : zEz (zsE S m) (zsT S m)) {d r c : Int} (hd : 0 ≤ d ∧ d ≤ 3) (hr : 0 ≤ r ∧ r < zp2 d) (hc : 0 ≤ c ∧ c < zp2 d) (h : zIv m S T d (r * zp2 d + c)) (hv : zvis (zsT S m) d r c = true) (hvT : zvis (zsT T m) d r c = true) : zmb T m d r c = zu T (341 * m + zmn d r c) (zw8 (zsE S m) (zsT S m) d r c) := by
  obtain ⟨h1, h2⟩ := h
  have b1 := zbl hd hr
  have b2 := zbl hd hc
  have hE : zEe (zsE T m) (zsE S m) := fun j j1 j2 => h1 _ (by omega)
  have hone := hE.one b1 b2
  have ht : zsT T m (zmn d r c) = zsT S m (zmn d r c) := (h2 d r c hd hr hc).2 (fun z => by omega)
  have hs := hS.1.m hm hd hr hc
  have h0 := zw8_0 hz hd hr hc hv
  have hself : ∀ v, zsT T m (zmn d r c) = v → T = zu T (341 * m + zmn d r c) v := fun v hv => by
    funext i
    unfold zu
    split
    · rename_i q
      rw [q, ← hv]
      rfl
    · rfl
  have hall : ∀ {one : Int}, zone (zsE S m) (r * zsz d) (c * zsz d) (zsz d) = one → (one = 2 ↔ zallz (zsE S m) (r * zsz d) (c * zsz d) (zsz d)) := by
    intro one e
    constructor
    · intro e2
      by_cases a : zallz (zsE S m) (r * zsz d) (c * zsz d) (zsz d)
      · exact a
      · exfalso
        by_cases b : zoneP (zsE S m) (r * zsz d) (c * zsz d) (zsz d)
        · rw [zone_1 a b] at e; omega
        · rw [zone_0 a b] at e; omega
    · intro a
      rw [zone_2 a] at e
      exact e.symm
  unfold zmb
  rw [ht]
  by_cases h3 : zsT S m (zmn d r c) = 3
  · rw [if_pos h3]
    congr 1
    have hd2 : d ≤ 2 := by
      by_cases q : d = 3
      · subst q
        exact absurd h3 (hS.2.2 r c hr hc hv)
      · omega
    have hch : ∀ k : Nat, k < 4 → (0 ≤ 2 * r + (k : Int) / 2 ∧ 2 * r + (k : Int) / 2 < zp2 (d + 1)) ∧ (0 ≤ 2 * c + (k : Int) % 2 ∧ 2 * c + (k : Int) % 2 < zp2 (d + 1)) ∧ zvis (zsT S m) (d + 1) (2 * r + (k : Int) / 2) (2 * c + (k : Int) % 2) = true := fun k hk => by
      have q1 := zpq (k := k) (d := d) (by omega) hr (by omega)
      have q2 := zpq (k := k) (d := d) (by omega) hc (by omega)
      exact ⟨q1.1, q2.2, by rw [zvis_s _ (by omega) (by omega), hv, h3]; rfl⟩
    have hchT : ∀ k : Nat, k < 4 → zsT T m (zmn (d + 1) (2 * r + (k : Int) / 2) (2 * c + (k : Int) % 2)) = zw8 (zsE S m) (zsT S m) (d + 1) (2 * r + (k : Int) / 2) (2 * c + (k : Int) % 2) := fun k hk => by
      obtain ⟨a, b, v⟩ := hch k hk
      exact (h2 _ _ _ (by omega) a b).1 (Or.inl (by omega)) v
    have hA : (∀ k : Nat, k < 4 → zsT T m (zmn (d + 1) (2 * r + (k : Int) / 2) (2 * c + (k : Int) % 2)) = 0) ↔ zallz (zsE S m) (r * zsz d) (c * zsz d) (zsz d) := by
      rw [zallz_4 (by omega)]
      constructor
      · intro z k hk
        obtain ⟨a, b, v⟩ := hch k hk
        exact (zw8_0 hz (by omega) a b v).mp ((hchT k hk).symm.trans (z k hk))
      · intro z k hk
        obtain ⟨a, b, v⟩ := hch k hk
        exact (hchT k hk).trans ((zw8_0 hz (by omega) a b v).mpr (z k hk))
    have hR : zrmF (zsT T m) d r c = 1 + zsm (fun q => (znw (zsE S m) (zsT S m) (3 - (d + 1)).toNat (d + 1) (2 * r + q / 2) (2 * c + q % 2)).2) 4 := by
      rw [zrmF_VS, zVS_s _ r c (by omega)]
      have hF : zFr (zsT T m) d r c = zrk (zsT T m (zmn d r c)) (zsz d) := if_pos hvT
      rw [hF, ht, h3]
      show 1 + _ = 1 + _
      congr 1
      refine zsm_cg 4 (fun q hq => ?_)
      obtain ⟨a, b, v⟩ := hch q hq
      have := znw_rm (e := zsE S m) (T := zsT T m) hS.2.2 (fun d r c hd hr hc => hS.1.m hm hd hr hc) (d0 := d + 1) (fun d2 r2 c2 hd2 hr2 hc2 v2 => (h2 d2 r2 c2 ⟨hd2.2.1, hd2.2.2⟩ hr2 hc2).1 (Or.inl (by omega)) v2) (3 - (d + 1)).toNat (d + 1) _ _ (by omega) (Int.le_refl _) (by omega) a b v (by rw [zvis_s _ (by omega) (by omega), hvT, ht, h3]; rfl)
      rw [zrmF_VS] at this
      exact this
    have hw : zw8 (zsE S m) (zsT S m) d r c = (zsn (zone (zsE S m) (r * zsz d) (c * zsz d) (zsz d)) (zsz d) 3 (zrmF (zsT T m) d r c)).1 := by
      unfold zw8
      rw [show (3 - d).toNat = (3 - (d + 1)).toNat + 1 by omega, znw_s, h3, if_pos rfl, hR]
    rw [hw, hone]
    unfold zsn
    by_cases a : zallz (zsE S m) (r * zsz d) (c * zsz d) (zsz d)
    · rw [if_pos (hA.mpr a), if_pos ((hall rfl).mpr a)]
    · rw [if_neg (fun z => a (hA.mp z)), if_neg (fun z => a ((hall rfl).mp z))]
      split <;> rfl
  · rw [if_neg h3]
    have hw : zw8 (zsE S m) (zsT S m) d r c = (zsn (zone (zsE S m) (r * zsz d) (c * zsz d) (zsz d)) (zsz d) (zsT S m (zmn d r c)) (zrm (zsT S m (zmn d r c)) (zsz d))).1 := by
      unfold zw8
      cases hg : (3 - d).toNat with
      | zero => rfl
      | succ g => rw [znw_s, if_neg h3]
    by_cases hs0 : zsT S m (zmn d r c) = 0
    · rw [if_neg (by omega)]
      exact hself _ (by rw [ht, hs0]; exact (h0.mpr (hz d r c hd hr hc hv hs0)).symm)
    · rw [if_pos hs0, hw, hone]
      congr 1
      unfold zsn
      by_cases a : zone (zsE S m) (r * zsz d) (c * zsz d) (zsz d) = 2
      · rw [if_pos a, if_pos a]
      · rw [if_neg a, if_neg a]
        by_cases b : zone (zsE S m) (r * zsz d) (c * zsz d) (zsz d) = 1
        · rw [if_pos b, if_pos]
          refine ⟨b, ?_⟩
          have q := zsz_4 d
          have hs12 : zsT S m (zmn d r c) = 1 ∨ zsT S m (zmn d r c) = 2 := by omega
          rcases hs12 with e | e <;> rw [e] <;> rcases q with e2 | e2 | e2 | e2 <;> rw [e2] <;> decide
        · rw [if_neg b, if_neg (fun z => b z.1)]
/-- one block of the walk -/
theorem zlvs_e {m : Int} {S T : Int → Int} (hm : 0 ≤ m ∧ m < 4) (hS : okM m S) (hz : zEz (zsE S m) (zsT S m)) {d r c : Int} (hd : 0 ≤ d ∧ d ≤ 3) (hr : 0 ≤ r ∧ r < zp2 d) (hc : 0 ≤ c ∧ c < zp2 d) (h : zIv m S T d (r * zp2 d + c)) : zIv m S (if zvis (zsT T m) d r c = true then zmb T m d r c else T) d (r * zp2 d + c + 1) := by
  have hvv : zvis (zsT T m) d r c = zvis (zsT S m) d r c := zvis_lt hd (fun a r2 c2 a1 a2 hr2 hc2 => (h.2 a r2 c2 (by omega) hr2 hc2).2 (fun z => by omega)) hr hc
  have pos : ∀ {d2 r2 c2 : Int}, (0 ≤ r2 ∧ r2 < zp2 d2) → (0 ≤ c2 ∧ c2 < zp2 d2) → d2 = d → (r2 * zp2 d + c2 < r * zp2 d + c + 1 ↔ (r2 * zp2 d + c2 < r * zp2 d + c ∨ (r2 = r ∧ c2 = c))) := by
    intro d2 r2 c2 hr2 hc2 e
    rw [e] at hr2 hc2
    have q4 := zp2_4 d
    revert hr2 hc2 hr hc
    generalize zp2 d = N at q4 ⊢
    intro hr hc hr2 hc2
    rcases q4 with rfl | rfl | rfl | rfl <;> omega
  by_cases hv : zvis (zsT S m) d r c = true
  · rw [if_pos (hvv.trans hv), zmb_e hm hS hz hd hr hc h hv (hvv.trans hv)]
    have hb := zmn_in hd hr hc
    refine ⟨fun i hi => ?_, fun d2 r2 c2 hd2 hr2 hc2 => ?_⟩
    · rw [zu_n _ _ (by omega)]
      exact h.1 i hi
    · have hb2 := zmn_in hd2 hr2 hc2
      rw [zsT_t T _ hm hb hm hb2]
      obtain ⟨k1, k2⟩ := h.2 d2 r2 c2 hd2 hr2 hc2
      by_cases same : zmn d2 r2 c2 = zmn d r c
      · obtain ⟨rfl, rfl, rfl⟩ := zmn_inj hd2 hr2 hc2 hd hr hc same
        rw [if_pos ⟨rfl, rfl⟩]
        exact ⟨fun _ _ => rfl, fun z => absurd ⟨Or.inr ⟨rfl, by omega⟩, hv⟩ z⟩
      · rw [if_neg (fun z => same z.2)]
        have hns : ¬ (d2 = d ∧ r2 = r ∧ c2 = c) := fun ⟨a, b, e⟩ => same (by rw [a, b, e])
        refine ⟨fun z v => k1 ?_ v, fun z => k2 (fun ⟨z2, v⟩ => z ⟨?_, v⟩)⟩
        · rcases z with z | ⟨z, z2⟩
          · exact Or.inl z
          · rcases (pos hr2 hc2 z).mp z2 with q | q
            · exact Or.inr ⟨z, q⟩
            · exact absurd ⟨z, q.1, q.2⟩ hns
        · rcases z2 with z2 | ⟨z2, z3⟩
          · exact Or.inl z2
          · exact Or.inr ⟨z2, by omega⟩
  · rw [if_neg (by rw [hvv]; exact hv)]
    refine ⟨h.1, fun d2 r2 c2 hd2 hr2 hc2 => ?_⟩
    obtain ⟨k1, k2⟩ := h.2 d2 r2 c2 hd2 hr2 hc2
    refine ⟨fun z v => k1 ?_ v, fun z => k2 (fun ⟨z2, v⟩ => z ⟨?_, v⟩)⟩
    · rcases z with z | ⟨z, z2⟩
      · exact Or.inl z
      · rcases (pos hr2 hc2 z).mp z2 with q | q
        · exact Or.inr ⟨z, q⟩
        · exfalso
          rw [z, q.1, q.2] at v
          exact hv v
    · rcases z2 with z2 | ⟨z2, z3⟩
      · exact Or.inl z2
      · exact Or.inr ⟨z2, by omega⟩
theorem zlv_e {m : Int} {S T : Int → Int} (hm : 0 ≤ m ∧ m < 4) (hS : okM m S) (hz : zEz (zsE S m) (zsT S m)) {d : Int} (hd : 0 ≤ d ∧ d ≤ 3) (h : zIv m S T d 0) : ∀ k : Nat, k ≤ (zp2 d * zp2 d).toNat → zIv m S (zlv m d (zp2 d) T k) d k
  | 0, _ => h
  | k + 1, hk => by
    have ih := zlv_e hm hS hz hd h k (by omega)
    obtain ⟨N, hN, hN2⟩ := zp2N hd
    have hk2 : k < N * N := by
      rw [hN, show ((N : Int) * N).toNat = N * N by rw [← Int.natCast_mul]; rfl] at hk
      omega
    have hq := zdm hk2
    have ek : (k : Int) = (k : Int) / zp2 d * zp2 d + (k : Int) % zp2 d := by
      have := Int.ediv_mul_add_emod (k : Int) (zp2 d)
      omega
    have := zlvs_e hm hS hz hd (r := (k : Int) / zp2 d) (c := (k : Int) % zp2 d) (by rw [hN]; exact hq.1) (by rw [hN]; exact hq.2) (by rw [← ek]; exact ih)
    rw [← ek] at this
    exact this
theorem zIv.nx {m : Int} {S T : Int → Int} {d : Int} (hd : 1 ≤ d ∧ d ≤ 3) (h : zIv m S T d (zp2 d * zp2 d)) : zIv m S T (d - 1) 0 := by
  have key : ∀ {d2 r2 c2 : Int}, (0 ≤ d2 ∧ d2 ≤ 3) → (0 ≤ r2 ∧ r2 < zp2 d2) → (0 ≤ c2 ∧ c2 < zp2 d2) → ((d < d2 ∨ (d2 = d ∧ r2 * zp2 d + c2 < zp2 d * zp2 d)) ↔ (d - 1 < d2 ∨ (d2 = d - 1 ∧ r2 * zp2 (d - 1) + c2 < 0))) := by
    intro d2 r2 c2 hd2 hr2 hc2
    have q4 := zp2_4 d
    have q5 := zp2_4 (d - 1)
    have hrc : d2 = d → r2 * zp2 d + c2 < zp2 d * zp2 d := fun e => by
      rw [e] at hr2 hc2
      revert hr2 hc2
      generalize zp2 d = N at q4 ⊢
      intro hr2 hc2
      rcases q4 with rfl | rfl | rfl | rfl <;> omega
    have hnn : ¬ (r2 * zp2 (d - 1) + c2 < 0) := by
      revert q5
      generalize zp2 (d - 1) = N
      intro q5
      rcases q5 with rfl | rfl | rfl | rfl <;> omega
    constructor
    · rintro (z | ⟨z, _⟩)
      · exact Or.inl (by omega)
      · exact Or.inl (by omega)
    · rintro (z | ⟨z, z2⟩)
      · by_cases q : d2 = d
        · exact Or.inr ⟨q, hrc q⟩
        · exact Or.inl (by omega)
      · exact absurd z2 hnn
  refine ⟨h.1, fun d2 r2 c2 hd2 hr2 hc2 => ?_⟩
  have k := h.2 d2 r2 c2 hd2 hr2 hc2
  rw [key hd2 hr2 hc2] at k
  exact k
theorem zsh_e {m : Int} {S : Int → Int} (hm : 0 ≤ m ∧ m < 4) (hS : okM m S) (hz : zEz (zsE S m) (zsT S m)) : ∀ j : Nat, j ≤ 3 → zIv m S (zsh m S j) (3 - j) 0
  | 0, _ => by
    refine ⟨fun _ _ => rfl, fun d2 r2 c2 hd2 hr2 hc2 => ⟨fun z _ => ?_, fun _ => rfl⟩⟩
    exfalso
    rcases z with z | ⟨z, z2⟩
    · omega
    · have e : zp2 (3 - ((0 : Nat) : Int)) = 8 := rfl
      rw [e] at z2
      omega
  | j + 1, hj => by
    have ih := zsh_e hm hS hz j (by omega)
    have h := zlv_e hm hS hz (by omega) ih _ (Nat.le_refl _)
    have hn : 0 ≤ zp2 (3 - j) * zp2 (3 - j) := by
      have q4 := zp2_4 (3 - j)
      rcases q4 with e | e | e | e <;> rw [e] <;> decide
    rw [Int.toNat_of_nonneg hn] at h
    have := h.nx (by omega)
    rw [show (3 : Int) - j - 1 = 3 - ((j + 1 : Nat) : Int) by omega] at this
    exact this
theorem zsh_s (m : Int) (S : Int → Int) (j : Nat) : zsh m S (j + 1) = zlv m (3 - (j : Int)) (zp2 (3 - (j : Int))) (zsh m S j) (zp2 (3 - (j : Int)) * zp2 (3 - (j : Int))).toNat := rfl
theorem zsh_E {m : Int} {S : Int → Int} (hm : 0 ≤ m ∧ m < 4) (hS : okM m S) (hz : zEz (zsE S m) (zsT S m)) : (∀ i, (i < 341 * m ∨ 341 * m + 85 ≤ i) → zsh m S 4 i = S i) ∧ ∀ d r c, (0 ≤ d ∧ d ≤ 3) → (0 ≤ r ∧ r < zp2 d) → (0 ≤ c ∧ c < zp2 d) → zvis (zsT S m) d r c = true → zsT (zsh m S 4) m (zmn d r c) = zw8 (zsE S m) (zsT S m) d r c := by
  have ih := zsh_e hm hS hz 3 (Nat.le_refl _)
  have h := zlv_e hm hS hz (d := 0) (by decide) ih 1 (by decide)
  have e4 : zsh m S 4 = zlv m 0 (zp2 0) (zsh m S 3) 1 := by
    have : zsh m S (3 + 1) = zlv m (3 - ((3 : Nat) : Int)) (zp2 (3 - ((3 : Nat) : Int))) (zsh m S 3) (zp2 (3 - ((3 : Nat) : Int)) * zp2 (3 - ((3 : Nat) : Int))).toNat := zsh_s m S 3
    rw [show (3 : Int) - ((3 : Nat) : Int) = 0 by decide, show (zp2 0 * zp2 0).toNat = 1 by decide] at this
    exact this
  rw [e4]
  refine ⟨h.1, fun d r c hd hr hc hv => (h.2 d r c hd hr hc).1 ?_ hv⟩
  by_cases q : d = 0
  · subst q
    rw [show zp2 0 = 1 from rfl] at *
    exact Or.inr ⟨rfl, by omega⟩
  · exact Or.inl (by omega)
/-- both make a matrix smaller to the same -/
theorem zsh_mm {S : Int → Int} {e t : Int → Int} {m : Int} (hm : 0 ≤ m ∧ m < 4) (hS : okM m S) (h : zMm e t (zsE S m) (zsT S m)) : zMm e (zshr e 3 t 0 0).1 (zsE (zsh m S 4) m) (zsT (zsh m S 4) m) ∧ (zshr e 3 t 0 0).2 = zrmF (zsT (zsh m S 4) m) 0 0 0 ∧ ∀ i, (i < 341 * m ∨ 341 * m + 85 ≤ i) → zsh m S 4 i = S i := by
  obtain ⟨he, ht, hvl, hz⟩ := h
  obtain ⟨o1, o2⟩ := zsh_E hm hS hz
  have hok := zsh_ok hm hS 4 (Nat.le_refl _)
  obtain ⟨c1, c2⟩ := zshr_e (e := e) (t0 := t) 3 0 0 0 t (by decide) (by decide) (by decide) (by decide) rfl (fun _ _ _ _ _ _ _ => rfl)
  have hE : zEe e (zsE (zsh m S 4) m) := fun j j1 j2 => (he j j1 j2).trans (o1 _ (by omega)).symm
  have an : ∀ {d r c : Int}, (0 ≤ d ∧ d ≤ 3) → (0 ≤ r ∧ r < zp2 d) → (0 ≤ c ∧ c < zp2 d) → zan 0 0 0 d r c := fun {d r c} hd hr hc => by
    have h3 : d = 0 ∨ d = 1 ∨ d = 2 ∨ d = 3 := by omega
    refine ⟨hd.1, ?_, ?_⟩ <;> rcases h3 with rfl | rfl | rfl | rfl <;> simp [zp2] at * <;> omega
  have w3 : ∀ d r c, (0 ≤ d ∧ d ≤ 3) → (0 ≤ r ∧ r < zp2 d) → (0 ≤ c ∧ c < zp2 d) → zvis (zsT S m) d r c = true → zw8 (zsE S m) (zsT S m) d r c = 3 → zsT S m (zmn d r c) = 3 := by
    intro d r c hd hr hc hv hw
    unfold zw8 at hw
    cases hg : (3 - d).toNat with
    | zero => rw [hg] at hw; exact (zsn_3 hw).1
    | succ g => rw [hg, znw_s] at hw; exact (zsn_3 hw).1
  -- what is there after is there before
  have hvis : ∀ (k : Nat) (r c : Int), k ≤ 3 → (0 ≤ r ∧ r < zp2 k) → (0 ≤ c ∧ c < zp2 k) → zvis (zsT (zsh m S 4) m) k r c = true → zvis (zsT S m) k r c = true := by
    intro k
    induction k with
    | zero => intro _ _ _ _ _ _; rfl
    | succ k ih =>
      intro r c hk hr hc hv
      have hr2 := zp2_h (d := k) (by omega) hr
      have hc2 := zp2_h (d := k) (by omega) hc
      rw [Int.natCast_add, Int.natCast_one, zvis_d _ r c (by omega), Bool.and_eq_true, decide_eq_true_iff] at hv ⊢
      have v := ih _ _ (by omega) hr2 hc2 hv.1
      refine ⟨v, w3 _ _ _ (by omega) hr2 hc2 v ?_⟩
      rw [← o2 _ _ _ (by omega) hr2 hc2 v]
      exact hv.2
  have hvis2 : ∀ {d r c : Int}, (0 ≤ d ∧ d ≤ 3) → (0 ≤ r ∧ r < zp2 d) → (0 ≤ c ∧ c < zp2 d) → zvis (zsT (zsh m S 4) m) d r c = true → zvis (zsT S m) d r c = true := fun {d r c} hd hr hc hv => by
    have := hvis d.toNat r c (by omega) (by rw [Int.toNat_of_nonneg hd.1]; exact hr) (by rw [Int.toNat_of_nonneg hd.1]; exact hc)
    rw [Int.toNat_of_nonneg hd.1] at this
    exact this hv
  have hcg : ∀ d r c, (0 ≤ d ∧ d ≤ 3) → (0 ≤ r ∧ r < zp2 d) → (0 ≤ c ∧ c < zp2 d) → zvis (zsT S m) d r c = true → znw e t (3 - d).toNat d r c = znw (zsE S m) (zsT S m) (3 - d).toNat d r c := fun d r c hd hr hc hv => znw_cg he ht _ d r c (by omega) hd.1 hr hc hv
  refine ⟨⟨hE, fun d r c hd hr hc hv => ?_, hok.2.2, fun d r c hd hr hc hv h0 => ?_⟩, ?_, o1⟩
  · have v := hvis2 hd hr hc hv
    rw [o2 d r c hd hr hc v]
    unfold zw8
    rw [← hcg d r c hd hr hc v]
    exact (c2 d r c hd hr hc).1 (an hd hr hc) (by rw [ht.vi hd hr hc]; exact v)
  · have v := hvis2 hd hr hc hv
    rw [o2 d r c hd hr hc v] at h0
    have b1 := zbl hd hr
    have b2 := zbl hd hc
    exact (zEe.az (fun j j1 j2 => (o1 _ (by omega)).symm) b1 b2 ((zw8_0 hz hd hr hc v).mp h0))
  · have h1 := znw_rm (e := zsE S m) (T := zsT (zsh m S 4) m) hS.2.2 (fun d r c hd hr hc => hS.1.m hm hd hr hc) (d0 := 0) (fun d2 r2 c2 hd2 hr2 hc2 v2 => o2 d2 r2 c2 hd2.2 hr2 hc2 v2) 3 0 0 0 (by decide) (by decide) (by decide) (by decide) (by decide) rfl rfl
    rw [h1]
    have h2 := hcg 0 0 0 (by decide) (by decide) (by decide) rfl
    rw [show (3 - (0 : Int)).toNat = 3 from rfl] at h2
    rw [← h2]
    exact c1
theorem zsh_rl {X : zSV} {S : Int → Int} (h : zRl X S) {m : Int} (hm : 0 ≤ m ∧ m < 4) : zRl (zsm1 (zch X (X.2.2 + 1)) m (X.1 m) (zshr (X.1 m) 3 (X.2.1 m) 0 0).1) (zsh m (zcn S) 4) ∧ zroom (X.2.1 m) 3 0 0 - (zshr (X.1 m) 3 (X.2.1 m) 0 0).2 = zrmF (zsT (zcn S) m) 0 0 0 - zrmF (zsT (zsh m (zcn S) 4) m) 0 0 0 := by
  have hcn : ∀ i, 0 ≤ i → i < 1364 → zcn S i = S i := fun i h0 h1 => zu_n _ _ (by omega)
  obtain ⟨he, ht, hvl, hz⟩ := h.1 m hm
  have hs : ∀ k, 0 ≤ k → k < 85 → zsT S m k = zsT (zcn S) m k := fun k k1 k2 => (hcn _ (by omega) (by omega)).symm
  have hse : zEe (zsE S m) (zsE (zcn S) m) := fun j j1 j2 => (hcn _ (by omega) (by omega)).symm
  have hmm : zMm (X.1 m) (X.2.1 m) (zsE (zcn S) m) (zsT (zcn S) m) := (h.1 m hm).cg hse (zSim.of hs)
  have hok : okM m (zcn S) := ⟨fun m2 k h1 h2 h3 h4 => by
      show 0 ≤ zcn S (341 * m2 + k) ∧ _
      unfold zsT
      rw [hcn _ (by omega) (by omega)]
      exact h.2.2.1 m2 k h1 h2 h3 h4, fun m2 hm2 j j1 j2 => by
      show -1000000 ≤ zcn S (341 * m2 + 85 + j) ∧ _
      unfold zsE
      rw [hcn _ (by omega) (by omega)]
      exact h.2.2.2 m2 hm2 j j1 j2, hmm.2.2.1⟩
  obtain ⟨k1, k2, k3⟩ := zsh_mm hm hok hmm
  have hfin := zsh_ok hm hok 4 (Nat.le_refl _)
  refine ⟨h.ch hm (fun m2 hm2 hne => ⟨fun j j1 j2 => ?_, fun k q1 q2 => ?_⟩) ?_ k1 (fun k q1 q2 => hfin.1 m k hm.1 hm.2 q1 q2) (hfin.2.1 m hm), ?_⟩
  · show zsh m (zcn S) 4 (341 * m2 + 85 + j) = S (341 * m2 + 85 + j)
    rw [k3 _ (by omega), hcn _ (by omega) (by omega)]
  · show zsh m (zcn S) 4 (341 * m2 + k) = S (341 * m2 + k)
    rw [k3 _ (by omega), hcn _ (by omega) (by omega)]
  · rw [k3 _ (by omega)]
    exact zu_s _ _ _
  · rw [k2, zroom_F (hmm.2.1.symm.Vl hmm.2.2.1), hmm.2.1.room]
/-- what a matrix would take -/
theorem zwt_rl {X : zSV} {S : Int → Int} (h : zRl X S) {m : Int} (hm : 0 ≤ m ∧ m < 4) : (zshr (X.1 m) 3 (X.2.1 m) 0 0).2 = zrmF (zsT (zsh m S 4) m) 0 0 0 := (zsh_mm hm ⟨h.2.2.1, h.2.2.2, (h.1 m hm).2.2.1⟩ (h.1 m hm)).2.1
