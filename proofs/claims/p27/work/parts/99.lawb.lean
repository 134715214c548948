/-! the law's loop, its object, and the claim -/
abbrev zLo (sv k : Int) : List (Option zV) := [some (zr 0), some (zr 1), some (zl sv), none, some (zi k), none, none, none, none, none, none, none, none, none]
/-- what holds at the loop's head: the object stands as it should, and the law keeps what it heard when it saved -/
def lawI (σ : zS) (sv : Int) : Prop := ∃ (X : zSV) (o l : Int) (Hs : Int → zSV) (Sl : Int → zSV × Bool) (f : Int → Int) (L : Int) (S Z : Int → Int), RepC σ 144 X o l Hs Sl f L ∧ pdOk f ∧ zRl X S ∧ ((Sl 0).2 = true ∧ (Sl 1).2 = false ∧ zRl (Sl 0).1 Z) ∧ sv = zAllS Z
abbrev lawX (nm : String) (K : zKT) : Prop := zX ⟨RL, nm, "([I)Z"⟩ cL_law 14 (some .boolean) 100 144 13684 0 (fun v _ _ _ => v = some (zi 1)) K
theorem zcoq_4 (X : zSV) (L l : Int) : zcoq X L l 4 = l := by
  unfold zcoq
  rw [if_neg (by decide), if_neg (by decide), if_neg (by decide), if_neg (by decide), if_pos rfl]
theorem zkL_v (l : Int) : (l < 6 ∧ zkL l = l + 1) ∨ (6 ≤ l ∧ zkL l = l) := by
  by_cases q : l < 6
  · exact Or.inl ⟨q, if_pos q⟩
  · exact Or.inr ⟨by omega, if_neg q⟩
theorem zRl.vl {X : zSV} {S : Int → Int} (h : zRl X S) {m : Int} (hm : 0 ≤ m ∧ m < 4) : zVl (X.2.1 m) ∧ zEz (X.1 m) (X.2.1 m) := by
  have hM := h.1 m hm
  exact ⟨hM.2.1.symm.Vl hM.2.2.1, hM.2.2.2.cg hM.1.symm hM.2.1.symm⟩
section
variable {nm : String} {K : zKT} {k : Nat} {sv v w : Int} {σ : zS} {X : zSV} {o l : Int} {Hs : Int → zSV} {Sl : Int → zSV × Bool} {f : Int → Int} {L : Int} {S Z : Int → Int}
theorem law_tail (C : lawX nm K) (hk : k < 26) (hv : -2147483648 ≤ v ∧ v < 2147483648) (next : ∀ (τ : zS) (sv2 : Int), lawI τ sv2 → K 45 (zLo sv2 ((k : Int) + 1)) [] 144 τ 13684) (hf : pdOk f) (hX : zRl X S) (hSl : (Sl 0).2 = true ∧ (Sl 1).2 = false ∧ zRl (Sl 0).1 Z) (hsv : sv = zAllS Z) (R : RepC σ 144 X o l Hs Sl f L) : K 246 [some (zr 0), some (zr 1), some (zl sv), none, some (zi k), some (zi v), some (zi w), none, none, none, none, some (zl (zAllS S)), none, none] [] 144 σ 13684 := by
  have h290 : ∀ (τ : zS) (sv2 : Int), lawI τ sv2 → K 290 (zLo sv2 k) [] 144 τ 13684 := by
    intro τ sv2 I
    refine x_iinc C dL_law_290 rfl (by decide) ?_
    refine x_goto (tgt := 45) C dL_law_293 (by decide) ?_
    exact next τ sv2 I
  have h269 : ∀ τ : zS, RepC τ 144 X o l Hs Sl f L → K 269 [some (zr 0), some (zr 1), some (zl sv), none, some (zi k), some (zi v), some (zi w), none, none, none, none, some (zl (zAllS S)), none, none] [] 144 τ 13684 := by
    intro τ R
    have hB0 := R.1.1
    refine x_iload C dL_law_269 rfl ?_
    refine x_bipush C dL_law_271 (by decide) ?_
    refine x_ishr C dL_law_273 (by omega) ?_
    refine x_bipush C dL_law_274 (by decide) ?_
    refine x_iand C dL_law_276 ?_
    rw [zand_7]
    refine x_iconst C dL_law_277 ?_
    refine x_icmp_ne (tgt := 290) C dL_law_278 (by decide) (by omega) (fun c278 => ?_) (fun c278 => ?_)
    · exact x_wk C rfl (h290 τ sv ⟨X, o, l, Hs, Sl, f, L, S, Z, R, hf, hX, hSl, hsv⟩)
    · refine x_aload_n C dL_law_281 rfl ?_
      refine x_iconst C dL_law_282 ?_
      refine x_callV C dL_law_283 (ctX5_save R 0 (by decide)) okX5_save lkL_90 ⟨⟨hB0, rfl, rfl⟩, (by omega)⟩ ⟨by decide, rfl, rfl, Nat.le_of_ble_eq_true rfl⟩ rfl (Or.inl ⟨rfl, rfl⟩) ?_
      have R2 := (R.sv (k := 0) (by decide)).1
      refine x_pop C dL_law_286 rfl ?_
      refine x_lload C dL_law_287 rfl ?_
      refine x_lstore_n C dL_law_289 (by decide) ?_
      exact x_wk C rfl (h290 _ (zAllS S) ⟨X, o, l, Hs, _, f, L, S, S, R2, hf, hX, ⟨rfl, hSl.2.1, hX⟩, rfl⟩)
  have hB0 := R.1.1
  have hlo := zlow_in w (k := 4) (by decide)
  refine x_iload C dL_law_246 rfl ?_
  refine x_iconst C dL_law_248 ?_
  refine x_irem C dL_law_249 (by omega) ?_
  refine x_iconst C dL_law_250 ?_
  refine x_icmp_ne (tgt := 269) C dL_law_251 (by decide) (by omega) (fun c251 => ?_) (fun c251 => ?_)
  · exact h269 σ R
  · refine x_aload_n C dL_law_254 rfl ?_
    refine x_iload C dL_law_255 rfl ?_
    refine x_iconst C dL_law_257 ?_
    refine x_callS C dL_law_258 (ctL_low w 4 (by decide)) okL_low lkL_34 ⟨by decide, rfl, rfl, Nat.le_of_ble_eq_true rfl⟩ rfl (Or.inl ⟨rfl, rfl⟩) ?_
    refine x_callS C dL_law_261 (ctL_holds R hlo (hX.vl hlo).1 (hX.vl hlo).2) okL_holds lkL_105 ⟨by decide, rfl, rfl, Nat.le_of_ble_eq_true rfl⟩ rfl (Or.inl ⟨rfl, rfl⟩) ?_
    refine x_ifne_b (tgt := 269) C dL_law_264 (by decide) (fun c264 => ?_) (fun c264 => ?_)
    · exact h269 _ (R.dr _ _).1
    · exact absurd c264 (by decide)
/-- a call that changed is taken back, and made again -/
theorem law_redo {r : Int} {S2 : Int → Int} {X2 : zSV} {f2 : Int → Int} {L2 : Int} {σ2 : zS} (C : lawX nm K) (hv : -2147483648 ≤ v ∧ v < 2147483648) (hlb : (0 ≤ o ∧ o < 6) ∧ 0 ≤ l ∧ l ≤ 6) (hr : 0 ≤ r ∧ r < 2147483648) (hact : actR X Sl v w r S2) (hX : zRl X S)
    (R2 : RepC σ2 144 X2 (zkO o l) (zkL l) (zhu Hs ((o + l) % 6) X) Sl f2 L2) (hf2 : pdOk f2) (hX2 : zRl X2 S2)
    (h246 : ∀ (τ : zS) (X3 : zSV) (o3 l3 : Int) (Hs3 : Int → zSV) (f3 : Int → Int) (L3 : Int), RepC τ 144 X3 o3 l3 Hs3 Sl f3 L3 → pdOk f3 → zRl X3 S2 → K 246 [some (zr 0), some (zr 1), some (zl sv), none, some (zi k), some (zi v), some (zi w), none, none, none, none, some (zl (zAllS S2)), none, none] [] 144 τ 13684) :
    K 178 [some (zr 0), some (zr 1), some (zl sv), none, some (zi k), some (zi v), some (zi w), some (zl (zAllS S)), none, none, some (zi r), some (zl (zAllS S2)), none, none] [] 144 σ2 13684 := by
  have hB0 := R2.1.1
  have hzk := zkL_v l
  have hl2 : 0 < zkL l ∧ zkL l ≤ 6 := by omega
  have hun : zhu Hs ((o + l) % 6) X ((zkO o l + (zkL l - 1)) % 6) = X := by
    by_cases q : l < 6
    · rw [show zkO o l = o from if_pos q, show zkL l = l + 1 from if_pos q]
      exact if_pos (by omega)
    · rw [show zkO o l = (o + 1) % 6 from if_neg q, show zkL l = l from if_neg q]
      exact if_pos (by omega)
  refine x_iload C dL_law_178 rfl ?_
  refine x_if_lt (tgt := 246) C dL_law_180 (by decide) (by omega) (fun c180 => ?_) (fun c180 => ?_)
  · exact absurd c180 (by omega)
  · refine x_iload C dL_law_183 rfl ?_
    refine x_bipush C dL_law_185 (by decide) ?_
    refine x_ishr C dL_law_187 (by omega) ?_
    refine x_iconst C dL_law_188 ?_
    refine x_iand C dL_law_189 ?_
    rw [zand_1]
    refine x_if_ne (tgt := 246) C dL_law_190 (by decide) (by omega) (fun c190 => ?_) (fun c190 => ?_)
    · exact x_wk C rfl (h246 σ2 X2 _ _ _ f2 L2 R2 hf2 hX2)
    · refine x_aload_n C dL_law_193 rfl ?_
      refine x_iconst C dL_law_194 ?_
      refine x_callV C dL_law_195 (ctX5_count R2 4 (by decide)) okX5_count lkL_28 ⟨⟨hB0, rfl, rfl⟩, (by omega)⟩ ⟨by decide, rfl, rfl, Nat.le_of_ble_eq_true rfl⟩ rfl (Or.inl ⟨rfl, rfl⟩) ?_
      rw [zcoq_4]
      refine x_iconst C dL_law_198 ?_
      refine x_isub C dL_law_199 ?_
      refine x_istore C dL_law_200 (by decide) ?_
      refine x_aload_n C dL_law_202 rfl ?_
      refine x_callV C dL_law_203 (ctX5_undo R2 hl2.1) okX5_undo lkL_87 ⟨⟨hB0, rfl, rfl⟩, (by omega)⟩ ⟨by decide, rfl, rfl, Nat.le_of_ble_eq_true rfl⟩ rfl (Or.inl ⟨rfl, rfl⟩) ?_
      refine x_nm (fun s203 e203 => ?_)
      have R3 : RepC s203 144 X (zkO o l) (zkL l - 1) (zhu Hs ((o + l) % 6) X) Sl f2 L2 := by
        rw [e203]
        have h := (R2.un hl2.1).1
        rw [hun] at h ⊢
        exact h
      have hB0 := R3.1.1
      refine x_iload C dL_law_206 rfl ?_
      refine x_icmp_ne (tgt := 244) C dL_law_208 (by decide) (by omega) (fun c208 => ?_) (fun c208 => ?_)
      · exact absurd rfl c208
      · refine x_aload_n C dL_law_211 rfl ?_
        refine x_callS C dL_law_212 (ctL_all R3 hX) okL_all lkL_93 ⟨by decide, rfl, rfl, Nat.le_of_ble_eq_true rfl⟩ rfl (Or.inl ⟨rfl, rfl⟩) ?_
        refine x_lload C dL_law_215 rfl ?_
        refine x_lcmpe C dL_law_217 rfl ?_
        refine x_if_ne (tgt := 244) C dL_law_218 (by decide) (by omega) (fun c218 => ?_) (fun c218 => ?_)
        · exact absurd rfl c218
        · refine x_aload_n C dL_law_221 rfl ?_
          refine x_iload C dL_law_222 rfl ?_
          refine x_iload C dL_law_224 rfl ?_
          obtain ⟨X3, f3, L3, σ3, hct, hf3, ⟨q, -⟩ | ⟨-, hX3, R4⟩⟩ := hact s203 _ _ _ _ _ R3 hf2
          · exact absurd q (by omega)
          refine x_callS C dL_law_226 hct okL_act lkL_101 ⟨by decide, rfl, rfl, Nat.le_of_ble_eq_true rfl⟩ rfl (Or.inl ⟨rfl, rfl⟩) ?_
          have hB0 := R4.1.1
          refine x_iload C dL_law_229 rfl ?_
          refine x_icmp_ne (tgt := 244) C dL_law_231 (by decide) (by omega) (fun c231 => ?_) (fun c231 => ?_)
          · exact absurd rfl c231
          · refine x_aload_n C dL_law_234 rfl ?_
            refine x_callS C dL_law_235 (ctL_all R4 hX3) okL_all lkL_93 ⟨by decide, rfl, rfl, Nat.le_of_ble_eq_true rfl⟩ rfl (Or.inl ⟨rfl, rfl⟩) ?_
            refine x_lload C dL_law_238 rfl ?_
            refine x_lcmpe C dL_law_240 rfl ?_
            refine x_if_eq (tgt := 246) C dL_law_241 (by decide) (by omega) (fun c241 => ?_) (fun c241 => ?_)
            · exact x_wk C rfl (h246 σ3 X3 _ _ _ f3 L3 R4 hf3 hX3)
            · exact absurd rfl c241
end
theorem law_loop {nm : String} {b L : Nat} {xs : Nat → Int32} {K : zKT} (Zc : zLC nm b L xs K) (hL : L ≤ 260) : ∀ (g k : Nat) (σ : zS) (sv : Int), lawI σ sv → k ≤ 26 → 26 - k < g → K 45 (zLo sv (k : Int)) [] 144 σ 13684
  | 0, k, σ, sv, I, hk, hg => absurd hg (by omega)
  | g + 1, k, σ, sv, I, hk, hg => by
    have C := Zc.X.C
    obtain ⟨X, o, l, Hs, Sl, f, L1, S, Z, R, hf, hX, hSl, hsv⟩ := id I
    have hlb := R.b
    have hB0 := R.1.1
    by_cases h26 : k < 26
    case neg =>
      refine x_iload C dL_law_45 rfl ?_
      refine x_bipush C dL_law_47 (by decide) ?_
      refine x_icmp_ge (tgt := 296) C dL_law_49 (by decide) (by omega) (fun c49 => ?_) (fun c49 => ?_)
      · refine x_iconst C dL_law_296 ?_
        exact x_zret (st := []) (b := true) C dL_law_297 rfl rfl
      · exact absurd c49 (by omega)
    have next : ∀ (τ : zS) (sv2 : Int), lawI τ sv2 → K 45 (zLo sv2 ((k : Int) + 1)) [] 144 τ 13684 := fun τ sv2 I2 => law_loop Zc hL g (k + 1) τ sv2 I2 (by omega) (by omega)
    have hv := zcel_in xs L (k := 2 * (k : Int)) (by omega)
    have hw := zcel_in xs L (k := 2 * (k : Int) + 1) (by omega)
    have cv := cell_ct (b := b) (xs := xs) hL (n := 144) (σ := σ) (2 * (k : Int)) (by omega)
    have cw := cell_ct (b := b) (xs := xs) hL (n := 144) (σ := σ) (2 * (k : Int) + 1) (by omega)
    obtain ⟨v, ev⟩ : ∃ v, zcel xs L (2 * (k : Int)) = v := ⟨_, rfl⟩
    obtain ⟨w, ew⟩ : ∃ w, zcel xs L (2 * (k : Int) + 1) = w := ⟨_, rfl⟩
    rw [ev] at hv cv
    rw [ew] at hw cw
    obtain ⟨r, S2, hr, h5, hact⟩ := act_ok hX hSl.1 hSl.2.1 hSl.2.2 hv hw
    obtain ⟨X2, f2, L2, σ2, hct, hf2, hor⟩ := hact σ _ _ _ _ _ R hf
    have h95 : K 95 [some (zr 0), some (zr 1), some (zl sv), none, some (zi k), some (zi v), some (zi w), some (zl (zAllS S)), none, some (zi l), none, none, none, none] [zi r] 144 σ2 13684 := by
      rcases hor with ⟨hr0, R2⟩ | ⟨hr0, hX2, R2⟩
      · have hB0 := R2.1.1
        refine x_istore C dL_law_95 (by decide) ?_
        refine x_aload_n C dL_law_97 rfl ?_
        refine x_callS C dL_law_98 (ctL_all R2 hX) okL_all lkL_93 ⟨by decide, rfl, rfl, Nat.le_of_ble_eq_true rfl⟩ rfl (Or.inl ⟨rfl, rfl⟩) ?_
        refine x_lstore C dL_law_101 (by decide) ?_
        refine x_iload C dL_law_103 rfl ?_
        refine x_if_ge (tgt := 129) C dL_law_105 (by decide) (by omega) (fun c105 => ?_) (fun c105 => ?_)
        · exact absurd c105 (by omega)
        · refine x_lload C dL_law_108 rfl ?_
          refine x_lload C dL_law_110 rfl ?_
          refine x_lcmpe C dL_law_112 rfl ?_
          refine x_if_ne (tgt := 153) C dL_law_113 (by decide) (by omega) (fun c113 => ?_) (fun c113 => ?_)
          · exact absurd rfl c113
          · refine x_aload_n C dL_law_116 rfl ?_
            refine x_iconst C dL_law_117 ?_
            refine x_callV C dL_law_118 (ctX5_count R2 4 (by decide)) okX5_count lkL_28 ⟨⟨hB0, rfl, rfl⟩, (by omega)⟩ ⟨by decide, rfl, rfl, Nat.le_of_ble_eq_true rfl⟩ rfl (Or.inl ⟨rfl, rfl⟩) ?_
            rw [zcoq_4]
            refine x_iload C dL_law_121 rfl ?_
            refine x_icmp_eq (tgt := 155) C dL_law_123 (by decide) (by omega) (fun c123 => ?_) (fun c123 => ?_)
            · refine x_iload C dL_law_155 rfl ?_
              refine x_if_lt (tgt := 178) C dL_law_157 (by decide) (by omega) (fun c157 => ?_) (fun c157 => ?_)
              · refine x_iload C dL_law_178 rfl ?_
                refine x_if_lt (tgt := 246) C dL_law_180 (by decide) (by omega) (fun c180 => ?_) (fun c180 => ?_)
                · exact x_wk C rfl (law_tail C h26 hv next hf2 hX hSl hsv R2)
                · exact absurd c180 (by omega)
              · exact absurd c157 (by omega)
            · exact absurd rfl c123
      · have hB0 := R2.1.1
        have h178 : K 178 [some (zr 0), some (zr 1), some (zl sv), none, some (zi k), some (zi v), some (zi w), some (zl (zAllS S)), none, none, some (zi r), some (zl (zAllS S2)), none, none] [] 144 σ2 13684 :=
          law_redo C hv hlb ⟨hr0, hr.2⟩ hact hX R2 hf2 hX2 (fun τ X3 o3 l3 Hs3 f3 L3 R3 hf3 hX3 => law_tail C h26 hv next hf3 hX3 hSl hsv R3)
        have h155 : K 155 [some (zr 0), some (zr 1), some (zl sv), none, some (zi k), some (zi v), some (zi w), some (zl (zAllS S)), none, none, some (zi r), some (zl (zAllS S2)), none, none] [] 144 σ2 13684 := by
          refine x_iload C dL_law_155 rfl ?_
          refine x_if_lt (tgt := 178) C dL_law_157 (by decide) (by omega) (fun c157 => ?_) (fun c157 => ?_)
          · exact absurd c157 (by omega)
          · refine x_iload C dL_law_160 rfl ?_
            refine x_bipush C dL_law_162 (by decide) ?_
            refine x_iand C dL_law_164 ?_
            rw [zand_15]
            refine x_iconst C dL_law_165 ?_
            refine x_icmp_ne (tgt := 178) C dL_law_166 (by decide) (by omega) (fun c166 => ?_) (fun c166 => ?_)
            · exact h178
            · refine x_lload C dL_law_169 rfl ?_
              refine x_lload_n C dL_law_171 rfl ?_
              refine x_lcmpe C dL_law_172 (show zAllS S2 = sv by rw [h5 hr0 c166, hsv]) ?_
              refine x_if_eq (tgt := 178) C dL_law_173 (by decide) (by omega) (fun c173 => ?_) (fun c173 => ?_)
              · exact h178
              · exact absurd rfl c173
        have hzk := zkL_v l
        refine x_istore C dL_law_95 (by decide) ?_
        refine x_aload_n C dL_law_97 rfl ?_
        refine x_callS C dL_law_98 (ctL_all R2 hX2) okL_all lkL_93 ⟨by decide, rfl, rfl, Nat.le_of_ble_eq_true rfl⟩ rfl (Or.inl ⟨rfl, rfl⟩) ?_
        refine x_lstore C dL_law_101 (by decide) ?_
        refine x_iload C dL_law_103 rfl ?_
        refine x_if_ge (tgt := 129) C dL_law_105 (by decide) (by omega) (fun c105 => ?_) (fun c105 => ?_)
        · refine x_aload_n C dL_law_129 rfl ?_
          refine x_iconst C dL_law_130 ?_
          refine x_callV C dL_law_131 (ctX5_count R2 4 (by decide)) okX5_count lkL_28 ⟨⟨hB0, rfl, rfl⟩, (by omega)⟩ ⟨by decide, rfl, rfl, Nat.le_of_ble_eq_true rfl⟩ rfl (Or.inl ⟨rfl, rfl⟩) ?_
          rw [zcoq_4]
          refine x_iload C dL_law_134 rfl ?_
          refine x_bipush C dL_law_136 (by decide) ?_
          refine x_icmp_ge (tgt := 148) C dL_law_138 (by decide) (by omega) (fun c138 => ?_) (fun c138 => ?_)
          · refine x_bipush C dL_law_148 (by decide) ?_
            refine x_icmp_eq (tgt := 155) C dL_law_150 (by decide) (by omega) (fun c150 => ?_) (fun c150 => ?_)
            · exact x_wk C rfl h155
            · exact absurd (by omega) c150
          · refine x_iload C dL_law_141 rfl ?_
            refine x_iconst C dL_law_143 ?_
            refine x_iadd C dL_law_144 ?_
            refine x_goto (tgt := 150) C dL_law_145 (by decide) ?_
            refine x_icmp_eq (tgt := 155) C dL_law_150 (by decide) (by omega) (fun c150 => ?_) (fun c150 => ?_)
            · exact x_wk C rfl h155
            · exact absurd (by omega) c150
        · exact absurd c105 (by omega)
    refine x_iload C dL_law_45 rfl ?_
    refine x_bipush C dL_law_47 (by decide) ?_
    refine x_icmp_ge (tgt := 296) C dL_law_49 (by decide) (by omega) (fun c49 => ?_) (fun c49 => ?_)
    · exact absurd c49 (by omega)
    · refine x_aload_n C dL_law_52 rfl ?_
      refine x_iconst C dL_law_53 ?_
      refine x_iload C dL_law_54 rfl ?_
      refine x_imul C dL_law_56 ?_
      refine x_callSx Zc.X dL_law_57 cv okL_cell lkL_97 ⟨by decide, rfl, rfl, Nat.le_of_ble_eq_true rfl⟩ rfl (Or.inl ⟨rfl, rfl⟩) ?_
      refine x_istore C dL_law_60 (by decide) ?_
      refine x_aload_n C dL_law_62 rfl ?_
      refine x_iconst C dL_law_63 ?_
      refine x_iload C dL_law_64 rfl ?_
      refine x_imul C dL_law_66 ?_
      refine x_iconst C dL_law_67 ?_
      refine x_iadd C dL_law_68 ?_
      refine x_callSx Zc.X dL_law_69 cw okL_cell lkL_97 ⟨by decide, rfl, rfl, Nat.le_of_ble_eq_true rfl⟩ rfl (Or.inl ⟨rfl, rfl⟩) ?_
      refine x_istore C dL_law_72 (by decide) ?_
      refine x_aload_n C dL_law_74 rfl ?_
      refine x_callS C dL_law_75 (ctL_all R hX) okL_all lkL_93 ⟨by decide, rfl, rfl, Nat.le_of_ble_eq_true rfl⟩ rfl (Or.inl ⟨rfl, rfl⟩) ?_
      refine x_lstore C dL_law_78 (by decide) ?_
      refine x_aload_n C dL_law_80 rfl ?_
      refine x_iconst C dL_law_81 ?_
      refine x_callV C dL_law_82 (ctX5_count R 4 (by decide)) okX5_count lkL_28 ⟨⟨hB0, rfl, rfl⟩, (by omega)⟩ ⟨by decide, rfl, rfl, Nat.le_of_ble_eq_true rfl⟩ rfl (Or.inl ⟨rfl, rfl⟩) ?_
      rw [zcoq_4]
      refine x_istore C dL_law_85 (by decide) ?_
      refine x_aload_n C dL_law_87 rfl ?_
      refine x_iload C dL_law_88 rfl ?_
      refine x_iload C dL_law_90 rfl ?_
      refine x_callS C dL_law_92 hct okL_act lkL_101 ⟨by decide, rfl, rfl, Nat.le_of_ble_eq_true rfl⟩ rfl (Or.inl ⟨rfl, rfl⟩) ?_
      exact x_wk C rfl h95
theorem law_all {nm : String} {b L : Nat} {xs : Nat → Int32} {K : zKT} (Zc : zLC nm b L xs K) (hL : L ≤ 260) (σ : zS) : K 0 (zen 14 [zr 0]) [] 0 σ 0 := by
  have C := Zc.X.C
  refine x_new (ci := 5) C dL_law_0 rfl ⟨klL_13, kiX5.1, kiX5.2, inX5⟩ tyX5 tyX5_ok (fs := [zn, zn, zn, zn, zn, zn]) (fun g j hj => match j, hj with | 0, _ => rfl | 1, _ => rfl | 2, _ => rfl | 3, _ => rfl | 4, _ => rfl | 5, _ => rfl | _ + 6, h => absurd h (by omega)) (by omega) ?_
  refine x_nm (fun s0 e0 => ?_)
  rw [show ((0 : Nat) : Int) + 1 = 1 from rfl] at e0 ⊢
  have hB := (congrFun e0 1).trans (zsu_s _ _ _)
  refine x_dup C dL_law_3 rfl ?_
  refine x_callI C dL_law_4 (ctX5_init hB) okX5_init lkL_86 ⟨by decide, rfl, rfl, Nat.le_of_ble_eq_true rfl⟩ rfl (Or.inr (by omega)) ?_
  refine x_nm (fun s4 e4 => ?_)
  refine x_astore_n C dL_law_7 (by decide) ?_
  have R : RepC s4 144 zX0 0 0 (fun _ => zX0) (fun _ => (zX0, false)) (fun _ => 0) 0 := zxF_is (σ := s0) (fun k h1 h2 => by rw [e4])
  have hB0 := R.1.1
  have hroom : zsm (fun m => zroom (zX0.2.1 m) 3 0 0) 4 = 0 := by decide
  refine x_aload_n C dL_law_8 rfl ?_
  refine x_callV C dL_law_9 (ctX5_undoE R rfl) okX5_undo lkL_87 ⟨⟨hB0, rfl, rfl⟩, (by omega)⟩ ⟨by decide, rfl, rfl, Nat.le_of_ble_eq_true rfl⟩ rfl (Or.inl ⟨rfl, rfl⟩) ?_
  refine x_bipush C dL_law_12 (by decide) ?_
  refine x_icmp_ne (tgt := 35) C dL_law_14 (by decide) (by omega) (fun c14 => ?_) (fun c14 => ?_)
  · exact absurd rfl c14
  · refine x_aload_n C dL_law_17 rfl ?_
    refine x_iconst C dL_law_18 ?_
    refine x_callV C dL_law_19 (ctX5_restoreN R 1 (by decide) rfl) okX5_restore lkL_52 ⟨⟨hB0, rfl, rfl⟩, (by omega)⟩ ⟨by decide, rfl, rfl, Nat.le_of_ble_eq_true rfl⟩ rfl (Or.inl ⟨rfl, rfl⟩) ?_
    refine x_bipush C dL_law_22 (by decide) ?_
    refine x_icmp_ne (tgt := 35) C dL_law_24 (by decide) (by omega) (fun c24 => ?_) (fun c24 => ?_)
    · exact absurd rfl c24
    · refine x_aload_n C dL_law_27 rfl ?_
      refine x_iconst C dL_law_28 ?_
      refine x_callV C dL_law_29 (ctX5_save R 0 (by decide)) okX5_save lkL_90 ⟨⟨hB0, rfl, rfl⟩, (by omega)⟩ ⟨by decide, rfl, rfl, Nat.le_of_ble_eq_true rfl⟩ rfl (Or.inl ⟨rfl, rfl⟩) ?_
      have R2 := (R.sv (k := 0) (by decide)).1
      have hB0 := R2.1.1
      rw [hroom]
      refine x_if_eq (tgt := 37) C dL_law_32 (by decide) (by omega) (fun c32 => ?_) (fun c32 => ?_)
      · refine x_aload_n C dL_law_37 rfl ?_
        refine x_callS C dL_law_38 (ctL_all R2 zRl_0) okL_all lkL_93 ⟨by decide, rfl, rfl, Nat.le_of_ble_eq_true rfl⟩ rfl (Or.inl ⟨rfl, rfl⟩) ?_
        refine x_lstore_n C dL_law_41 (by decide) ?_
        refine x_iconst C dL_law_42 ?_
        refine x_istore C dL_law_43 (by decide) ?_
        exact law_loop Zc hL 27 0 _ _ ⟨zX0, 0, 0, _, _, _, 0, _, _, R2, fun _ => (show (0 : Int) ≤ 0 ∧ (0 : Int) < 65536 by decide), zRl_0, ⟨rfl, rfl, zRl_0⟩, rfl⟩ (by decide) (by decide)
      · exact absurd rfl c32
/-- from the entry, for every script of at most 260 ints, the law comes to its end with true -/
theorem whole_start {p : Program} {e : Env} {s : State} {m : MethodId} {below : List Frame} {meth : Method} {c : Code} (l : Launch) (hflags : l.flags = flags0) {b L : Nat} {xs : Nat → Int32} (hL : L ≤ 260) (C0 : lw_At p s m meth c b L xs) : W p l e room_1 s m #[Value.ref b] below meth c s.heap [] 0 0 (lw_Z below #[Value.ref b] s) (entryFrame m ([Value.ref b] : List Value).toArray 14) := by
  obtain ⟨hx, hb, hr, hml, hown, hts, hX, hbl, hlocks, hgv⟩ := id C0
  obtain ⟨g, hg, hK⟩ := zK_start hts (b, s.heap.size - 1)
  have Z : zLC meth.name b L xs (zKL p l e s m b below meth c g) := ⟨p, l, e, s, m, below, meth, c, g, C0, rfl, hK, hg, rfl⟩
  have hH : zH g 0 (fun _ => zO 0 []) s.heap := by
    refine ⟨?_, ?_, fun k q h => ?_⟩
    · rw [hg]
      show s.heap.size - 1 + 1 + 0 ≤ _
      omega
    · rw [hg]
      show b ≤ s.heap.size - 1
      omega
    · rw [zW_get, if_neg (by omega)] at h
      cases h
  have key := law_all Z hL (fun _ => zO 0 []) _ s.heap [] (by omega) (zen_L g (ml := 14) (as := [zr 0]) (by decide)) hH va_S.rf
  rw [show List.map (zv g) [zr 0] = [Value.ref b] by rw [List.map_cons, zv_r0 (show g.1.1 = b by rw [hg])]; rfl] at key
  rw [lg_entry_eq]
  exact key
set_option maxHeartbeats 4000000 in
theorem lw_walk (l : Launch) (hflags : l.flags = flags0) (b : Addr) (xs : List Int32) : MetFree l x (headSpec (Jvm.Cond.code x code maxLocals ret :: tables_1) room_1) (lw_P b xs) (fun _ _ _ _ _ => True) lw_Q := by
  refine MetFree.of_bodyS (code := code) (maxLocals := maxLocals) (ret := ret) (by decide) ?_ ?_
  · intro args s m h hn
    obtain ⟨meth, c, h1, h2, h3, h4, h5, h6, -, -⟩ := Cond.code_spec hn (atoms_spec (ws := Jvm.Cond.code x code maxLocals ret :: tables_1) h _ List.mem_cons_self)
    exact ⟨meth, c, h1, h2, h3, h4, h5, h6⟩
  · intro p e s m args below meth c s₁ B hml0 hP _
    obtain ⟨rfl, hx, hbd, hgv⟩ := hP
    obtain ⟨scr, harrAt, hlist, hof, hsmall⟩ := hx
    obtain ⟨hcb, hkn, -, -⟩ := State.arrayAt?_spec harrAt
    have hown : s.vm.findClass R_law = some m.cls := findClass_of_methodNamed B.named
    have hts0 : ∀ c ∈ (Jvm.Cond.code x code maxLocals ret :: tables_1), c.before #[Value.ref b] s = true := atoms_spec (ws := Jvm.Cond.code x code maxLocals ret :: tables_1) B.pre
    have hts : ∀ w ∈ lw_tbl, w.before #[Value.ref b] s = true := k2_hts_sels lw_privs (fun w hw => hts0 w (List.mem_cons_of_mem _ hw)) lw_privs_ok
    have hml : c.maxLocals = 14 := B.maxLocals_eq (hts0 _ List.mem_cons_self)
    have X₀ : Stand p l e room_1 s m #[Value.ref b] below meth c s₁ [] 0 0 := Stand.of_body B
    have hh0 : s₁.heap = s.heap := by rw [B.state]; rfl
    have hsz : scr.slots.size = xs.length := by rw [← Array.length_toList, hlist, List.length_map]
    have hval : ∀ j : Nat, j < xs.length → scr.slots[j]? = some (.int (xs.getD j 0)) := fun j hj => by
      rw [← Array.getElem?_toList, hlist]
      simp [hj]
    have hbl : b < s.heap.size := (Array.getElem?_eq_some_iff.mp hcb).1
    have hX : va_X b xs.length (fun j => xs.getD j 0) s s.heap := ⟨scr, hcb, hof, hkn, hsz, hval⟩
    have K : W p l e room_1 s m #[Value.ref b] below meth c s₁.heap [] 0 0 (lw_Z below #[Value.ref b] s) (entryFrame m ([Value.ref b] : List Value).toArray 14) := by
      rw [hh0]
      exact whole_start l hflags hbd ⟨B.exec, B.bytes, B.returns, hml, hown, hts, hX, hbl, B.notSynchronized, hgv⟩
    obtain ⟨t, a1, o, b1, b2, b3⟩ := K s₁ rfl X₀
    exact ⟨t, o, a1, b1, b2, b3⟩
theorem lw_pre_spec {args : Array Value} {s : State} (h : (Jvm.Cond.and given_1 narrow_1).before args s = true) (hr : rest_1_c.before args s = true) : ∃ (b : Addr) (xs : List Int32), lw_P b xs args s := by
  have hs := flat_of_before _ h
  have hq := flat_of_before _ hr
  have hc : (Cond.count 1).before args s = true := hs _ (by decide +kernel)
  have harr : (Cond.arrayOf (.arg 0) .int).before args s = true := hs _ (by decide +kernel)
  have hle : (Cond.le (.length (.arg 0)) (.int 260)).before args s = true := hs _ (by decide +kernel)
  have hlen : (Cond.isInt (.length (.arg 0))).before args s = true := hq _ (by decide +kernel)
  have hall : (Cond.all (.arg 0) (.isInt (.elem (.arg 0) (.index 0)))).before args s = true := hq _ (by decide +kernel)
  obtain ⟨b, xs, hb, hx⟩ := State.ints_of_pre rfl harr hlen hall
  have hsm : xs.length < 2 ^ 31 := hx.choose_spec.2.2.2
  have hev : (Term.length (.arg 0)).eval args s none [] s = some (.int xs.length.toInt32) := hx.length_eval hb
  have hv := Cond.le_ints hev (show (Term.int 260).eval args s none [] s = some (.int 260) from rfl)
  have hd : xs.length.toInt32 ≤ 260 := by
    simpa [Cond.before, Cond.holds, hv] using hle
  have hN : xs.length ≤ 260 := (Int32.ofNat_le_ofNat hsm (by decide)).mp (show Int32.ofNat xs.length ≤ Int32.ofNat 260 from hd)
  exact ⟨b, xs, Cond.one_arg hc (show args[0]? = some (.ref b) from hb), hx, hN, h⟩
theorem lw_comes (l : Launch) (hflags : l.flags = flags0) : Comes l x (Jvm.Cond.code x code maxLocals ret :: tables_1) room_1 (fun tb e args s => Calls_1 tb e args s ∧ rest_1 tb e args s ∧ Pre_1 tb e args s)
    (fun _ _ args s o t => lw_Q args s o t) := by
  intro p e ha hc hk s m args below hf hfit hheap happ hpre
  obtain ⟨b, xs, hP⟩ := lw_pre_spec hpre.2.2 hpre.2.1
  obtain ⟨k, o, h1, h2, h3, hQ⟩ := lw_walk l hflags b xs p e ha hc hk s m args below hf ((Spec.applies_iff_loose hf).mp happ).1 hP trivial
  exact ⟨k, o, h1, h2, h3, hQ⟩
theorem lw_frame {s t : State} {o : Outcome} {args : Array Value} (h : Framed s o t [] 600000 7302250) :
    Framed s o t (fieldLocs frame_1_writes args s ++ arrayLocs frame_1_arrays args s ++ staticLocs frame_1_statics s) 600000 7302250 := h
theorem lw_limb (L : Cond) (hL : ∀ (args : Array Value) (s t : State), L.after args s (.returned (some (.int 1))) t = true) :
    ArmFor flags0 classFile x code maxLocals ret World_1 tables_1 room_1 Calls_1 rest_1 Pre_1
      (fun tb e a s o t => postC L tb e a s o t ∧ Framed s o t (fieldLocs frame_1_writes a s ++ arrayLocs frame_1_arrays a s ++ staticLocs frame_1_statics s) 600000 7302250) := by
  intro l hflags _ _ p e ha hc hk s m args below hf hfit hheap happ hpre
  obtain ⟨k, o, h1, h2, h3, rfl, hF⟩ := lw_comes l hflags p e ha hc hk s m args below hf hfit hheap happ hpre
  exact ⟨k, _, h1, h2, h3, hL args s _, lw_frame hF⟩
theorem i_vc : Claimed_1_1 ∧ Claimed_1_2 := ⟨lw_limb limb_1_1 (fun args s t => by simp [limb_1_1, Cond.after, Cond.holds, Cond.value]), lw_limb limb_1_2 (fun args s t => Cond.after_iff.mpr (by
  first | (rw [show limb_1_2 = Cond.eq .result (.int 1) from rfl, Cond.eq_ints (x := 1) (y := 1) rfl rfl]; simp; done) | (simp [limb_1_2, Cond.value, Term.eval]; done)))⟩
