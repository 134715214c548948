/-! what the law asks of a matrix: its bounds, its blocks, its room -/
theorem zsm_1 : ∀ k : Nat, zsm (fun _ => 1) k = k
  | 0 => rfl
  | k + 1 => by
    show zsm (fun _ => 1) k + 1 = _
    rw [zsm_1 k]
    rfl
theorem zdvz {z x : Int} (hz : z = 16 ∨ z = 8 ∨ z = 4 ∨ z = 2) (hx : 0 ≤ x) : x / z * z ≤ x ∧ x < x / z * z + z ∧ 0 ≤ x / z * z := by
  rcases hz with rfl | rfl | rfl | rfl <;> omega
theorem zcf_b {t : Int → Int} (G : Int → Int → Int → Int) {row col dp z fi le : Int} (hdp : zdp t row col = dp) (hz : zsz dp = z) (hfi : row / z * z = fi) (hle : col / z * z = le) : zcf t G row col = if fi = row ∧ le = col then G dp (row / z) (col / z) else 0 := by
  unfold zcf
  rw [hdp, hz, hfi, hle]
section
variable {n : Nat} {σ : zS} {X : zSV} {o l : Int} {Hs : Int → zSV} {Sl : Int → zSV × Bool} {f : Int → Int} {L : Int}
theorem ctL_holds (R : RepC σ n X o l Hs Sl f L) {m : Int} (hm : 0 ≤ m ∧ m < 4) (hvl : zVl (X.2.1 m)) (hez : zEz (X.1 m) (X.2.1 m)) : zCt 13 0 0 yL_holds cL_holds 13 (some .boolean) [zr 1, zi m] n σ (some (zi (zb true))) n (sM σ 111 (X.1 m) (zshr (X.1 m) 3 (X.2.1 m) 0 0).1) := by
  have hB0 := R.1.1
  have hn := R.1.2
  have hbd := R.2.1.2.1 m
  have hst := R.2.1.2.2 m
  obtain ⟨b, hbb⟩ : ∃ b : Bool, (b = true ↔ ∀ i j : Nat, j < i → i < 16 → X.1 m ((i : Int) * 16 + j) = X.1 m ((j : Int) * 16 + i)) := by
    by_cases q : ∀ i j : Nat, j < i → i < 16 → X.1 m ((i : Int) * 16 + j) = X.1 m ((j : Int) * 16 + i)
    · exact ⟨true, iff_of_true rfl q⟩
    · exact ⟨false, iff_of_false (fun z => by cases z) q⟩
  have cv : ∀ s : Int, zcnt (X.2.1 m) s 3 0 0 = zVS (zFc (X.2.1 m) s) 0 0 0 := fun s => zcnt_VS s 3 0 0 0 (by decide) (by decide) (by decide) (by decide) rfl
  obtain ⟨C0, hC0⟩ : ∃ c, zVS (zFc (X.2.1 m) 0) 0 0 0 = c := ⟨_, rfl⟩
  obtain ⟨C1, hC1⟩ : ∃ c, zVS (zFc (X.2.1 m) 1) 0 0 0 = c := ⟨_, rfl⟩
  obtain ⟨C2, hC2⟩ : ∃ c, zVS (zFc (X.2.1 m) 2) 0 0 0 = c := ⟨_, rfl⟩
  obtain ⟨C3, hC3⟩ : ∃ c, zVS (zFc (X.2.1 m) 3) 0 0 0 = c := ⟨_, rfl⟩
  obtain ⟨R0, hR0⟩ : ∃ c, zroom (X.2.1 m) 3 0 0 = c := ⟨_, rfl⟩
  have o0 : zofq (X.1 m) (X.2.1 m) b 0 = R0 := Eq.trans (if_pos rfl) hR0
  have o2 : zofq (X.1 m) (X.2.1 m) b 2 = C0 := Eq.trans (b := zcnt (X.2.1 m) 0 3 0 0) (by unfold zofq; rw [if_neg (by decide), if_neg (by decide), if_pos rfl]) ((cv 0).trans hC0)
  have o3 : zofq (X.1 m) (X.2.1 m) b 3 = C1 := Eq.trans (b := zcnt (X.2.1 m) 1 3 0 0) (by unfold zofq; rw [if_neg (by decide), if_neg (by decide), if_neg (by decide), if_pos rfl]) ((cv 1).trans hC1)
  have o4 : zofq (X.1 m) (X.2.1 m) b 4 = C2 := Eq.trans (b := zcnt (X.2.1 m) 2 3 0 0) (by unfold zofq; rw [if_neg (by decide), if_neg (by decide), if_neg (by decide), if_neg (by decide), if_pos rfl]) ((cv 2).trans hC2)
  have o5 : zofq (X.1 m) (X.2.1 m) b 5 = C3 := Eq.trans (b := zcnt (X.2.1 m) 3 3 0 0) (by unfold zofq; rw [if_neg (by decide), if_neg (by decide), if_neg (by decide), if_neg (by decide), if_neg (by decide), if_pos rfl]) ((cv 3).trans hC3)
  obtain ⟨Pl, hPl⟩ : ∃ g : Nat → Int, g = zsm (fun k => zcf (X.2.1 m) (fun d _ _ => zsz d * zsz d) (k / 16) (k % 16)) := ⟨_, rfl⟩
  obtain ⟨Rm, hRm⟩ : ∃ g : Nat → Int, g = zsm (fun k => zcf (X.2.1 m) (fun d r c => zrm (X.2.1 m (zmn d r c)) (zsz d)) (k / 16) (k % 16)) := ⟨_, rfl⟩
  obtain ⟨Bl, hBl⟩ : ∃ g : Nat → Int, g = zsm (fun k => zcf (X.2.1 m) (fun _ _ _ => 1) (k / 16) (k % 16)) := ⟨_, rfl⟩
  have P0 : Pl 0 = 0 := by rw [hPl]; rfl
  have M0 : Rm 0 = 0 := by rw [hRm]; rfl
  have L0 : Bl 0 = 0 := by rw [hBl]; rfl
  have Ps : ∀ k : Nat, Pl (k + 1) = Pl k + zcf (X.2.1 m) (fun d _ _ => zsz d * zsz d) ((k : Int) / 16) ((k : Int) % 16) := fun k => by rw [hPl]; rfl
  have Ms : ∀ k : Nat, Rm (k + 1) = Rm k + zcf (X.2.1 m) (fun d r c => zrm (X.2.1 m (zmn d r c)) (zsz d)) ((k : Int) / 16) ((k : Int) % 16) := fun k => by rw [hRm]; rfl
  have Ls : ∀ k : Nat, Bl (k + 1) = Bl k + zcf (X.2.1 m) (fun _ _ _ => 1) ((k : Int) / 16) ((k : Int) % 16) := fun k => by rw [hBl]; rfl
  have PE : Pl 256 = 256 := by
    rw [hPl, zcf_0 hvl, zLf_sq hvl 3 0 0 0 (by decide) (by decide) (by decide) (by decide) rfl]
    rfl
  have LE : Bl 256 = 1 + 3 * C3 := by
    rw [hBl, zcf_0 hvl, zLf_one hvl 3 0 0 0 (by decide) (by decide) (by decide) (by decide) rfl, hC3]
  have LC : Bl 256 = C0 + C1 + C2 := by
    rw [hBl, zcf_0 hvl, zLf_cn hst, hC0, hC1, hC2]
  have ME : C3 + Rm 256 = R0 := by
    have h1 := zLf_rm (X.2.1 m)
    have h2 : zroom (X.2.1 m) 3 0 0 = zVS (zFr (X.2.1 m)) 0 0 0 := zroom_F hvl
    rw [hRm, zcf_0 hvl]
    omega
  have LB : 0 ≤ Bl 256 ∧ Bl 256 ≤ 256 := by
    have h1 := zsm_le (g := fun k => zcf (X.2.1 m) (fun _ _ _ => 1) (k / 16) (k % 16)) (h := fun _ => 1) 256 (fun j _ => by
      show 0 ≤ zcf (X.2.1 m) (fun _ _ _ => 1) ((j : Int) / 16) ((j : Int) % 16) ∧ zcf (X.2.1 m) (fun _ _ _ => 1) ((j : Int) / 16) ((j : Int) % 16) ≤ 1
      unfold zcf
      split
      · exact (by decide : (0 : Int) ≤ 1 ∧ (1 : Int) ≤ 1)
      · exact (by decide : (0 : Int) ≤ 0 ∧ (0 : Int) ≤ 1))
    rw [zsm_1, ← hBl] at h1
    exact h1
  have hC3b : 0 ≤ C3 ∧ C3 ≤ 85 := by omega
  have hR0b : 0 ≤ R0 ∧ R0 ≤ 65536 := by
    have h1 := zrmF_in (X.2.1 m) (d := 0) (by decide) 0 0
    rw [← zroom_F hvl, hR0] at h1
    exact h1
  have hw := zshr_le (X.1 m) (X.2.1 m)
  rw [hR0] at hw
  refine zCt.of (by decide) rfl (Nat.le_of_ble_eq_true rfl) (fun K C => ?_)
  have fin : ∀ (r p q k : Int), r = R0 → p = 256 → q = Bl 256 → K 251 [some (zr 1), some (zi m), some (zi r), some (zi p), some (zi q), some (zi k), none, none, none, none, none, none, none] [] n σ 0 := by
    intro r p q k e1 e2 e3
    subst e1 e2 e3
    refine x_iload_n C dL_holds_251 rfl ?_
    refine x_sipush C dL_holds_252 (by decide) ?_
    refine x_icmp_ne (tgt := 321) C dL_holds_255 (by decide) (by omega) (fun c255 => ?_) (fun c255 => ?_)
    · exact absurd rfl c255
    · refine x_iload_n C dL_holds_258 rfl ?_
      refine x_aload_n C dL_holds_259 rfl ?_
      refine x_iload_n C dL_holds_260 rfl ?_
      refine x_iconst C dL_holds_261 ?_
      refine x_callV C dL_holds_262 (ctX5_of R m 0 hm (by decide) hbb) okX5_of lkL_18 ⟨⟨hB0, rfl, rfl⟩, (by omega)⟩ ⟨by decide, rfl, rfl, Nat.le_of_ble_eq_true rfl⟩ rfl (Or.inl ⟨rfl, rfl⟩) ?_
      rw [o0]
      refine x_icmp_ne (tgt := 321) C dL_holds_265 (by decide) (by omega) (fun c265 => ?_) (fun c265 => ?_)
      · exact absurd rfl c265
      · refine x_iload C dL_holds_268 rfl ?_
        refine x_aload_n C dL_holds_270 rfl ?_
        refine x_iload_n C dL_holds_271 rfl ?_
        refine x_iconst C dL_holds_272 ?_
        refine x_callV C dL_holds_273 (ctX5_of R m 2 hm (by decide) hbb) okX5_of lkL_18 ⟨⟨hB0, rfl, rfl⟩, (by omega)⟩ ⟨by decide, rfl, rfl, Nat.le_of_ble_eq_true rfl⟩ rfl (Or.inl ⟨rfl, rfl⟩) ?_
        rw [o2]
        refine x_aload_n C dL_holds_276 rfl ?_
        refine x_iload_n C dL_holds_277 rfl ?_
        refine x_iconst C dL_holds_278 ?_
        refine x_callV C dL_holds_279 (ctX5_of R m 3 hm (by decide) hbb) okX5_of lkL_18 ⟨⟨hB0, rfl, rfl⟩, (by omega)⟩ ⟨by decide, rfl, rfl, Nat.le_of_ble_eq_true rfl⟩ rfl (Or.inl ⟨rfl, rfl⟩) ?_
        rw [o3]
        refine x_iadd C dL_holds_282 ?_
        refine x_aload_n C dL_holds_283 rfl ?_
        refine x_iload_n C dL_holds_284 rfl ?_
        refine x_iconst C dL_holds_285 ?_
        refine x_callV C dL_holds_286 (ctX5_of R m 4 hm (by decide) hbb) okX5_of lkL_18 ⟨⟨hB0, rfl, rfl⟩, (by omega)⟩ ⟨by decide, rfl, rfl, Nat.le_of_ble_eq_true rfl⟩ rfl (Or.inl ⟨rfl, rfl⟩) ?_
        rw [o4]
        refine x_iadd C dL_holds_289 ?_
        refine x_icmp_ne (tgt := 321) C dL_holds_290 (by decide) (by omega) (fun c290 => ?_) (fun c290 => ?_)
        · exact absurd LC c290
        · refine x_iload C dL_holds_293 rfl ?_
          refine x_iconst C dL_holds_295 ?_
          refine x_iconst C dL_holds_296 ?_
          refine x_aload_n C dL_holds_297 rfl ?_
          refine x_iload_n C dL_holds_298 rfl ?_
          refine x_iconst C dL_holds_299 ?_
          refine x_callV C dL_holds_300 (ctX5_of R m 5 hm (by decide) hbb) okX5_of lkL_18 ⟨⟨hB0, rfl, rfl⟩, (by omega)⟩ ⟨by decide, rfl, rfl, Nat.le_of_ble_eq_true rfl⟩ rfl (Or.inl ⟨rfl, rfl⟩) ?_
          rw [o5]
          refine x_imul C dL_holds_303 ?_
          refine x_iadd C dL_holds_304 ?_
          refine x_icmp_ne (tgt := 321) C dL_holds_305 (by decide) (by omega) (fun c305 => ?_) (fun c305 => ?_)
          · exact absurd LE c305
          · refine x_aload_n C dL_holds_308 rfl ?_
            refine x_iload_n C dL_holds_309 rfl ?_
            refine x_callV C dL_holds_310 (ctX5_wouldTake R m hm) okX5_wouldTake lkL_83 ⟨⟨hB0, rfl, rfl⟩, (by omega)⟩ ⟨by decide, rfl, rfl, Nat.le_of_ble_eq_true rfl⟩ rfl (Or.inl ⟨rfl, rfl⟩) ?_
            refine x_iload_n C dL_holds_313 rfl ?_
            refine x_icmp_gt (tgt := 321) C dL_holds_314 (by decide) (by omega) (fun c314 => ?_) (fun c314 => ?_)
            · exact absurd hw.2 (by omega)
            · refine x_iconst C dL_holds_317 ?_
              refine x_goto (tgt := 322) C dL_holds_318 (by decide) ?_
              exact x_zret (st := []) (b := true) C dL_holds_322 rfl ⟨rfl, rfl, rfl, rfl⟩
  have loop : ∀ k : Nat, k ≤ 256 → K 15 [some (zr 1), some (zi m), some (zi (C3 + Rm k)), some (zi (Pl k)), some (zi (Bl k)), some (zi (k : Int)), none, none, none, none, none, none, none] [] n σ 0 := by
    refine zloop _ 256 (fun k hk ih => ?_)
    by_cases hkk : k < 256
    case neg =>
      obtain rfl : k = 256 := by omega
      have hfin := fin (C3 + Rm 256) (Pl 256) (Bl 256) 256 ME PE rfl
      refine x_iload C dL_holds_15 rfl ?_
      refine x_sipush C dL_holds_17 (by decide) ?_
      refine x_icmp_ge (tgt := 251) C dL_holds_20 (by decide) (by omega) (fun c20 => ?_) (fun c20 => ?_)
      · exact hfin
      · exact absurd c20 (by omega)
    have hrr : 0 ≤ (k : Int) / 16 ∧ (k : Int) / 16 < 16 := by omega
    have hcc : 0 ≤ (k : Int) % 16 ∧ (k : Int) % 16 < 16 := by omega
    have hd := zdp_in (X.2.1 m) ((k : Int) / 16) ((k : Int) % 16)
    have ih := ih hkk
    have Ps := Ps k
    have Ms := Ms k
    have Ls := Ls k
    have hits := hbd ((k : Int) / 16 * 16 + (k : Int) % 16)
    have hez2 := hez
    obtain ⟨row, hrow⟩ : ∃ x : Int, x = (k : Int) / 16 := ⟨_, rfl⟩
    obtain ⟨col, hcol⟩ : ∃ x : Int, x = (k : Int) % 16 := ⟨_, rfl⟩
    rw [← hrow] at hrr hd hits Ps Ms Ls
    rw [← hcol] at hcc hd hits Ps Ms Ls
    obtain ⟨dp, hdp⟩ : ∃ x, zdp (X.2.1 m) row col = x := ⟨_, rfl⟩
    rw [hdp] at hd
    have hzv := zsz_v hd
    obtain ⟨z, hz⟩ : ∃ x, zsz dp = x := ⟨_, rfl⟩
    rw [hz] at hzv
    have hz4 : z = 16 ∨ z = 8 ∨ z = 4 ∨ z = 2 := by omega
    have hf1 := zdvz hz4 hrr.1
    have hf2 := zdvz hz4 hcc.1
    obtain ⟨fi, hfi⟩ : ∃ x, row / z * z = x := ⟨_, rfl⟩
    obtain ⟨le, hle⟩ : ∃ x, col / z * z = x := ⟨_, rfl⟩
    obtain ⟨s, hs⟩ : ∃ x, X.2.1 m (zno dp row col) = x := ⟨_, rfl⟩
    have hsr := hst (zno dp row col)
    rw [hs] at hsr
    have b0 : zbq (X.2.1 m) row col 0 = s := by unfold zbq; rw [if_pos rfl, hdp, hs]
    have b1 : zbq (X.2.1 m) row col 1 = z := by unfold zbq; rw [if_neg (by decide), if_pos rfl, hdp, hz]
    have b2 : zbq (X.2.1 m) row col 2 = fi := by unfold zbq; rw [if_neg (by decide), if_neg (by decide), if_pos rfl, hdp, hz, hfi]
    have b3 : zbq (X.2.1 m) row col 3 = le := by unfold zbq; rw [if_neg (by decide), if_neg (by decide), if_neg (by decide), if_pos rfl, hdp, hz, hle]
    have b4 : zbq (X.2.1 m) row col 4 = zrm s z := by unfold zbq; rw [if_neg (by decide), if_neg (by decide), if_neg (by decide), if_neg (by decide), if_pos rfl, hdp, hz, hs]
    have b5 : zbq (X.2.1 m) row col 5 = dp := by unfold zbq; rw [if_neg (by decide), if_neg (by decide), if_neg (by decide), if_neg (by decide), if_neg (by decide), if_pos rfl, hdp]
    have hsh : z * 2 ^ dp.toNat = 16 := by
      rcases hzv with ⟨a, a2⟩ | ⟨a, a2⟩ | ⟨a, a2⟩ | ⟨a, a2⟩ <;> rw [a, a2] <;> decide
    rw [zcf_b _ hdp hz hfi hle] at Ps Ms Ls
    have hzs : X.2.1 m (zmn dp (row / z) (col / z)) = s := by rw [← hs, zmn_no, hz]
    rw [hzs] at Ms
    rw [hz] at Ps Ms
    rw [hfi] at hf1
    rw [hle] at hf2
    have hze : s = 0 → X.1 m (row * 16 + col) = 0 := fun q => by
      by_cases h3 : dp = 3 ∧ X.2.1 m (zno 3 row col) = 3
      · rw [h3.1, h3.2] at hs
        omega
      · have hup := zdp_up (X.2.1 m) row col
        rw [hdp] at hup
        have hv : zvis (X.2.1 m) dp (row / zsz dp) (col / zsz dp) = true := by
          have h4 := zvis_p (t := X.2.1 m) (row := row) (col := col) dp.toNat (by omega) (fun a ha => hup a (by omega))
          rw [Int.toNat_of_nonneg hd.1] at h4
          exact h4
        rw [hz] at hv
        have hzz := zsz_p2 hd
        rw [hz] at hzz
        have hr2 : 0 ≤ row / z ∧ row / z < zp2 dp := ⟨Int.ediv_nonneg hrr.1 (by omega), Int.ediv_lt_of_lt_mul (by omega) (by rw [Int.mul_comm, hzz]; omega)⟩
        have hc2 : 0 ≤ col / z ∧ col / z < zp2 dp := ⟨Int.ediv_nonneg hcc.1 (by omega), Int.ediv_lt_of_lt_mul (by omega) (by rw [Int.mul_comm, hzz]; omega)⟩
        have h5 := hez2 dp (row / z) (col / z) hd hr2 hc2 hv (hzs.trans q)
        rw [hz, hfi, hle] at h5
        exact h5 row col hf1.1 hf1.2.1 hf2.1 hf2.2.1
    obtain ⟨its, hit⟩ : ∃ x, X.1 m (row * 16 + col) + 1000000 = x := ⟨_, rfl⟩
    have cont : ∀ r p q : Int, r = C3 + Rm (k + 1) → p = Pl (k + 1) → q = Bl (k + 1) → K 15 [some (zr 1), some (zi m), some (zi r), some (zi p), some (zi q), some (zi ((k : Int) + 1)), none, none, none, none, none, none, none] [] n σ 0 := by
      intro r p q e1 e2 e3
      subst e1 e2 e3
      exact ih
    have on : fi = row → le = col → K 92 [some (zr 1), some (zi m), some (zi (C3 + Rm k)), some (zi (Pl k)), some (zi (Bl k)), some (zi (k : Int)), some (zi row), some (zi col), some (zi z), some (zi fi), some (zi le), none, none] [zi 1] n σ 0 := by
      intro q1 q2
      rw [if_pos ⟨q1, q2⟩] at Ps Ms Ls
      refine x_istore C dL_holds_92 (by decide) ?_
      refine x_aload_n C dL_holds_94 rfl ?_
      refine x_iload_n C dL_holds_95 rfl ?_
      refine x_iload C dL_holds_96 rfl ?_
      refine x_iload C dL_holds_98 rfl ?_
      refine x_callV C dL_holds_100 (ctX5_at R m row col hm hrr hcc) okX5_at lkL_12 ⟨⟨hB0, rfl, rfl⟩, (by omega)⟩ ⟨by decide, rfl, rfl, Nat.le_of_ble_eq_true rfl⟩ rfl (Or.inl ⟨rfl, rfl⟩) ?_
      rw [hit]
      refine x_istore C dL_holds_103 (by decide) ?_
      refine x_iload_n C dL_holds_105 rfl ?_
      refine x_iload C dL_holds_106 rfl ?_
      refine x_if_eq (tgt := 119) C dL_holds_108 (by decide) (by omega) (fun c108 => ?_) (fun c108 => ?_)
      · exact absurd c108 (by decide)
      · refine x_iload C dL_holds_111 rfl ?_
        refine x_iload C dL_holds_113 rfl ?_
        refine x_imul C dL_holds_115 ?_
        refine x_goto (tgt := 120) C dL_holds_116 (by decide) ?_
        refine x_iadd C dL_holds_120 ?_
        refine x_istore_n C dL_holds_121 (by decide) ?_
        refine x_iload_n C dL_holds_122 rfl ?_
        refine x_iload C dL_holds_123 rfl ?_
        refine x_if_eq (tgt := 141) C dL_holds_125 (by decide) (by omega) (fun c125 => ?_) (fun c125 => ?_)
        · exact absurd c125 (by decide)
        · refine x_aload_n C dL_holds_128 rfl ?_
          refine x_iload_n C dL_holds_129 rfl ?_
          refine x_iload C dL_holds_130 rfl ?_
          refine x_iload C dL_holds_132 rfl ?_
          refine x_iconst C dL_holds_134 ?_
          refine x_callV C dL_holds_135 (ctX5_block R m row col 4 hm hrr hcc (by decide)) okX5_block lkL_78 ⟨⟨hB0, rfl, rfl⟩, (by omega)⟩ ⟨by decide, rfl, rfl, Nat.le_of_ble_eq_true rfl⟩ rfl (Or.inl ⟨rfl, rfl⟩) ?_
          rw [b4]
          refine x_goto (tgt := 142) C dL_holds_138 (by decide) ?_
          refine x_iadd C dL_holds_142 ?_
          refine x_istore_n C dL_holds_143 (by decide) ?_
          refine x_iload C dL_holds_144 rfl ?_
          refine x_iload C dL_holds_146 rfl ?_
          refine x_if_eq (tgt := 155) C dL_holds_148 (by decide) (by omega) (fun c148 => ?_) (fun c148 => ?_)
          · exact absurd c148 (by decide)
          · refine x_iconst C dL_holds_151 ?_
            refine x_goto (tgt := 156) C dL_holds_152 (by decide) ?_
            refine x_iadd C dL_holds_156 ?_
            refine x_istore C dL_holds_157 (by decide) ?_
            refine x_iload C dL_holds_159 rfl ?_
            refine x_if_lt (tgt := 243) C dL_holds_161 (by decide) (by omega) (fun c161 => ?_) (fun c161 => ?_)
            · exact absurd c161 (by omega)
            · refine x_iload C dL_holds_164 rfl ?_
              refine x_ldc (v := 2000000) C dL_holds_166 kcL_81 (by decide) ?_
              refine x_icmp_gt (tgt := 243) C dL_holds_168 (by decide) (by omega) (fun c168 => ?_) (fun c168 => ?_)
              · exact absurd c168 (by omega)
              · refine x_iload C dL_holds_171 rfl ?_
                refine x_iload C dL_holds_173 rfl ?_
                refine x_icmp_lt (tgt := 243) C dL_holds_175 (by decide) (by omega) (fun c175 => ?_) (fun c175 => ?_)
                · exact absurd c175 (by omega)
                · refine x_iload C dL_holds_178 rfl ?_
                  refine x_iload C dL_holds_180 rfl ?_
                  refine x_iload C dL_holds_182 rfl ?_
                  refine x_iadd C dL_holds_184 ?_
                  refine x_icmp_ge (tgt := 243) C dL_holds_185 (by decide) (by omega) (fun c185 => ?_) (fun c185 => ?_)
                  · exact absurd c185 (by omega)
                  · refine x_iload C dL_holds_188 rfl ?_
                    refine x_iload C dL_holds_190 rfl ?_
                    refine x_icmp_lt (tgt := 243) C dL_holds_192 (by decide) (by omega) (fun c192 => ?_) (fun c192 => ?_)
                    · exact absurd c192 (by omega)
                    · refine x_iload C dL_holds_195 rfl ?_
                      refine x_iload C dL_holds_197 rfl ?_
                      refine x_iload C dL_holds_199 rfl ?_
                      refine x_iadd C dL_holds_201 ?_
                      refine x_icmp_ge (tgt := 243) C dL_holds_202 (by decide) (by omega) (fun c202 => ?_) (fun c202 => ?_)
                      · exact absurd c202 (by omega)
                      · refine x_iload C dL_holds_205 rfl ?_
                        refine x_aload_n C dL_holds_207 rfl ?_
                        refine x_iload_n C dL_holds_208 rfl ?_
                        refine x_iload C dL_holds_209 rfl ?_
                        refine x_iload C dL_holds_211 rfl ?_
                        refine x_iconst C dL_holds_213 ?_
                        refine x_callV C dL_holds_214 (ctX5_block R m row col 5 hm hrr hcc (by decide)) okX5_block lkL_78 ⟨⟨hB0, rfl, rfl⟩, (by omega)⟩ ⟨by decide, rfl, rfl, Nat.le_of_ble_eq_true rfl⟩ rfl (Or.inl ⟨rfl, rfl⟩) ?_
                        rw [b5]
                        refine x_ishl C dL_holds_217 (by omega) ?_
                        rw [hsh]
                        refine x_bipush C dL_holds_218 (by decide) ?_
                        refine x_icmp_ne (tgt := 243) C dL_holds_220 (by decide) (by omega) (fun c220 => ?_) (fun c220 => ?_)
                        · exact absurd rfl c220
                        · refine x_aload_n C dL_holds_223 rfl ?_
                          refine x_iload_n C dL_holds_224 rfl ?_
                          refine x_iload C dL_holds_225 rfl ?_
                          refine x_iload C dL_holds_227 rfl ?_
                          refine x_iconst C dL_holds_229 ?_
                          refine x_callV C dL_holds_230 (ctX5_block R m row col 0 hm hrr hcc (by decide)) okX5_block lkL_78 ⟨⟨hB0, rfl, rfl⟩, (by omega)⟩ ⟨by decide, rfl, rfl, Nat.le_of_ble_eq_true rfl⟩ rfl (Or.inl ⟨rfl, rfl⟩) ?_
                          rw [b0]
                          refine x_if_ne (tgt := 245) C dL_holds_233 (by decide) (by omega) (fun c233 => ?_) (fun c233 => ?_)
                          · refine x_iinc C dL_holds_245 rfl (by decide) ?_
                            refine x_goto (tgt := 15) C dL_holds_248 (by decide) ?_
                            exact x_wk C rfl (cont _ _ _ (by omega) (by omega) (by omega))
                          · refine x_iload C dL_holds_236 rfl ?_
                            refine x_ldc (v := 1000000) C dL_holds_238 kcL_82 (by decide) ?_
                            refine x_icmp_eq (tgt := 245) C dL_holds_240 (by decide) (by omega) (fun c240 => ?_) (fun c240 => ?_)
                            · refine x_iinc C dL_holds_245 rfl (by decide) ?_
                              refine x_goto (tgt := 15) C dL_holds_248 (by decide) ?_
                              exact x_wk C rfl (cont _ _ _ (by omega) (by omega) (by omega))
                            · exact absurd (show its = 1000000 by have := hze c233; omega) c240
    have off : ¬ (fi = row ∧ le = col) → K 92 [some (zr 1), some (zi m), some (zi (C3 + Rm k)), some (zi (Pl k)), some (zi (Bl k)), some (zi (k : Int)), some (zi row), some (zi col), some (zi z), some (zi fi), some (zi le), none, none] [zi 0] n σ 0 := by
      intro q1
      rw [if_neg q1] at Ps Ms Ls
      refine x_istore C dL_holds_92 (by decide) ?_
      refine x_aload_n C dL_holds_94 rfl ?_
      refine x_iload_n C dL_holds_95 rfl ?_
      refine x_iload C dL_holds_96 rfl ?_
      refine x_iload C dL_holds_98 rfl ?_
      refine x_callV C dL_holds_100 (ctX5_at R m row col hm hrr hcc) okX5_at lkL_12 ⟨⟨hB0, rfl, rfl⟩, (by omega)⟩ ⟨by decide, rfl, rfl, Nat.le_of_ble_eq_true rfl⟩ rfl (Or.inl ⟨rfl, rfl⟩) ?_
      rw [hit]
      refine x_istore C dL_holds_103 (by decide) ?_
      refine x_iload_n C dL_holds_105 rfl ?_
      refine x_iload C dL_holds_106 rfl ?_
      refine x_if_eq (tgt := 119) C dL_holds_108 (by decide) (by omega) (fun c108 => ?_) (fun c108 => ?_)
      · refine x_iconst C dL_holds_119 ?_
        refine x_iadd C dL_holds_120 ?_
        refine x_istore_n C dL_holds_121 (by decide) ?_
        refine x_iload_n C dL_holds_122 rfl ?_
        refine x_iload C dL_holds_123 rfl ?_
        refine x_if_eq (tgt := 141) C dL_holds_125 (by decide) (by omega) (fun c125 => ?_) (fun c125 => ?_)
        · refine x_iconst C dL_holds_141 ?_
          refine x_iadd C dL_holds_142 ?_
          refine x_istore_n C dL_holds_143 (by decide) ?_
          refine x_iload C dL_holds_144 rfl ?_
          refine x_iload C dL_holds_146 rfl ?_
          refine x_if_eq (tgt := 155) C dL_holds_148 (by decide) (by omega) (fun c148 => ?_) (fun c148 => ?_)
          · refine x_iconst C dL_holds_155 ?_
            refine x_iadd C dL_holds_156 ?_
            refine x_istore C dL_holds_157 (by decide) ?_
            refine x_iload C dL_holds_159 rfl ?_
            refine x_if_lt (tgt := 243) C dL_holds_161 (by decide) (by omega) (fun c161 => ?_) (fun c161 => ?_)
            · exact absurd c161 (by omega)
            · refine x_iload C dL_holds_164 rfl ?_
              refine x_ldc (v := 2000000) C dL_holds_166 kcL_81 (by decide) ?_
              refine x_icmp_gt (tgt := 243) C dL_holds_168 (by decide) (by omega) (fun c168 => ?_) (fun c168 => ?_)
              · exact absurd c168 (by omega)
              · refine x_iload C dL_holds_171 rfl ?_
                refine x_iload C dL_holds_173 rfl ?_
                refine x_icmp_lt (tgt := 243) C dL_holds_175 (by decide) (by omega) (fun c175 => ?_) (fun c175 => ?_)
                · exact absurd c175 (by omega)
                · refine x_iload C dL_holds_178 rfl ?_
                  refine x_iload C dL_holds_180 rfl ?_
                  refine x_iload C dL_holds_182 rfl ?_
                  refine x_iadd C dL_holds_184 ?_
                  refine x_icmp_ge (tgt := 243) C dL_holds_185 (by decide) (by omega) (fun c185 => ?_) (fun c185 => ?_)
                  · exact absurd c185 (by omega)
                  · refine x_iload C dL_holds_188 rfl ?_
                    refine x_iload C dL_holds_190 rfl ?_
                    refine x_icmp_lt (tgt := 243) C dL_holds_192 (by decide) (by omega) (fun c192 => ?_) (fun c192 => ?_)
                    · exact absurd c192 (by omega)
                    · refine x_iload C dL_holds_195 rfl ?_
                      refine x_iload C dL_holds_197 rfl ?_
                      refine x_iload C dL_holds_199 rfl ?_
                      refine x_iadd C dL_holds_201 ?_
                      refine x_icmp_ge (tgt := 243) C dL_holds_202 (by decide) (by omega) (fun c202 => ?_) (fun c202 => ?_)
                      · exact absurd c202 (by omega)
                      · refine x_iload C dL_holds_205 rfl ?_
                        refine x_aload_n C dL_holds_207 rfl ?_
                        refine x_iload_n C dL_holds_208 rfl ?_
                        refine x_iload C dL_holds_209 rfl ?_
                        refine x_iload C dL_holds_211 rfl ?_
                        refine x_iconst C dL_holds_213 ?_
                        refine x_callV C dL_holds_214 (ctX5_block R m row col 5 hm hrr hcc (by decide)) okX5_block lkL_78 ⟨⟨hB0, rfl, rfl⟩, (by omega)⟩ ⟨by decide, rfl, rfl, Nat.le_of_ble_eq_true rfl⟩ rfl (Or.inl ⟨rfl, rfl⟩) ?_
                        rw [b5]
                        refine x_ishl C dL_holds_217 (by omega) ?_
                        rw [hsh]
                        refine x_bipush C dL_holds_218 (by decide) ?_
                        refine x_icmp_ne (tgt := 243) C dL_holds_220 (by decide) (by omega) (fun c220 => ?_) (fun c220 => ?_)
                        · exact absurd rfl c220
                        · refine x_aload_n C dL_holds_223 rfl ?_
                          refine x_iload_n C dL_holds_224 rfl ?_
                          refine x_iload C dL_holds_225 rfl ?_
                          refine x_iload C dL_holds_227 rfl ?_
                          refine x_iconst C dL_holds_229 ?_
                          refine x_callV C dL_holds_230 (ctX5_block R m row col 0 hm hrr hcc (by decide)) okX5_block lkL_78 ⟨⟨hB0, rfl, rfl⟩, (by omega)⟩ ⟨by decide, rfl, rfl, Nat.le_of_ble_eq_true rfl⟩ rfl (Or.inl ⟨rfl, rfl⟩) ?_
                          rw [b0]
                          refine x_if_ne (tgt := 245) C dL_holds_233 (by decide) (by omega) (fun c233 => ?_) (fun c233 => ?_)
                          · refine x_iinc C dL_holds_245 rfl (by decide) ?_
                            refine x_goto (tgt := 15) C dL_holds_248 (by decide) ?_
                            exact x_wk C rfl (cont _ _ _ (by omega) (by omega) (by omega))
                          · refine x_iload C dL_holds_236 rfl ?_
                            refine x_ldc (v := 1000000) C dL_holds_238 kcL_82 (by decide) ?_
                            refine x_icmp_eq (tgt := 245) C dL_holds_240 (by decide) (by omega) (fun c240 => ?_) (fun c240 => ?_)
                            · refine x_iinc C dL_holds_245 rfl (by decide) ?_
                              refine x_goto (tgt := 15) C dL_holds_248 (by decide) ?_
                              exact x_wk C rfl (cont _ _ _ (by omega) (by omega) (by omega))
                            · exact absurd (show its = 1000000 by have := hze c233; omega) c240
          · exact absurd rfl c148
        · exact absurd rfl c125
      · exact absurd rfl c108
    refine x_iload C dL_holds_15 rfl ?_
    refine x_sipush C dL_holds_17 (by decide) ?_
    refine x_icmp_ge (tgt := 251) C dL_holds_20 (by decide) (by omega) (fun c20 => ?_) (fun c20 => ?_)
    · exact absurd c20 (by omega)
    · refine x_iload C dL_holds_23 rfl ?_
      refine x_bipush C dL_holds_25 (by decide) ?_
      refine x_idiv C dL_holds_27 (by omega) ?_
      rw [← hrow]
      refine x_istore C dL_holds_28 (by decide) ?_
      refine x_iload C dL_holds_30 rfl ?_
      refine x_bipush C dL_holds_32 (by decide) ?_
      refine x_irem C dL_holds_34 (by omega) ?_
      rw [← hcol]
      refine x_istore C dL_holds_35 (by decide) ?_
      refine x_aload_n C dL_holds_37 rfl ?_
      refine x_iload_n C dL_holds_38 rfl ?_
      refine x_iload C dL_holds_39 rfl ?_
      refine x_iload C dL_holds_41 rfl ?_
      refine x_iconst C dL_holds_43 ?_
      refine x_callV C dL_holds_44 (ctX5_block R m row col 1 hm hrr hcc (by decide)) okX5_block lkL_78 ⟨⟨hB0, rfl, rfl⟩, (by omega)⟩ ⟨by decide, rfl, rfl, Nat.le_of_ble_eq_true rfl⟩ rfl (Or.inl ⟨rfl, rfl⟩) ?_
      rw [b1]
      refine x_istore C dL_holds_47 (by decide) ?_
      refine x_aload_n C dL_holds_49 rfl ?_
      refine x_iload_n C dL_holds_50 rfl ?_
      refine x_iload C dL_holds_51 rfl ?_
      refine x_iload C dL_holds_53 rfl ?_
      refine x_iconst C dL_holds_55 ?_
      refine x_callV C dL_holds_56 (ctX5_block R m row col 2 hm hrr hcc (by decide)) okX5_block lkL_78 ⟨⟨hB0, rfl, rfl⟩, (by omega)⟩ ⟨by decide, rfl, rfl, Nat.le_of_ble_eq_true rfl⟩ rfl (Or.inl ⟨rfl, rfl⟩) ?_
      rw [b2]
      refine x_istore C dL_holds_59 (by decide) ?_
      refine x_aload_n C dL_holds_61 rfl ?_
      refine x_iload_n C dL_holds_62 rfl ?_
      refine x_iload C dL_holds_63 rfl ?_
      refine x_iload C dL_holds_65 rfl ?_
      refine x_iconst C dL_holds_67 ?_
      refine x_callV C dL_holds_68 (ctX5_block R m row col 3 hm hrr hcc (by decide)) okX5_block lkL_78 ⟨⟨hB0, rfl, rfl⟩, (by omega)⟩ ⟨by decide, rfl, rfl, Nat.le_of_ble_eq_true rfl⟩ rfl (Or.inl ⟨rfl, rfl⟩) ?_
      rw [b3]
      refine x_istore C dL_holds_71 (by decide) ?_
      refine x_iload C dL_holds_73 rfl ?_
      refine x_iload C dL_holds_75 rfl ?_
      refine x_icmp_ne (tgt := 91) C dL_holds_77 (by decide) (by omega) (fun c77 => ?_) (fun c77 => ?_)
      · refine x_iconst C dL_holds_91 ?_
        exact off (fun w => c77 w.1)
      · refine x_iload C dL_holds_80 rfl ?_
        refine x_iload C dL_holds_82 rfl ?_
        refine x_icmp_ne (tgt := 91) C dL_holds_84 (by decide) (by omega) (fun c84 => ?_) (fun c84 => ?_)
        · refine x_iconst C dL_holds_91 ?_
          exact off (fun w => c84 w.2)
        · refine x_iconst C dL_holds_87 ?_
          refine x_goto (tgt := 92) C dL_holds_88 (by decide) ?_
          exact on (by omega) (by omega)
  have l0 := loop 0 (by omega)
  rw [P0, M0, L0, Int.add_zero] at l0
  refine x_aload_n C dL_holds_0 rfl ?_
  refine x_iload_n C dL_holds_1 rfl ?_
  refine x_iconst C dL_holds_2 ?_
  refine x_callV C dL_holds_3 (ctX5_of R m 5 hm (by decide) hbb) okX5_of lkL_18 ⟨⟨hB0, rfl, rfl⟩, (by omega)⟩ ⟨by decide, rfl, rfl, Nat.le_of_ble_eq_true rfl⟩ rfl (Or.inl ⟨rfl, rfl⟩) ?_
  rw [o5]
  refine x_istore_n C dL_holds_6 (by decide) ?_
  refine x_iconst C dL_holds_7 ?_
  refine x_istore_n C dL_holds_8 (by decide) ?_
  refine x_iconst C dL_holds_9 ?_
  refine x_istore C dL_holds_10 (by decide) ?_
  refine x_iconst C dL_holds_12 ?_
  refine x_istore C dL_holds_13 (by decide) ?_
  exact l0
end
