/-! the law's loop, its two objects, and the claim -/
theorem law_loop {nm : String} {b L : Nat} {xs : Nat → Int32} {K : zKT} (Z : zLC nm b L xs K) (hL : L ≤ 2560) : ∀ (f : Nat) (i : Int) (σ : zS), zAll σ 155 → (0 ≤ i ∧ i ≤ L) → (L : Int) - i < f → K 18 (zlo i) [] 155 σ 28132
  | 0, i, σ, R, hi, hf => absurd hf (by omega)
  | f + 1, i, σ, R, hi0, hf => by
    have C := Z.C
    refine x_iload_n C dL_law_18 rfl ?_
    refine x_aload_n C dL_law_19 rfl ?_
    refine x_slen Z dL_law_20 ?_
    refine x_iconst C dL_law_21 ?_
    refine x_isub C dL_law_22 ?_
    refine x_icmp_gt (tgt := 934) C dL_law_23 (by decide) (by omega) (fun q => ?_) (fun q => ?_)
    · refine x_iconst C dL_law_934 ?_
      exact x_zret (b := true) (st := []) C dL_law_935 rfl rfl
    · have hi : 0 ≤ i ∧ i + 5 ≤ L := by omega
      have step : ∀ σ2 : zS, zAll σ2 155 → K 928 (zlo i) [] 155 σ2 28132 := fun σ2 R2 => by
        refine x_iinc C dL_law_928 rfl (by decide) ?_
        refine x_goto (tgt := 18) C dL_law_931 (by decide) ?_
        exact law_loop Z hL f (i + 5) σ2 R2 (by omega) (by omega)
      refine x_aload_n C dL_law_26 rfl ?_
      refine x_iload_n C dL_law_27 rfl ?_
      refine x_sld Z hL dL_law_28 (by omega) ?_
      refine x_bipush C dL_law_29 (by decide) ?_
      refine x_iand C dL_law_31 ?_
      have hv := zand_in (zxs xs i) 31
      generalize zand (zxs xs i) 31 = v at hv ⊢
      by_cases hr : v < 0 ∨ 23 < v
      · exact x_tableOut (tgt := 928) C dL_law_32 ⟨hv, hr⟩ (by decide) (step σ R)
      · have hc : v = 0 ∨ v = 1 ∨ v = 2 ∨ v = 3 ∨ v = 4 ∨ v = 5 ∨ v = 6 ∨ v = 7 ∨ v = 8 ∨ v = 9 ∨ v = 10 ∨ v = 11 ∨ v = 12 ∨ v = 13 ∨ v = 14 ∨ v = 15 ∨ v = 16 ∨ v = 17 ∨ v = 18 ∨ v = 19 ∨ v = 20 ∨ v = 21 ∨ v = 22 ∨ v = 23 := by omega
        rcases hc with rfl | rfl | rfl | rfl | rfl | rfl | rfl | rfl | rfl | rfl | rfl | rfl | rfl | rfl | rfl | rfl | rfl | rfl | rfl | rfl | rfl | rfl | rfl | rfl
        · exact x_tableIn (off := 112) (tgt := 144) C dL_law_32 ⟨hv, by decide, by decide⟩ rfl (by decide) (lc_tell Z hL hi R step)
        · exact x_tableIn (off := 135) (tgt := 167) C dL_law_32 ⟨hv, by decide, by decide⟩ rfl (by decide) (lc_entry Z hL hi R step)
        · exact x_tableIn (off := 188) (tgt := 220) C dL_law_32 ⟨hv, by decide, by decide⟩ rfl (by decide) (lc_shrink Z hL hi R step)
        · exact x_tableIn (off := 211) (tgt := 243) C dL_law_32 ⟨hv, by decide, by decide⟩ rfl (by decide) (lc_add Z hL hi R step)
        · exact x_tableIn (off := 254) (tgt := 286) C dL_law_32 ⟨hv, by decide, by decide⟩ rfl (by decide) (lc_turn Z hL hi R step)
        · exact x_tableIn (off := 277) (tgt := 309) C dL_law_32 ⟨hv, by decide, by decide⟩ rfl (by decide) (lc_copy Z hL hi R step)
        · exact x_tableIn (off := 310) (tgt := 342) C dL_law_32 ⟨hv, by decide, by decide⟩ rfl (by decide) (lc_clear Z hL hi R step)
        · exact x_tableIn (off := 353) (tgt := 385) C dL_law_32 ⟨hv, by decide, by decide⟩ rfl (by decide) (lc_at Z hL hi R step)
        · exact x_tableIn (off := 396) (tgt := 428) C dL_law_32 ⟨hv, by decide, by decide⟩ rfl (by decide) (lc_block Z hL hi R step)
        · exact x_tableIn (off := 449) (tgt := 481) C dL_law_32 ⟨hv, by decide, by decide⟩ rfl (by decide) (lc_of Z hL hi R step)
        · exact x_tableIn (off := 482) (tgt := 514) C dL_law_32 ⟨hv, by decide, by decide⟩ rfl (by decide) (lc_product Z hL hi R step)
        · exact x_tableIn (off := 536) (tgt := 568) C dL_law_32 ⟨hv, by decide, by decide⟩ rfl (by decide) (lc_mean Z hL hi R step)
        · exact x_tableIn (off := 560) (tgt := 592) C dL_law_32 ⟨hv, by decide, by decide⟩ rfl (by decide) (lc_share Z hL hi R step)
        · exact x_tableIn (off := 583) (tgt := 615) C dL_law_32 ⟨hv, by decide, by decide⟩ rfl (by decide) (lc_count Z hL hi R step)
        · exact x_tableIn (off := 606) (tgt := 638) C dL_law_32 ⟨hv, by decide, by decide⟩ rfl (by decide) (lc_far Z hL hi R step)
        · exact x_tableIn (off := 639) (tgt := 671) C dL_law_32 ⟨hv, by decide, by decide⟩ rfl (by decide) (lc_wouldTake Z hL hi R step)
        · exact x_tableIn (off := 662) (tgt := 694) C dL_law_32 ⟨hv, by decide, by decide⟩ rfl (by decide) (lc_isOne Z hL hi R step)
        · exact x_tableIn (off := 715) (tgt := 747) C dL_law_32 ⟨hv, by decide, by decide⟩ rfl (by decide) (lc_bestTimes Z hL hi R step)
        · exact x_tableIn (off := 758) (tgt := 790) C dL_law_32 ⟨hv, by decide, by decide⟩ rfl (by decide) (lc_put Z hL hi R step)
        · exact x_tableIn (off := 811) (tgt := 843) C dL_law_32 ⟨hv, by decide, by decide⟩ rfl (by decide) (lc_wipe Z hL hi R step)
        · exact x_tableIn (off := 824) (tgt := 856) C dL_law_32 ⟨hv, by decide, by decide⟩ rfl (by decide) (lc_fault Z hL hi R step)
        · exact x_tableIn (off := 837) (tgt := 869) C dL_law_32 ⟨hv, by decide, by decide⟩ rfl (by decide) (lc_undo Z hL hi R step)
        · exact x_tableIn (off := 850) (tgt := 882) C dL_law_32 ⟨hv, by decide, by decide⟩ rfl (by decide) (lc_save Z hL hi R step)
        · exact x_tableIn (off := 873) (tgt := 905) C dL_law_32 ⟨hv, by decide, by decide⟩ rfl (by decide) (lc_restore Z hL hi R step)
theorem law_all {nm : String} {b L : Nat} {xs : Nat → Int32} {K : zKT} (Z : zLC nm b L xs K) (hL : L ≤ 2560) (σ : zS) : K 0 (zen 4 [zr 0]) [] 0 σ 0 := by
  have C := Z.C
  refine x_new (ci := 5) C dL_law_0 rfl ⟨klL_7, kiX5.1, kiX5.2, inX5⟩ tyX5 tyX5_ok (fs := [zn, zn, zn, zn, zn, zn]) (fun g j hj => match j, hj with | 0, _ => rfl | 1, _ => rfl | 2, _ => rfl | 3, _ => rfl | 4, _ => rfl | 5, _ => rfl | _ + 6, h => absurd h (by omega)) (by omega) ?_
  refine x_nm (fun s0 e0 => ?_)
  rw [show ((0 : Nat) : Int) + 1 = 1 from rfl] at e0 ⊢
  have hB := (congrFun e0 1).trans (zsu_s _ _ _)
  refine x_dup C dL_law_3 rfl ?_
  refine x_callI C dL_law_4 (ctX5_init hB) okX5_init lkL_9 ⟨by decide, rfl, rfl, Nat.le_of_ble_eq_true rfl⟩ rfl (Or.inr (by omega)) ?_
  refine x_nm (fun s4 e4 => ?_)
  refine x_astore_n C dL_law_7 (by decide) ?_
  refine x_new (ci := 6) C dL_law_8 rfl ⟨klL_10, kiX6.1, kiX6.2, inX6⟩ tyX6 tyX6_ok (fs := [zi 0, zn, zn, zn, zi 0, zn, zn, zn, zi 0, zi 0, zi 0, zn, zn, zn, zi 0, zi 0, zi 0, zn]) (fun g j hj => match j, hj with | 0, _ => rfl | 1, _ => rfl | 2, _ => rfl | 3, _ => rfl | 4, _ => rfl | 5, _ => rfl | 6, _ => rfl | 7, _ => rfl | 8, _ => rfl | 9, _ => rfl | 10, _ => rfl | 11, _ => rfl | 12, _ => rfl | 13, _ => rfl | 14, _ => rfl | 15, _ => rfl | 16, _ => rfl | 17, _ => rfl | _ + 18, h => absurd h (by omega)) (by omega) ?_
  refine x_nm (fun s8 e8 => ?_)
  rw [show ((144 : Nat) : Int) + 1 = 145 from rfl] at e8 ⊢
  have hM := (congrFun e8 145).trans (zsu_s _ _ _)
  refine x_dup C dL_law_11 rfl ?_
  refine x_callI C dL_law_12 (ctX6_init hM) okX6_init lkL_12 ⟨by decide, rfl, rfl, Nat.le_of_ble_eq_true rfl⟩ rfl (Or.inr (by omega)) ?_
  refine x_nm (fun s12 e12 => ?_)
  refine x_astore_n C dL_law_15 (by decide) ?_
  refine x_iconst C dL_law_16 ?_
  refine x_istore_n C dL_law_17 (by decide) ?_
  have hI := zqI_is s8
  have R : zAll s12 155 := by
    refine ⟨zX0, 0, 0, fun _ => zX0, fun _ => (zX0, false), fun _ => 0, 0, fun _ => 0, fun _ => 0, fun _ => 0, fun _ => 0, fun _ => 0, zxF_is (σ := s0) (fun k h1 h2 => ?_), ?_, zPu_0⟩
    · rw [e12]
      refine (hI.2 k (by omega)).trans ?_
      rw [e8]
      refine (zsu_n _ _ (by omega)).trans ?_
      rw [e4]
    · rw [e12]
      exact hI.1
  exact law_loop Z hL (L + 1) 0 s12 R (by omega) (by omega)
/-- from the entry, for every script of at most 2560 ints, the law comes to its end with true -/
theorem whole_start {p : Program} {e : Env} {s : State} {m : MethodId} {below : List Frame} {meth : Method} {c : Code} (l : Launch) (hflags : l.flags = flags0) {b L : Nat} {xs : Nat → Int32} (hL : L ≤ 2560) (C0 : lw_At p s m meth c b L xs) : W p l e room_1 s m #[Value.ref b] below meth c s.heap [] 0 0 (lw_Z below #[Value.ref b] s) (entryFrame m ([Value.ref b] : List Value).toArray 4) := by
  obtain ⟨hx, hb, hr, hml, hown, hts, hX, hbl, hlocks, hgv⟩ := id C0
  obtain ⟨g, hg, hK⟩ := zK_start hts (b, s.heap.size - 1)
  have Z : zLC meth.name b L xs (zKL p l e s m b below meth c g) := ⟨p, l, e, s, m, below, meth, c, g, C0, rfl, hK, hg, rfl⟩
  have hH : zH g 0 (fun _ => zO 0 []) s.heap := by
    refine ⟨?_, ?_, fun k q h => ?_⟩
    · rw [hg]
      show s.heap.size - 1 + 1 + 0 ≤ _
      omega
    · rw [hg]
      show b ≤ s.heap.size - 1
      omega
    · rw [zW_get, if_neg (by omega)] at h
      cases h
  have key := law_all Z hL (fun _ => zO 0 []) _ s.heap [] (by omega) (zen_L g (ml := 4) (as := [zr 0]) (by decide)) hH va_S.rf
  rw [show List.map (zv g) [zr 0] = [Value.ref b] by rw [List.map_cons, zv_r0 hg]; rfl] at key
  rw [lg_entry_eq]
  exact key
set_option maxHeartbeats 4000000 in
theorem lw_walk (l : Launch) (hflags : l.flags = flags0) (b : Addr) (xs : List Int32) : MetFree l x (headSpec (Jvm.Cond.code x code maxLocals ret :: tables_1) room_1) (lw_P b xs) (fun _ _ _ _ _ => True) lw_Q := by
  refine MetFree.of_bodyS (code := code) (maxLocals := maxLocals) (ret := ret) (by decide) ?_ ?_
  · intro args s m h hn
    obtain ⟨meth, c, h1, h2, h3, h4, h5, h6, -, -⟩ := Cond.code_spec hn (atoms_spec (ws := Jvm.Cond.code x code maxLocals ret :: tables_1) h _ List.mem_cons_self)
    exact ⟨meth, c, h1, h2, h3, h4, h5, h6⟩
  · intro p e s m args below meth c s₁ B hml0 hP _
    obtain ⟨rfl, hx, hbd, hgv⟩ := hP
    obtain ⟨scr, harrAt, hlist, hof, hsmall⟩ := hx
    obtain ⟨hcb, hkn, -, -⟩ := State.arrayAt?_spec harrAt
    have hown : s.vm.findClass R_law = some m.cls := findClass_of_methodNamed B.named
    have hts0 : ∀ c ∈ (Jvm.Cond.code x code maxLocals ret :: tables_1), c.before #[Value.ref b] s = true := atoms_spec (ws := Jvm.Cond.code x code maxLocals ret :: tables_1) B.pre
    have hts : ∀ w ∈ lw_tbl, w.before #[Value.ref b] s = true := k2_hts_sels lw_privs (fun w hw => hts0 w (List.mem_cons_of_mem _ hw)) lw_privs_ok
    have hml : c.maxLocals = 4 := B.maxLocals_eq (hts0 _ List.mem_cons_self)
    have X₀ : Stand p l e room_1 s m #[Value.ref b] below meth c s₁ [] 0 0 := Stand.of_body B
    have hh0 : s₁.heap = s.heap := by rw [B.state]; rfl
    have hsz : scr.slots.size = xs.length := by rw [← Array.length_toList, hlist, List.length_map]
    have hval : ∀ j : Nat, j < xs.length → scr.slots[j]? = some (.int (xs.getD j 0)) := fun j hj => by
      rw [← Array.getElem?_toList, hlist]
      simp [hj]
    have hbl : b < s.heap.size := (Array.getElem?_eq_some_iff.mp hcb).1
    have hX : va_X b xs.length (fun j => xs.getD j 0) s s.heap := ⟨scr, hcb, hof, hkn, hsz, hval⟩
    have K : W p l e room_1 s m #[Value.ref b] below meth c s₁.heap [] 0 0 (lw_Z below #[Value.ref b] s) (entryFrame m ([Value.ref b] : List Value).toArray 4) := by
      rw [hh0]
      exact whole_start l hflags hbd ⟨B.exec, B.bytes, B.returns, hml, hown, hts, hX, hbl, B.notSynchronized, hgv⟩
    obtain ⟨t, a1, o, b1, b2, b3⟩ := K s₁ rfl X₀
    exact ⟨t, o, a1, b1, b2, b3⟩
theorem lw_pre_spec {args : Array Value} {s : State} (h : (Jvm.Cond.and given_1 narrow_1).before args s = true) (hr : rest_1_c.before args s = true) : ∃ (b : Addr) (xs : List Int32), lw_P b xs args s := by
  have hs := flat_of_before _ h
  have hq := flat_of_before _ hr
  have hc : (Cond.count 1).before args s = true := hs _ (by decide +kernel)
  have harr : (Cond.arrayOf (.arg 0) .int).before args s = true := hs _ (by decide +kernel)
  have hle : (Cond.le (.length (.arg 0)) (.int 2560)).before args s = true := hs _ (by decide +kernel)
  have hlen : (Cond.isInt (.length (.arg 0))).before args s = true := hq _ (by decide +kernel)
  have hall : (Cond.all (.arg 0) (.isInt (.elem (.arg 0) (.index 0)))).before args s = true := hq _ (by decide +kernel)
  obtain ⟨b, xs, hb, hx⟩ := State.ints_of_pre rfl harr hlen hall
  have hsm : xs.length < 2 ^ 31 := hx.choose_spec.2.2.2
  have hev : (Term.length (.arg 0)).eval args s none [] s = some (.int xs.length.toInt32) := hx.length_eval hb
  have hv := Cond.le_ints hev (show (Term.int 2560).eval args s none [] s = some (.int 2560) from rfl)
  have hd : xs.length.toInt32 ≤ 2560 := by
    simpa [Cond.before, Cond.holds, hv] using hle
  have hN : xs.length ≤ 2560 := (Int32.ofNat_le_ofNat hsm (by decide)).mp (show Int32.ofNat xs.length ≤ Int32.ofNat 2560 from hd)
  exact ⟨b, xs, Cond.one_arg hc (show args[0]? = some (.ref b) from hb), hx, hN, h⟩
theorem lw_comes (l : Launch) (hflags : l.flags = flags0) : Comes l x (Jvm.Cond.code x code maxLocals ret :: tables_1) room_1 (fun tb e args s => Calls_1 tb e args s ∧ rest_1 tb e args s ∧ Pre_1 tb e args s)
    (fun _ _ args s o t => lw_Q args s o t) := by
  intro p e ha hc hk s m args below hf hfit hheap happ hpre
  obtain ⟨b, xs, hP⟩ := lw_pre_spec hpre.2.2 hpre.2.1
  obtain ⟨k, o, h1, h2, h3, hQ⟩ := lw_walk l hflags b xs p e ha hc hk s m args below hf ((Spec.applies_iff_loose hf).mp happ).1 hP trivial
  exact ⟨k, o, h1, h2, h3, hQ⟩
theorem lw_frame {s t : State} {o : Outcome} {args : Array Value} (h : State.butDraws s t lw_cs (fun t1 => Framed s o t1 [] 600000 7302250)) :
    State.butDraws s t [Jvm.Choice.named "NaN.bits"] (fun t1 => Framed s o t1 (fieldLocs frame_1_writes args s ++ arrayLocs frame_1_arrays args s ++ staticLocs frame_1_statics s) 600000 7302250) := h
theorem lw_limb (L : Cond) (hL : ∀ (args : Array Value) (s t : State), L.after args s (.returned (some (.int 1))) t = true) :
    ArmFor flags0 classFile x code maxLocals ret World_1 tables_1 room_1 Calls_1 rest_1 Pre_1
      (fun tb e a s o t => postC L tb e a s o t ∧ State.butDraws s t [Jvm.Choice.named "NaN.bits"] (fun t1 => Framed s o t1 (fieldLocs frame_1_writes a s ++ arrayLocs frame_1_arrays a s ++ staticLocs frame_1_statics s) 600000 7302250)) := by
  intro l hflags _ _ p e ha hc hk s m args below hf hfit hheap happ hpre
  obtain ⟨k, o, h1, h2, h3, rfl, hF⟩ := lw_comes l hflags p e ha hc hk s m args below hf hfit hheap happ hpre
  exact ⟨k, _, h1, h2, h3, hL args s _, lw_frame hF⟩
theorem i_vc : Claimed_1_1 ∧ Claimed_1_2 := ⟨lw_limb limb_1_1 (fun args s t => by simp [limb_1_1, Cond.after, Cond.holds, Cond.value]), lw_limb limb_1_2 (fun args s t => Cond.after_iff.mpr (by
  first | (rw [show limb_1_2 = Cond.eq .result (.int 1) from rfl, Cond.eq_ints (x := 1) (y := 1) rfl rfl]; simp; done) | (simp [limb_1_2, Cond.value, Term.eval]; done)))⟩
