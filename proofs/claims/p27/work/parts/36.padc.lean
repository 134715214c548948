/-- what a reading changes: place, number, the matrix told, three rows -/
def zPS : Type := Int × (Int × ((Int → Int) × ((Int → Int) × ((Int → Int) × ((Int → Int) × (Int → Int))))))
def zps (p x : Int) (e t u v w : Int → Int) : zPS := (p, x, e, t, u, v, w)
def zPS.p (S : zPS) : Int := S.1
def zPS.x (S : zPS) : Int := S.2.1
def zPS.e (S : zPS) : Int → Int := S.2.2.1
def zPS.t (S : zPS) : Int → Int := S.2.2.2.1
def zPS.u (S : zPS) : Int → Int := S.2.2.2.2.1
def zPS.v (S : zPS) : Int → Int := S.2.2.2.2.2.1
def zPS.w (S : zPS) : Int → Int := S.2.2.2.2.2.2
def zPS.sp (S : zPS) (p x : Int) : zPS := zps p x S.e S.t S.u S.v S.w
def zPS.sm (S : zPS) (e t : Int → Int) : zPS := zps S.p S.x e t S.u S.v S.w
def zPS.su (S : zPS) (u : Int → Int) : zPS := zps S.p S.x S.e S.t u S.v S.w
def zPS.sv (S : zPS) (v : Int → Int) : zPS := zps S.p S.x S.e S.t S.u v S.w
def zPS.sw (S : zPS) (w : Int → Int) : zPS := zps S.p S.x S.e S.t S.u S.v w
def zpm (σ : zS) (L : Int) (S : zPS) : zS := zsu (zsu (zsu (zsu (sM σ 105 S.e S.t) 108 (zA 16 S.u)) 109 (zA 16 S.v)) 110 (zA 256 S.w)) 103 (zPO L S.p S.x)
def isPb (σ : zS) (n : Nat) (f : Int → Int) (L : Int) : Prop := σ 105 = zO 1 [zr 106, zr 107] ∧ σ 104 = zP 2 80 f ∧ (0 ≤ L ∧ L ≤ 80) ∧ (∀ j, 0 ≤ f j ∧ f j < 65536) ∧ 144 ≤ n
theorem zpm_0 (σ : zS) (L : Int) (S : zPS) : zpm σ L S 103 = zPO L S.p S.x := zsu_s _ _ _
theorem zpm_o (σ : zS) (L : Int) (S : zPS) {k : Int} (h : k < 103 ∨ k = 104 ∨ k = 105 ∨ 110 < k) : zpm σ L S k = σ k := by
  unfold zpm
  rw [zsu_n _ _ (by omega), zsu_n _ _ (by omega), zsu_n _ _ (by omega), zsu_n _ _ (by omega), sM_o _ _ _ (by omega)]
theorem zpm_u (σ : zS) (L : Int) (S : zPS) : zpm σ L S 108 = zA 16 S.u := by
  unfold zpm
  rw [zsu_n _ _ (by omega), zsu_n _ _ (by omega), zsu_n _ _ (by omega), zsu_s]
theorem zpm_v (σ : zS) (L : Int) (S : zPS) : zpm σ L S 109 = zA 16 S.v := by
  unfold zpm
  rw [zsu_n _ _ (by omega), zsu_n _ _ (by omega), zsu_s]
theorem zpm_w (σ : zS) (L : Int) (S : zPS) : zpm σ L S 110 = zA 256 S.w := by
  unfold zpm
  rw [zsu_n _ _ (by omega), zsu_s]
theorem zpm_M {σ : zS} {n : Nat} {f : Int → Int} {L : Int} (h : isPb σ n f L) (S : zPS) : isM (zpm σ L S) n 105 S.e S.t := by
  refine ⟨(zpm_o σ L S (by omega)).trans h.1, ?_, ?_, by decide, by have := h.2.2.2.2; omega⟩
  · unfold zpm
    rw [zsu_n _ _ (by omega), zsu_n _ _ (by omega), zsu_n _ _ (by omega), zsu_n _ _ (by omega)]
    unfold sM
    rw [zsu_n _ _ (by omega), show (105 : Int) + 1 = 106 from rfl, zsu_s]
  · unfold zpm
    rw [zsu_n _ _ (by omega), zsu_n _ _ (by omega), zsu_n _ _ (by omega), zsu_n _ _ (by omega)]
    unfold sM
    rw [show (105 : Int) + 2 = 107 from rfl, zsu_s]
theorem zpm_sp (σ : zS) (L : Int) (S : zPS) (p x : Int) : zsu (zpm σ L S) 103 (zPO L p x) = zpm σ L (S.sp p x) := zsu_u _ _ _ _
theorem zpm_su (σ : zS) (L : Int) (S : zPS) (u : Int → Int) : zsu (zpm σ L S) 108 (zA 16 u) = zpm σ L (S.su u) := by
  unfold zpm
  rw [zsu_comm _ _ _ (show (103 : Int) ≠ 108 by decide), zsu_comm _ _ _ (show (110 : Int) ≠ 108 by decide), zsu_comm _ _ _ (show (109 : Int) ≠ 108 by decide), zsu_u]
  rfl
theorem zpm_sv (σ : zS) (L : Int) (S : zPS) (u : Int → Int) : zsu (zpm σ L S) 109 (zA 16 u) = zpm σ L (S.sv u) := by
  unfold zpm
  rw [zsu_comm _ _ _ (show (103 : Int) ≠ 109 by decide), zsu_comm _ _ _ (show (110 : Int) ≠ 109 by decide), zsu_u]
  rfl
theorem zpm_sw (σ : zS) (L : Int) (S : zPS) (u : Int → Int) : zsu (zpm σ L S) 110 (zA 256 u) = zpm σ L (S.sw u) := by
  unfold zpm
  rw [zsu_comm _ _ _ (show (103 : Int) ≠ 110 by decide), zsu_u]
  rfl
theorem zpm_sM (σ : zS) (L : Int) (S : zPS) (e t : Int → Int) : sM (zpm σ L S) 105 e t = zpm σ L (S.sm e t) := by
  show sM (zpm σ L S) 105 e t = zsu (zsu (zsu (zsu (sM σ 105 e t) 108 (zA 16 S.u)) 109 (zA 16 S.v)) 110 (zA 256 S.w)) 103 (zPO L S.p S.x)
  funext k
  unfold zpm sM zsu
  by_cases h1 : k = 103
  · subst h1
    rfl
  by_cases h2 : k = 110
  · subst h2
    rfl
  by_cases h3 : k = 109
  · subst h3
    rfl
  by_cases h4 : k = 108
  · subst h4
    rfl
  rw [if_neg h1, if_neg h2, if_neg h3, if_neg h4, if_neg h1, if_neg h2, if_neg h3, if_neg h4]
  by_cases h5 : k = 105 + 2
  · rw [if_pos h5, if_pos h5]
  rw [if_neg h5, if_neg h5, if_neg h5]
  by_cases h6 : k = 105 + 1
  · rw [if_pos h6, if_pos h6]
  · rw [if_neg h6, if_neg h6, if_neg h6]
theorem zpm_self {σ : zS} {n : Nat} {L : Int} {S : zPS} (h0 : σ 103 = zPO L S.p S.x) (hm : isM σ n 105 S.e S.t) (hu : σ 108 = zA 16 S.u) (hv : σ 109 = zA 16 S.v) (hw : σ 110 = zA 256 S.w) : zpm σ L S = σ := by
  unfold zpm sM
  rw [zsu_self hm.2.1, zsu_self hm.2.2.1, zsu_self hu, zsu_self hv, zsu_self hw, zsu_self h0]
/-- a block of the same value all over -/
def zfx (k : Int) (x : Int) (u : Int → Int) : Int → Int := fun j => if 0 ≤ j ∧ j < k then x else u j
theorem zfx_0 (x : Int) (u : Int → Int) : zfx 0 x u = u := funext fun j => if_neg (by omega)
theorem zfx_s (x : Int) (u : Int → Int) {k : Int} (hk : 0 ≤ k) : zu (zfx k x u) k x = zfx (k + 1) x u := by
  funext j
  unfold zu zfx
  by_cases c : j = k
  · rw [if_pos c, if_pos (by omega)]
  · rw [if_neg c]
    by_cases c2 : 0 ≤ j ∧ j < k
    · rw [if_pos c2, if_pos (by omega)]
    · rw [if_neg c2, if_neg (by omega)]
def zlt (d row col : Int) (S : zPS) : zPS := (S.sm (zsq S.e row col (zsz d) (fun j => S.u (j / 16 - row) * S.v (j % 16 - col))) (zu S.t (zno d row col) 2))
def zlw (d row col : Int) (S : zPS) : zPS := (S.sm (zsq S.e row col (zsz d) (fun j => S.w ((j / 16 - row) * zsz d + (j % 16 - col)))) (zu S.t (zno d row col) 1))
def zpa (f : Int → Int) (L c : Int) (S : zPS) : zPS := (S.sp (zpp f L S.p c) S.x)
def zRS (V : Int → Bool × Int × Int) (d row col : Int) (S : zPS) : Bool × zPS :=
  ((V S.p).1, if (V S.p).1 = true then zlt d row col (((S.sp ((V S.p).2.1) ((V S.p).2.2)).su (zfx 16 (V S.p).2.2 S.u)).sv (zfx 16 1 S.v)) else (S.sp ((V S.p).2.1) ((V S.p).2.2)))
abbrev zRVs : Type := Int → Int → Int → (Int → Int) → Bool × Int × Int × (Int → Int)
def zru (R : zRVs) (m : Int) (S : zPS) : zPS := ((S.sp ((R m S.p S.x S.u).2.1) ((R m S.p S.x S.u).2.2.1)).su ((R m S.p S.x S.u).2.2.2))
def zrw (R : zRVs) (m : Int) (S : zPS) : zPS := ((S.sp ((R m S.p S.x S.v).2.1) ((R m S.p S.x S.v).2.2.1)).sv ((R m S.p S.x S.v).2.2.2))
def zrx (R : zRVs) (m : Int) (S : zPS) : zPS := ((S.sp ((R m S.p S.x S.w).2.1) ((R m S.p S.x S.w).2.2.1)).sw ((R m S.p S.x S.w).2.2.2))
def zRP (R : zRVs) (f : Int → Int) (L d row col : Int) (S : zPS) : Bool × zPS :=
  if (R (zsz d) S.p S.x S.u).1 = true then
    (if zpk f L (zru R (zsz d) S).p 118 = true then
      (if (R (zsz d) (zpa f L 118 (zru R (zsz d) S)).p (zpa f L 118 (zru R (zsz d) S)).x (zpa f L 118 (zru R (zsz d) S)).v).1 = true then (true, zlt d row col (zrw R (zsz d) (zpa f L 118 (zru R (zsz d) S))))
       else (false, zrw R (zsz d) (zpa f L 118 (zru R (zsz d) S))))
     else (false, zpa f L 118 (zru R (zsz d) S)))
  else (false, zru R (zsz d) S)
def zRF (R : zRVs) (d row col : Int) (S : zPS) : Bool × zPS :=
  ((R (zsz d * zsz d) S.p S.x S.w).1, if (R (zsz d * zsz d) S.p S.x S.w).1 = true then zlw d row col (zrx R (zsz d * zsz d) S) else zrx R (zsz d * zsz d) S)
section
variable {n : Nat} {σ : zS} {f : Int → Int} {L : Int}
theorem zcp (hb : isPb σ n f L) (S : zPS) (hp : 0 ≤ S.p ∧ S.p ≤ 80) {c : Int} (hc : 0 ≤ c ∧ c < 65536) : zCt 1 0 0 yX2_passes cX2_passes 2 (some .boolean) [zr 103, zi c] n (zpm σ L S) (some (zi (zb (zpk f L S.p c)))) n (zpm σ L (zpa f L c S)) := by
  have h := ctX2_passes (c := c) (zpm_0 σ L S) ((zpm_o σ L S (by omega)).trans hb.2.1) hp hb.2.2.1 hb.2.2.2.1 hc hb.2.2.2.2
  rw [zpm_sp] at h
  exact h
theorem zpa_in (hb : isPb σ n f L) {S : zPS} (hp : 0 ≤ S.p ∧ S.p ≤ 80) (c : Int) : S.p ≤ (zpa f L c S).p ∧ (zpa f L c S).p ≤ 80 := zpp_in c ⟨hp.2, hb.2.2.1.2⟩
/-- what the readings of rows answer: enough of them -/
def isKT (R : zRVs) (V : Int → Bool × Int × Int) (f : Int → Int) (L : Int) : Prop := V = zvl f L ∧ ∃ F : Nat, F = 80 ∧ R = fun m p x u => zrv F V f L m p x u
theorem isKT.i {R : zRVs} {V : Int → Bool × Int × Int} (h : isKT R V f L) (hb : isPb σ n f L) {m p : Int} (x : Int) (u : Int → Int) (hm : 0 ≤ m) (hp : p ≤ 80) : p ≤ (R m p x u).2.1 ∧ (R m p x u).2.1 ≤ 80 ∧ ((R m p x u).1 = true → ∀ j, 0 ≤ j → j < m → -999 ≤ (R m p x u).2.2.2 j ∧ (R m p x u).2.2.2 j ≤ 999) := by
  obtain ⟨hV, F, hF, hR⟩ := h
  rw [hR]
  exact zrv_in hF hV x u hb.2.2.1.2 hm hp
theorem isKT.v {R : zRVs} {V : Int → Bool × Int × Int} (h : isKT R V f L) (hb : isPb σ n f L) {p : Int} (hp : p ≤ 80) : p ≤ (V p).2.1 ∧ (V p).2.1 ≤ 80 ∧ ((V p).1 = true → -999 ≤ (V p).2.2 ∧ (V p).2.2 ≤ 999) := by
  rw [h.1]
  exact zvl_in hb.2.2.1.2 hp
theorem zcu {R : zRVs} {V : Int → Bool × Int × Int} (h : isKT R V f L) (hb : isPb σ n f L) (S : zPS) (hp : 0 ≤ S.p ∧ S.p ≤ 80) {m : Int} (hm : 0 ≤ m ∧ m ≤ 16) : zCt 3 0 0 yX2_readValues cX2_readValues 7 (some .boolean) [zr 103, zr 108, zi m] n (zpm σ L S) (some (zi (zb (R m S.p S.x S.u).1))) n (zpm σ L (zru R m S)) := by
  obtain ⟨hV, F, hF, hR⟩ := h
  have h := ctX2_readValues hF hV (zpm_0 σ L S) ((zpm_o σ L S (by omega)).trans hb.2.1) (zpm_u σ L S) (by decide) (by decide) (m := m) (by omega) hp hb.2.2.1 hb.2.2.2.1 hb.2.2.2.2
  rw [zpm_su, zpm_sp] at h
  rw [hR]
  exact h
theorem zcv {R : zRVs} {V : Int → Bool × Int × Int} (h : isKT R V f L) (hb : isPb σ n f L) (S : zPS) (hp : 0 ≤ S.p ∧ S.p ≤ 80) {m : Int} (hm : 0 ≤ m ∧ m ≤ 16) : zCt 3 0 0 yX2_readValues cX2_readValues 7 (some .boolean) [zr 103, zr 109, zi m] n (zpm σ L S) (some (zi (zb (R m S.p S.x S.v).1))) n (zpm σ L (zrw R m S)) := by
  obtain ⟨hV, F, hF, hR⟩ := h
  have h := ctX2_readValues hF hV (zpm_0 σ L S) ((zpm_o σ L S (by omega)).trans hb.2.1) (zpm_v σ L S) (by decide) (by decide) (m := m) (by omega) hp hb.2.2.1 hb.2.2.2.1 hb.2.2.2.2
  rw [zpm_sv, zpm_sp] at h
  rw [hR]
  exact h
theorem zcw {R : zRVs} {V : Int → Bool × Int × Int} (h : isKT R V f L) (hb : isPb σ n f L) (S : zPS) (hp : 0 ≤ S.p ∧ S.p ≤ 80) {m : Int} (hm : 0 ≤ m ∧ m ≤ 256) : zCt 3 0 0 yX2_readValues cX2_readValues 7 (some .boolean) [zr 103, zr 110, zi m] n (zpm σ L S) (some (zi (zb (R m S.p S.x S.w).1))) n (zpm σ L (zrx R m S)) := by
  obtain ⟨hV, F, hF, hR⟩ := h
  have h := ctX2_readValues hF hV (zpm_0 σ L S) ((zpm_o σ L S (by omega)).trans hb.2.1) (zpm_w σ L S) (by decide) (by decide) (m := m) (by omega) hp hb.2.2.1 hb.2.2.2.1 hb.2.2.2.2
  rw [zpm_sw, zpm_sp] at h
  rw [hR]
  exact h
theorem zct {σ : zS} {f : Int → Int} {L : Int} (hb : isPb σ n f L) (S : zPS) (d row col : Int) (hd : 0 ≤ d ∧ d ≤ 3) (hr : 0 ≤ row ∧ row + zsz d ≤ 16) (hc : 0 ≤ col ∧ col + zsz d ≤ 16) : zCt 3 0 0 yX1_setThin cX1_setThin 9 none [zr 105, zi d, zi row, zi col, zr 108, zr 109] n (zpm σ L S) none n (zpm σ L (zlt d row col S)) := by
  have hn := hb.2.2.2.2
  have h := ctX1_setThin (zpm_M hb S) (zpm_u σ L S) (zpm_v σ L S) (by omega) d row col hd hr hc
  rw [zpm_sM] at h
  exact h
theorem zcz {σ : zS} {f : Int → Int} {L : Int} (hb : isPb σ n f L) (S : zPS) (d row col : Int) (hd : 0 ≤ d ∧ d ≤ 3) (hr : 0 ≤ row ∧ row + zsz d ≤ 16) (hc : 0 ≤ col ∧ col + zsz d ≤ 16) : zCt 3 0 0 yX1_setFull cX1_setFull 8 none [zr 105, zi d, zi row, zi col, zr 110] n (zpm σ L S) none n (zpm σ L (zlw d row col S)) := by
  have hn := hb.2.2.2.2
  have h := ctX1_setFull (zpm_M hb S) (zpm_w σ L S) (by omega) d row col hd hr hc
  rw [zpm_sM] at h
  exact h
theorem ctX2_readSame {R : zRVs} {V : Int → Bool × Int × Int} (h : isKT R V f L) (hb : isPb σ n f L) (S : zPS) (hp : 0 ≤ S.p ∧ S.p ≤ 80) (d row col : Int) (hd : 0 ≤ d ∧ d ≤ 3) (hr : 0 ≤ row ∧ row + zsz d ≤ 16) (hc : 0 ≤ col ∧ col + zsz d ≤ 16) : zCt 4 0 0 yX2_readSame cX2_readSame 5 (some .boolean) [zr 103, zi d, zi row, zi col] n (zpm σ L S) (some (zi (zb (zRS V d row col S).1))) n (zpm σ L (zRS V d row col S).2) := by
  have hn := hb.2.2.2.2
  have hP0 := zpm_0 σ L S
  have hv : zCt 2 0 0 yX2_readValue cX2_readValue 3 (some .boolean) [zr 103] n (zpm σ L S) (some (zi (zb (V S.p).1))) n (zpm σ L (S.sp ((V S.p).2.1) ((V S.p).2.2))) := by
    have h2 := ctX2_readValue (zpm_0 σ L S) ((zpm_o σ L S (by omega)).trans hb.2.1) hp hb.2.2.1 hb.2.2.2.1 hn
    rw [zpm_sp] at h2
    rw [h.1]
    exact h2
  refine zCt.of (by decide) rfl (Nat.le_of_ble_eq_true rfl) (fun K C => ?_)
  have loop : (V S.p).1 = true → ∀ k : Nat, k ≤ 16 → K 12 [some (zr 103), some (zi d), some (zi row), some (zi col), some (zi (k : Int))] [] n (zpm σ L (((S.sp ((V S.p).2.1) ((V S.p).2.2)).su (zfx k (V S.p).2.2 S.u)).sv (zfx k 1 S.v))) 0 := by
    intro hval
    refine zloop _ 16 (fun k hk ih => ?_)
    generalize hS1 : ((((S.sp ((V S.p).2.1) ((V S.p).2.2)).su (zfx k (V S.p).2.2 S.u)).sv (zfx k 1 S.v)) : zPS) = S1
    have e1 : S1.x = (V S.p).2.2 := by
      subst hS1
      rfl
    have hP0 := zpm_0 σ L S1
    have hU := zpm_u σ L S1
    refine x_iload C dX2_readSame_12 rfl ?_
    refine x_bipush C dX2_readSame_14 (by decide) ?_
    refine x_icmp_ge (tgt := 44) C dX2_readSame_16 (by decide) (by omega) (fun c16 => ?_) (fun c16 => ?_)
    · have hM := (zpm_M hb S1).1
      have hV := zpm_v σ L S1
      refine x_aload_n C dX2_readSame_44 rfl ?_
      refine x_getfield C dX2_readSame_45 lfX2_22 hP0 (by omega) rfl ?_
      refine x_iload_n C dX2_readSame_48 rfl ?_
      refine x_iload_n C dX2_readSame_49 rfl ?_
      refine x_iload_n C dX2_readSame_50 rfl ?_
      refine x_aload_n C dX2_readSame_51 rfl ?_
      refine x_getfield C dX2_readSame_52 lfX2_26 hP0 (by omega) rfl ?_
      refine x_aload_n C dX2_readSame_55 rfl ?_
      refine x_getfield C dX2_readSame_56 lfX2_30 hP0 (by omega) rfl ?_
      refine x_callV C dX2_readSame_59 (zct hb S1 d row col hd hr hc) okX1_setThin lkX2_81 ⟨⟨hM, rfl, rfl⟩, (by omega)⟩ ⟨by decide, rfl, rfl, Nat.le_of_ble_eq_true rfl⟩ rfl (Or.inl ⟨rfl, rfl⟩) ?_
      refine x_iconst C dX2_readSame_62 ?_
      exact x_zret (st := []) (b := true) C dX2_readSame_63 rfl ⟨congrArg (fun z => some (zi (zb z))) hval.symm, rfl, by
  rw [zRS]
  dsimp only
  rw [if_pos hval, ← hS1]
  obtain rfl : k = 16 := by omega
  rfl, rfl⟩
    · refine x_aload_n C dX2_readSame_19 rfl ?_
      have hM := (zpm_M hb S1).1
      have hV := zpm_v σ L S1
      refine x_getfield C dX2_readSame_20 lfX2_26 hP0 (by omega) rfl ?_
      refine x_iload C dX2_readSame_23 rfl ?_
      refine x_aload_n C dX2_readSame_25 rfl ?_
      refine x_getfield C dX2_readSame_26 lfX2_39 hP0 (by omega) rfl ?_
      refine x_iastore C dX2_readSame_29 hU (by omega) ?_
      rw [zpm_su]
      have hP0 := zpm_0 σ L (S1.su (zu S1.u k S1.x))
      have hV := zpm_v σ L (S1.su (zu S1.u k S1.x))
      refine x_aload_n C dX2_readSame_30 rfl ?_
      refine x_getfield C dX2_readSame_31 lfX2_30 hP0 (by omega) rfl ?_
      refine x_iload C dX2_readSame_34 rfl ?_
      refine x_iconst C dX2_readSame_36 ?_
      refine x_iastore C dX2_readSame_37 hV (by omega) ?_
      rw [zpm_sv]
      have ih := ih (by omega)
      rw [show ((k + 1 : Nat) : Int) = (k : Int) + 1 by omega, ← zfx_s _ _ (show 0 ≤ (k : Int) by omega), ← zfx_s _ _ (show 0 ≤ (k : Int) by omega)] at ih
      refine x_iinc C dX2_readSame_38 rfl (by decide) ?_
      refine x_goto (tgt := 12) C dX2_readSame_41 (by decide) ?_
      rw [e1, ← hS1]
      exact ih
  refine x_aload_n C dX2_readSame_0 rfl ?_
  refine x_callV C dX2_readSame_1 hv okX2_readValue lkX2_77 ⟨⟨hP0, rfl, rfl⟩, (by omega)⟩ ⟨by decide, rfl, rfl, Nat.le_of_ble_eq_true rfl⟩ rfl (Or.inl ⟨rfl, rfl⟩) ?_
  refine x_ifne_b (tgt := 9) C dX2_readSame_4 (by decide) (fun c4 => ?_) (fun c4 => ?_)
  · refine x_iconst C dX2_readSame_9 ?_
    refine x_istore C dX2_readSame_10 (by decide) ?_
    have h0 := loop c4 0 (by decide)
    rw [show ((0 : Nat) : Int) = 0 from rfl, zfx_0, zfx_0] at h0
    exact h0
  · refine x_iconst C dX2_readSame_7 ?_
    exact x_zret (st := []) (b := false) C dX2_readSame_8 rfl ⟨congrArg (fun z => some (zi (zb z))) (by rw [zRS]; exact c4.symm), rfl, by rw [zRS]; dsimp only; rw [if_neg (by rw [c4]; decide)], rfl⟩
theorem ctX2_readFull {R : zRVs} {V : Int → Bool × Int × Int} (h : isKT R V f L) (hb : isPb σ n f L) (S : zPS) (hp : 0 ≤ S.p ∧ S.p ≤ 80) (d row col : Int) (hd : 0 ≤ d ∧ d ≤ 3) (hr : 0 ≤ row ∧ row + zsz d ≤ 16) (hc : 0 ≤ col ∧ col + zsz d ≤ 16) : zCt 4 0 0 yX2_readFull cX2_readFull 5 (some .boolean) [zr 103, zi d, zi row, zi col] n (zpm σ L S) (some (zi (zb (zRF R d row col S).1))) n (zpm σ L (zRF R d row col S).2) := by
  have hn := hb.2.2.2.2
  have hP0 := zpm_0 σ L S
  have hz := zsz_v hd
  have hzz : 0 ≤ zsz d * zsz d ∧ zsz d * zsz d ≤ 256 := by
    rcases hz with ⟨-, q⟩ | ⟨-, q⟩ | ⟨-, q⟩ | ⟨-, q⟩ <;> rw [q] <;> decide
  refine zCt.of (by decide) rfl (Nat.le_of_ble_eq_true rfl) (fun K C => ?_)
  refine x_iload_n C dX2_readFull_0 rfl ?_
  refine x_callSN C dX2_readFull_1 (ctX5_sizeAt d hd) okX5_sizeAt nkX2_85 ⟨by decide, rfl, rfl, Nat.le_of_ble_eq_true rfl⟩ rfl (Or.inl ⟨rfl, rfl⟩) ?_
  refine x_istore C dX2_readFull_4 (by decide) ?_
  refine x_aload_n C dX2_readFull_6 rfl ?_
  refine x_aload_n C dX2_readFull_7 rfl ?_
  refine x_getfield C dX2_readFull_8 lfX2_33 hP0 (by omega) rfl ?_
  refine x_iload C dX2_readFull_11 rfl ?_
  refine x_iload C dX2_readFull_13 rfl ?_
  refine x_imul C dX2_readFull_15 ?_
  refine x_callV C dX2_readFull_16 (zcw h hb S hp hzz) okX2_readValues lkX2_89 ⟨⟨hP0, rfl, rfl⟩, (by omega)⟩ ⟨by decide, rfl, rfl, Nat.le_of_ble_eq_true rfl⟩ rfl (Or.inl ⟨rfl, rfl⟩) ?_
  have hP0 := zpm_0 σ L (zrx R (zsz d * zsz d) S)
  have hM := (zpm_M hb (zrx R (zsz d * zsz d) S)).1
  refine x_ifne_b (tgt := 24) C dX2_readFull_19 (by decide) (fun c19 => ?_) (fun c19 => ?_)
  · refine x_aload_n C dX2_readFull_24 rfl ?_
    refine x_getfield C dX2_readFull_25 lfX2_22 hP0 (by omega) rfl ?_
    refine x_iload_n C dX2_readFull_28 rfl ?_
    refine x_iload_n C dX2_readFull_29 rfl ?_
    refine x_iload_n C dX2_readFull_30 rfl ?_
    refine x_aload_n C dX2_readFull_31 rfl ?_
    refine x_getfield C dX2_readFull_32 lfX2_33 hP0 (by omega) rfl ?_
    refine x_callV C dX2_readFull_35 (zcz hb (zrx R (zsz d * zsz d) S) d row col hd hr hc) okX1_setFull lkX2_93 ⟨⟨hM, rfl, rfl⟩, (by omega)⟩ ⟨by decide, rfl, rfl, Nat.le_of_ble_eq_true rfl⟩ rfl (Or.inl ⟨rfl, rfl⟩) ?_
    refine x_iconst C dX2_readFull_38 ?_
    exact x_zret (st := []) (b := true) C dX2_readFull_39 rfl ⟨congrArg (fun z => some (zi (zb z))) (by rw [zRF]; exact c19.symm), rfl, by rw [zRF]; dsimp only; rw [if_pos c19], rfl⟩
  · refine x_iconst C dX2_readFull_22 ?_
    exact x_zret (st := []) (b := false) C dX2_readFull_23 rfl ⟨congrArg (fun z => some (zi (zb z))) (by rw [zRF]; exact c19.symm), rfl, by rw [zRF]; dsimp only; rw [if_neg (by rw [c19]; decide)], rfl⟩
theorem ctX2_readProduct {R : zRVs} {V : Int → Bool × Int × Int} (h : isKT R V f L) (hb : isPb σ n f L) (S : zPS) (hp : 0 ≤ S.p ∧ S.p ≤ 80) (d row col : Int) (hd : 0 ≤ d ∧ d ≤ 3) (hr : 0 ≤ row ∧ row + zsz d ≤ 16) (hc : 0 ≤ col ∧ col + zsz d ≤ 16) : zCt 4 0 0 yX2_readProduct cX2_readProduct 5 (some .boolean) [zr 103, zi d, zi row, zi col] n (zpm σ L S) (some (zi (zb (zRP R f L d row col S).1))) n (zpm σ L (zRP R f L d row col S).2) := by
  have hn := hb.2.2.2.2
  have hP0 := zpm_0 σ L S
  have hz := zsz_v hd
  have hz16 : 0 ≤ zsz d ∧ zsz d ≤ 16 := by omega
  have i1 := h.i hb S.x S.u hz16.1 hp.2
  have p1 : 0 ≤ (zru R (zsz d) S).p ∧ (zru R (zsz d) S).p ≤ 80 := ⟨Int.le_trans hp.1 i1.1, i1.2.1⟩
  have i2 := zpa_in hb p1 118
  have p2 : 0 ≤ (zpa f L 118 (zru R (zsz d) S)).p ∧ (zpa f L 118 (zru R (zsz d) S)).p ≤ 80 := ⟨Int.le_trans p1.1 i2.1, i2.2⟩
  refine zCt.of (by decide) rfl (Nat.le_of_ble_eq_true rfl) (fun K C => ?_)
  refine x_iload_n C dX2_readProduct_0 rfl ?_
  refine x_callSN C dX2_readProduct_1 (ctX5_sizeAt d hd) okX5_sizeAt nkX2_85 ⟨by decide, rfl, rfl, Nat.le_of_ble_eq_true rfl⟩ rfl (Or.inl ⟨rfl, rfl⟩) ?_
  refine x_istore C dX2_readProduct_4 (by decide) ?_
  refine x_aload_n C dX2_readProduct_6 rfl ?_
  refine x_aload_n C dX2_readProduct_7 rfl ?_
  refine x_getfield C dX2_readProduct_8 lfX2_26 hP0 (by omega) rfl ?_
  refine x_iload C dX2_readProduct_11 rfl ?_
  refine x_callV C dX2_readProduct_13 (zcu h hb S hp hz16) okX2_readValues lkX2_89 ⟨⟨hP0, rfl, rfl⟩, (by omega)⟩ ⟨by decide, rfl, rfl, Nat.le_of_ble_eq_true rfl⟩ rfl (Or.inl ⟨rfl, rfl⟩) ?_
  have hP0 := zpm_0 σ L (zru R (zsz d) S)
  refine x_ifeq_b (tgt := 41) C dX2_readProduct_16 (by decide) (fun c16 => ?_) (fun c16 => ?_)
  · have eR : zRP R f L d row col S = _ := if_neg (by rw [c16]; decide)
    refine x_iconst C dX2_readProduct_41 ?_
    exact x_zret (st := []) (b := false) C dX2_readProduct_42 rfl ⟨congrArg (fun z => some (zi (zb z))) (congrArg Prod.fst eR).symm, rfl, congrArg (fun z => zpm σ L z) (congrArg Prod.snd eR).symm, rfl⟩
  · refine x_aload_n C dX2_readProduct_19 rfl ?_
    refine x_bipush C dX2_readProduct_20 (by decide) ?_
    refine x_callV C dX2_readProduct_22 (zcp hb (zru R (zsz d) S) p1 (by decide)) okX2_passes lkX2_46 ⟨⟨hP0, rfl, rfl⟩, (by omega)⟩ ⟨by decide, rfl, rfl, Nat.le_of_ble_eq_true rfl⟩ rfl (Or.inl ⟨rfl, rfl⟩) ?_
    have hP0 := zpm_0 σ L (zpa f L 118 (zru R (zsz d) S))
    refine x_ifeq_b (tgt := 41) C dX2_readProduct_25 (by decide) (fun c25 => ?_) (fun c25 => ?_)
    · have eR : zRP R f L d row col S = _ := (if_pos c16).trans (if_neg (by rw [c25]; decide))
      refine x_iconst C dX2_readProduct_41 ?_
      exact x_zret (st := []) (b := false) C dX2_readProduct_42 rfl ⟨congrArg (fun z => some (zi (zb z))) (congrArg Prod.fst eR).symm, rfl, congrArg (fun z => zpm σ L z) (congrArg Prod.snd eR).symm, rfl⟩
    · refine x_aload_n C dX2_readProduct_28 rfl ?_
      refine x_aload_n C dX2_readProduct_29 rfl ?_
      refine x_getfield C dX2_readProduct_30 lfX2_30 hP0 (by omega) rfl ?_
      refine x_iload C dX2_readProduct_33 rfl ?_
      refine x_callV C dX2_readProduct_35 (zcv h hb (zpa f L 118 (zru R (zsz d) S)) p2 hz16) okX2_readValues lkX2_89 ⟨⟨hP0, rfl, rfl⟩, (by omega)⟩ ⟨by decide, rfl, rfl, Nat.le_of_ble_eq_true rfl⟩ rfl (Or.inl ⟨rfl, rfl⟩) ?_
      have hP0 := zpm_0 σ L (zrw R (zsz d) (zpa f L 118 (zru R (zsz d) S)))
      have hM := (zpm_M hb (zrw R (zsz d) (zpa f L 118 (zru R (zsz d) S)))).1
      refine x_ifne_b (tgt := 43) C dX2_readProduct_38 (by decide) (fun c38 => ?_) (fun c38 => ?_)
      · have eR : zRP R f L d row col S = _ := (if_pos c16).trans ((if_pos c25).trans (if_pos c38))
        refine x_aload_n C dX2_readProduct_43 rfl ?_
        refine x_getfield C dX2_readProduct_44 lfX2_22 hP0 (by omega) rfl ?_
        refine x_iload_n C dX2_readProduct_47 rfl ?_
        refine x_iload_n C dX2_readProduct_48 rfl ?_
        refine x_iload_n C dX2_readProduct_49 rfl ?_
        refine x_aload_n C dX2_readProduct_50 rfl ?_
        refine x_getfield C dX2_readProduct_51 lfX2_26 hP0 (by omega) rfl ?_
        refine x_aload_n C dX2_readProduct_54 rfl ?_
        refine x_getfield C dX2_readProduct_55 lfX2_30 hP0 (by omega) rfl ?_
        refine x_callV C dX2_readProduct_58 (zct hb (zrw R (zsz d) (zpa f L 118 (zru R (zsz d) S))) d row col hd hr hc) okX1_setThin lkX2_81 ⟨⟨hM, rfl, rfl⟩, (by omega)⟩ ⟨by decide, rfl, rfl, Nat.le_of_ble_eq_true rfl⟩ rfl (Or.inl ⟨rfl, rfl⟩) ?_
        refine x_iconst C dX2_readProduct_61 ?_
        exact x_zret (st := []) (b := true) C dX2_readProduct_62 rfl ⟨congrArg (fun z => some (zi (zb z))) (congrArg Prod.fst eR).symm, rfl, congrArg (fun z => zpm σ L z) (congrArg Prod.snd eR).symm, rfl⟩
      · have eR : zRP R f L d row col S = _ := (if_pos c16).trans ((if_pos c25).trans (if_neg (by rw [c38]; decide)))
        refine x_iconst C dX2_readProduct_41 ?_
        exact x_zret (st := []) (b := false) C dX2_readProduct_42 rfl ⟨congrArg (fun z => some (zi (zb z))) (congrArg Prod.fst eR).symm, rfl, congrArg (fun z => zpm σ L z) (congrArg Prod.snd eR).symm, rfl⟩
end
