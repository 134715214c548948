/-- rows of references that cannot be told apart -/
theorem zc_eqq {g : zG} {t L : Nat} {f f2 : Int → Option Int} (h : ∀ j : Int, 0 ≤ j → j < L → f j = f2 j) (a : Nat) (H : Heap) (hz : va_at g.2.1 vwCl (a, zc g (zQ t L f)) H) : va_at g.2.1 vwCl (a, zc g (zQ t L f2)) H := by
  have e : vp_cell (g.2.2 t) (L, .inr (.inr (.inr (.inr (fun j : Nat => (f (j : Int)).map (zad g)))))) = vp_cell (g.2.2 t) (L, .inr (.inr (.inr (.inr (fun j : Nat => (f2 (j : Int)).map (zad g)))))) := by
    rw [vp_cell_q, vp_cell_q]
    unfold arrV
    congr 2
    funext j
    dsimp only
    rw [h j.val (by omega) (by omega)]
  show H[a]? = some _
  rw [← e]
  exact hz
theorem x_simq {y : MethodName} {cc : ByteArray} {ml : Nat} {ret : Option FieldType} {h mc ms n0 : Nat} {Ret : zRT} {K : zKT} (C : zX y cc ml ret h mc ms n0 Ret K) {pc : Nat} {Lo : List (Option zV)} {st : List zV} {n : Nat} {σ : zS} {w : Nat} {a : Int} {L : Nat} {f : Int → Option Int} (f2 : Int → Option Int) {t : Nat} (ho : σ a = zQ t L f) (hf : ∀ j : Int, 0 ≤ j → j < L → f j = f2 j) (k : K pc Lo st n (zsu σ a (zQ t L f2)) w) : K pc Lo st n σ w := by
  obtain ⟨p, l, e, R, s, m, args, below, meth, c, Q, g, ⟨hx, hb, hml, hown, hts, hK, hin⟩, hR, hsz, rfl, hrt⟩ := C
  intro ls H locs hn hl hP hS
  refine k ls H locs hn hl ⟨hP.1, hP.2.1, fun q x hq => ?_⟩ hS
  rw [zW_get] at hq
  by_cases hq1 : q < n
  · rw [if_pos hq1] at hq
    cases hq
    have h1 := hP.2.2 q _ (by rw [zW_get, if_pos hq1])
    by_cases e1 : (q : Int) + 1 = a
    · rw [e1, zsu_s]
      rw [e1, ho] at h1
      exact zc_eqq hf _ _ h1
    · rw [zsu_n _ _ e1]
      exact h1
  · rw [if_neg hq1] at hq
    cases hq
def zqf (a d k : Int) : Int → Option Int := fun j => if 0 ≤ j ∧ j < k then some (a + d * j) else none
theorem zqf_0 (a d : Int) : zqf a d 0 = fun _ => none := funext fun j => if_neg (by omega)
theorem zqf_s (a d : Int) {k : Int} (hk : 0 ≤ k) {x : Int} (hx : x = a + d * k) : zuq (zqf a d k) k (some x) = zqf a d (k + 1) := by
  funext j
  unfold zuq zqf
  by_cases c : j = k
  · rw [if_pos c, if_pos (by omega), c, hx]
  · rw [if_neg c]
    by_cases c2 : 0 ≤ j ∧ j < k
    · rw [if_pos c2, if_pos (by omega)]
    · rw [if_neg c2, if_neg (by omega)]
/-- a matrix at its start -/
def zmI (σ : zS) (n b : Int) : zS := zsu (zsu (zsu (zsu σ (n + 1) (zA 256 (fun _ => 0))) b (zO 1 [zr (n + 1), zn])) (n + 2) (zA 85 (fun _ => 0))) b (zO 1 [zr (n + 1), zr (n + 2)])
/-- a new matrix, made at n + 1 -/
def zmN (σ : zS) (n : Int) : zS := zmI (zsu σ (n + 1) (zO 1 [zn, zn])) (n + 1) (n + 1)
theorem zmN_ag (σ : zS) (n : Int) : zAg σ (zmN σ n) (n + 1) (n + 3) := fun k hk => by
  unfold zmN zmI
  rw [zsu_n _ _ (by omega), zsu_n _ _ (by omega), zsu_n _ _ (by omega), zsu_n _ _ (by omega), zsu_n _ _ (by omega)]
theorem zmN_is (σ : zS) {n : Int} {N : Nat} (h : 0 ≤ n ∧ n + 3 ≤ N) : isM (zmN σ n) N (n + 1) (fun _ => 0) (fun _ => 0) := by
  refine ⟨?_, ?_, ?_, by omega, by omega⟩
  · unfold zmN zmI
    exact zsu_s _ _ _
  · unfold zmN zmI
    rw [zsu_n _ _ (by omega), zsu_n _ _ (by omega), zsu_n _ _ (by omega)]
    exact zsu_s _ _ _
  · unfold zmN zmI
    rw [zsu_n _ _ (by omega), show n + 1 + 2 = n + 1 + 2 from rfl]
    exact zsu_s _ _ _
section
variable {n : Nat} {σ : zS} {b : Int}
theorem ctX1_init (hB : σ b = zO 1 [zn, zn]) (hb : 0 < b ∧ b ≤ n) : zCt 1 2 341 yX1_init cX1_init 1 none [zr b] n σ none (n + 2) (zmI σ n b) := by
  refine zCt.of (by decide) rfl (Nat.le_of_ble_eq_true rfl) (fun K C => ?_)
  refine x_aload_n C dX1_init_0 rfl ?_
  refine x_objInit C dX1_init_1 loX1_3 (by decide) (Nat.le_of_ble_eq_true rfl) ?_
  refine x_aload_n C dX1_init_4 rfl ?_
  refine x_sipush C dX1_init_5 (by decide) ?_
  refine x_newa (t := 0) (L := 256) C dX1_init_8 rfl rfl (fun _ => rfl) (fun _ _ q => q) ka_int (by decide) (by omega) ?_
  refine x_nm (fun s8 e8 => ?_)
  have hB := (congrFun e8 b).trans ((zsu_n _ _ (by omega)).trans hB)
  refine x_putFA C dX1_init_10 lfX1_9 lyX1_0 rfl (fun _ _ _ q => by cases q; rfl) hB (by omega) (Nat.le_of_ble_eq_true rfl) ?_
  refine x_nm (fun s10 e10 => ?_)
  have hB := (congrFun e10 b).trans (zsu_s _ _ _)
  refine x_aload_n C dX1_init_13 rfl ?_
  refine x_bipush C dX1_init_14 (by decide) ?_
  refine x_newa (t := 0) (L := 85) C dX1_init_16 rfl rfl (fun _ => rfl) (fun _ _ q => q) ka_int (by decide) (by omega) ?_
  refine x_nm (fun s16 e16 => ?_)
  have hB := (congrFun e16 b).trans ((zsu_n _ _ (by omega)).trans hB)
  refine x_putFA C dX1_init_18 lfX1_15 lyX1_1 rfl (fun _ _ _ q => by cases q; rfl) hB (by omega) (Nat.le_of_ble_eq_true rfl) ?_
  refine x_nm (fun s18 e18 => ?_)
  have hB := (congrFun e18 b).trans (zsu_s _ _ _)
  exact x_vret (st := []) C dX1_init_21 rfl ⟨rfl, rfl, by rw [e18, e16, e10, e8, show (((n + 1 : Nat) : Int) + 1) = (n : Int) + 2 by omega]; rfl, rfl⟩
end
def zX0 : zSV := (fun _ _ => 0, (fun _ _ => 0, 0))
/-- a state at its start: its object stands at n -/
def zsI (σ : zS) (n : Int) : zS := zsu (zsu σ (n + 1) (zQ 3 4 (zqf (n + 2) 3 0))) n (zO 4 [zr (n + 1), zi 0])
def zsL (σ : zS) (n : Int) : Nat → zS := zfo (fun τ k => zsu (zmN τ (n + 1 + 3 * k)) (n + 1) (zQ 3 4 (zqf (n + 2) 3 (k + 1)))) (zsI σ n)
def zsF (σ : zS) (n : Int) : zS := zsu (zsL σ n 4) (n + 1) (zQ 3 4 (fun m => some (n + 2 + 3 * m)))
theorem zsL_is (σ : zS) {n : Int} (hn : 0 < n) : ∀ k : Nat, k ≤ 4 → zsL σ n k n = zO 4 [zr (n + 1), zi 0] ∧ zsL σ n k (n + 1) = zQ 3 4 (zqf (n + 2) 3 k) ∧ zAg σ (zsL σ n k) n (n + 1 + 3 * k) ∧ ∀ N : Nat, n + 13 ≤ N → ∀ j : Nat, j < k → isM (zsL σ n k) N (n + 2 + 3 * j) (fun _ => 0) (fun _ => 0)
  | 0, _ => ⟨zsu_s _ _ _, (zsu_n _ _ (by omega)).trans (zsu_s _ _ _), fun k hk => (zsu_n _ _ (by omega)).trans (zsu_n _ _ (by omega)), fun _ _ j hj => absurd hj (by omega)⟩
  | k + 1, hk => by
    obtain ⟨h1, h2, h3, h4⟩ := zsL_is σ hn k (by omega)
    have e : zsL σ n (k + 1) = zsu (zmN (zsL σ n k) (n + 1 + 3 * k)) (n + 1) (zQ 3 4 (zqf (n + 2) 3 (k + 1))) := rfl
    have g1 := zmN_ag (zsL σ n k) (n + 1 + 3 * k)
    have g2 := zAg.su (zmN (zsL σ n k) (n + 1 + 3 * k)) (n + 1) (zQ 3 4 (zqf (n + 2) 3 (k + 1)))
    rw [e]
    refine ⟨(g2 n (by omega)).trans ((g1 n (by omega)).trans h1), ?_, (h3.wide (by omega)).trans ((g1.wide (by omega)).trans (g2.wide (by omega))), fun N hN j hj => ?_⟩
    · rw [zsu_s]
      rfl
    · by_cases q : j = k
      · have hm := (zmN_is (zsL σ n k) (n := n + 1 + 3 * k) (N := N) (by omega)).ag g2 (by omega)
        rw [show n + 1 + 3 * (k : Int) + 1 = n + 2 + 3 * j by omega] at hm
        exact hm
      · exact ((h4 N hN j (by omega)).ag g1 (by omega)).ag g2 (by omega)
theorem zsF_is (σ : zS) {n : Int} (hn : 0 < n) {N : Nat} (hN : n + 13 ≤ N) : isSt (zsF σ n) N n zX0 ∧ zAg σ (zsF σ n) n (n + 13) := by
  obtain ⟨h1, h2, h3, h4⟩ := zsL_is σ hn 4 (by decide)
  have g2 := zAg.su (zsL σ n 4) (n + 1) (zQ 3 4 (fun m => some (n + 2 + 3 * m)))
  refine ⟨⟨(g2 n (by omega)).trans h1, zsu_s _ _ _, by omega, fun m m1 m2 => ?_⟩, (h3.wide (by omega)).trans (g2.wide (by omega))⟩
  have := (h4 N hN m.toNat (by omega)).ag g2 (by omega)
  rw [Int.toNat_of_nonneg m1] at this
  exact this
section
variable {n : Nat} {σ : zS}
theorem ctX4_init (hB : σ n = zO 4 [zn, zi 0]) (hn : 0 < n) : zCt 2 13 1376 yX4_init cX4_init 2 none [zr n] n σ none (n + 13) (zsF σ n) := by
  refine zCt.of (by decide) rfl (Nat.le_of_ble_eq_true rfl) (fun K C => ?_)
  have loop : ∀ k : Nat, k ≤ 4 → K 19 [some (zr n), some (zi (k : Int))] [] (n + 1 + 3 * k) (zsL σ n k) (4 + 343 * k) := by
    refine zloop _ 4 (fun k hk ih => ?_)
    obtain ⟨hB, hA, hg, hm⟩ := zsL_is σ (n := (n : Int)) (by omega) k hk
    have eL : zsL σ n (k + 1) = zsu (zmN (zsL σ n k) ((n : Int) + 1 + 3 * k)) ((n : Int) + 1) (zQ 3 4 (zqf ((n : Int) + 2) 3 (k + 1))) := rfl
    have eF : k = 4 → zsF σ n = zsu (zsL σ n k) ((n : Int) + 1) (zQ 3 4 (fun m => some ((n : Int) + 2 + 3 * m))) := fun e => by rw [e]; rfl
    generalize zsL σ n k = τ at *
    refine x_iload_n C dX4_init_19 rfl ?_
    refine x_iconst C dX4_init_20 ?_
    refine x_icmp_ge (tgt := 43) C dX4_init_21 (by decide) (by omega) (fun c21 => ?_) (fun c21 => ?_)
    · obtain rfl : k = 4 := by omega
      refine x_simq C (fun m => some ((n : Int) + 2 + 3 * m)) hA (fun j h1 h2 => if_pos ⟨h1, h2⟩) ?_
      exact x_vret (st := []) C dX4_init_43 rfl ⟨rfl, by omega, (eF rfl).symm, rfl⟩
    · refine x_aload_n C dX4_init_24 rfl ?_
      refine x_getfield C dX4_init_25 lfX4_11 hB (by omega) rfl ?_
      refine x_iload_n C dX4_init_28 rfl ?_
      refine x_new (ci := 1) C dX4_init_29 rfl ⟨klX4_9, kiX1.1, kiX1.2, inX1⟩ tyX1 tyX1_ok (fs := [zn, zn]) (fun g j hj => match j, hj with | 0, _ => rfl | 1, _ => rfl | _ + 2, h => absurd h (by omega)) (by omega) ?_
      refine x_nm (fun s29 e29 => ?_)
      have hA0 := hA
      have hB0 := hB
      obtain ⟨q, hq⟩ : ∃ q : Int, q = ((n + 1 + 3 * k : Nat) : Int) + 1 := ⟨_, rfl⟩
      rw [← hq] at e29 ⊢
      have hQ := (congrFun e29 q).trans (zsu_s _ _ _)
      have hA := (congrFun e29 ((n : Int) + 1)).trans ((zsu_n _ _ (by omega)).trans hA)
      refine x_dup C dX4_init_32 rfl ?_
      refine x_callIN C dX4_init_33 (ctX1_init (n := n + 1 + 3 * k + 1) hQ (by omega)) okX1_init nkX4_21 ⟨by decide, rfl, rfl, Nat.le_of_ble_eq_true rfl⟩ rfl (Or.inr (by omega)) ?_
      refine x_nm (fun s33 e33 => ?_)
      have e33b : s33 = zmN τ ((n : Int) + 1 + 3 * k) := by
        rw [e33, e29, show q = (n : Int) + 1 + 3 * k + 1 by omega, show ((n + 1 + 3 * k + 1 : Nat) : Int) = (n : Int) + 1 + 3 * k + 1 by omega]
        rfl
      have hM := zmN_is τ (n := (n : Int) + 1 + 3 * k) (N := n + 13) (by omega)
      have hgm := zmN_ag τ ((n : Int) + 1 + 3 * k)
      rw [← e33b] at hM hgm
      have hQ : s33 q = zO 1 [zr ((n : Int) + 1 + 3 * k + 1 + 1), zr ((n : Int) + 1 + 3 * k + 1 + 2)] := by rw [show q = (n : Int) + 1 + 3 * k + 1 by omega]; exact hM.1
      have hA := (hgm ((n : Int) + 1) (by omega)).trans hA0
      have hB := (hgm (n : Int) (by omega)).trans hB0
      refine x_aastore3 C dX4_init_36 hA hQ (by omega) ?_
      refine x_nm (fun s36 e36 => ?_)
      have hB := (congrFun e36 (n:Int)).trans ((zsu_n _ _ (by omega)).trans hB)
      have hA := (congrFun e36 ((n:Int)+1)).trans (zsu_s _ _ _)
      have hQ := (congrFun e36 q).trans ((zsu_n _ _ (by omega)).trans hQ)
      have ih := ih (by omega)
      rw [show ((k + 1 : Nat) : Int) = (k : Int) + 1 by omega] at ih
      rw [show s36 = zsL σ n (k + 1) by rw [e36, zqf_s _ _ (by omega) (by omega), e33b, eL]]
      refine x_iinc C dX4_init_37 rfl (by decide) ?_
      refine x_goto (tgt := 19) C dX4_init_40 (by decide) ?_
      rw [show n + 1 + 3 * k + 1 + 2 = n + 1 + 3 * (k + 1) by omega, show 4 + 343 * k + 2 + 341 = 4 + 343 * (k + 1) by omega]
      exact ih
  refine x_aload_n C dX4_init_0 rfl ?_
  refine x_objInit C dX4_init_1 loX4_3 (by decide) (Nat.le_of_ble_eq_true rfl) ?_
  refine x_aload_n C dX4_init_4 rfl ?_
  refine x_iconst C dX4_init_5 ?_
  refine x_newq3 (L := 4) C dX4_init_6 klX4_9 (by decide) (by omega) ?_
  refine x_nm (fun s6 e6 => ?_)
  have hB := (congrFun e6 (n : Int)).trans ((zsu_n _ _ (by omega)).trans hB)
  have hA := (congrFun e6 ((n : Int) + 1)).trans (zsu_s _ _ _)
  refine x_putFA C dX4_init_9 lfX4_11 lyX4_0 rfl (fun _ _ _ q => by cases q; rfl) hB (by omega) (Nat.le_of_ble_eq_true rfl) ?_
  refine x_nm (fun s9 e9 => ?_)
  have hB := (congrFun e9 (n:Int)).trans (zsu_s _ _ _)
  have hA := (congrFun e9 ((n : Int) + 1)).trans ((zsu_n _ _ (by omega)).trans hA)
  refine x_aload_n C dX4_init_12 rfl ?_
  refine x_iconst C dX4_init_13 ?_
  refine x_putI C dX4_init_14 lfX4_17 lyX4_1 hB (by omega) (Nat.le_of_ble_eq_true rfl) ?_
  refine x_nm (fun s14 e14 => ?_)
  have hB := (congrFun e14 (n:Int)).trans (zsu_s _ _ _)
  have hA := (congrFun e14 ((n : Int) + 1)).trans ((zsu_n _ _ (by omega)).trans hA)
  refine x_iconst C dX4_init_17 ?_
  refine x_istore_n C dX4_init_18 (by decide) ?_
  have l0 := loop 0 (by omega)
  rw [show zsL σ n 0 = s14 by rw [e14, e9, e6, ← zqf_0 ((n : Int) + 2) 3, zsu_u]; rfl] at l0
  exact l0
end
