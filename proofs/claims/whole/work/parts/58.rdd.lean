def zlyv (s z : Int) (Va Ot : Int → Int) (k : Int) : Int := if s = 0 then 0 else if s = 1 then Va k else Ot (k / z) * Va (k % z)
def zlyF (s z br bc : Int) (Va Ot Rd : Int → Int) : Nat → Int → Int := zfo (fun T k => zu T (85 + ((br * z + k / z) * 16 + (bc * z + k % z))) (zlyv s z Va Ot k)) Rd
section
variable {n : Nat} {σ : zS} {P f : Int → Int} {um L p lv br bc : Int} {wl : Bool}
theorem zbl {d a : Int} (hd : 0 ≤ d ∧ d ≤ 3) (ha : 0 ≤ a ∧ a < zp2 d) : 0 ≤ a * zsz d ∧ a * zsz d + zsz d ≤ 16 := by
  have hz := zsz_v hd
  have hzp := zsz_p2 hd
  have h1 : 0 ≤ a * zsz d := Int.mul_nonneg ha.1 (by omega)
  have h2 : (a + 1) * zsz d ≤ zp2 d * zsz d := Int.mul_le_mul_of_nonneg_right (by omega) (by omega)
  rw [Int.mul_comm (zp2 d), hzp, Int.add_mul] at h2
  omega
theorem ctX6_laysRead {Va Ot Rd : Int → Int} (hM : σ 145 = zMO um L p wl lv br bc) (hR : σ 152 = zA 341 Rd) (hV : σ 153 = zA 256 Va) (hO : σ 154 = zA 16 Ot) (hn : 155 ≤ n) (hl : 0 ≤ lv ∧ lv ≤ 3) (hb : 0 ≤ br ∧ br < zp2 lv) (hc : 0 ≤ bc ∧ bc < zp2 lv) (s : Int) (hs : 0 ≤ s ∧ s ≤ 2) : zCt 2 0 0 yX6_laysRead cX6_laysRead 5 none [zr 145, zi s] n σ none n (zsu σ 152 (zA 341 (zlyF s (zsz lv) br bc Va Ot (zu Rd (zmn lv br bc) s) (zsz lv * zsz lv).toNat))) := by
  have hz := zmn_in hl hb hc
  have h1 := zbl hl hb
  have h2 := zbl hl hc
  obtain ⟨N, hN, hN2⟩ := zszN hl
  have hSz := ctX6_sizeAt (n := n) (σ := σ) lv hl
  rw [hN] at h1 h2 hSz ⊢
  rw [show ((N : Int) * N).toNat = N * N by rw [← Int.natCast_mul]; rfl]
  have hNN : N * N ≤ 256 := Nat.mul_le_mul hN2.2 hN2.2
  have hcast : ((N * N : Nat) : Int) = (N : Int) * N := Int.natCast_mul N N
  refine zCt.of (by decide) rfl (Nat.le_of_ble_eq_true rfl) (fun K C => ?_)
  have loop : ∀ k : Nat, k ≤ N * N → K 31 [some (zr 145), some (zi s), some (zi (N : Int)), some (zi (k : Int)), none] [] n (zsu σ 152 (zA 341 (zlyF s N br bc Va Ot (zu Rd (zmn lv br bc) s) k))) 0 := by
    refine zloop _ (N * N) (fun k hk ih => ?_)
    have eT : zlyF s N br bc Va Ot (zu Rd (zmn lv br bc) s) (k + 1) = zu (zlyF s N br bc Va Ot (zu Rd (zmn lv br bc) s) k) (85 + ((br * N + k / N) * 16 + (bc * N + k % N))) (zlyv s N Va Ot k) := rfl
    generalize hT : zlyF s N br bc Va Ot (zu Rd (zmn lv br bc) s) k = T at *
    have hM := (zsu_n σ (zA 341 T) (show (145 : Int) ≠ 152 by decide)).trans hM
    have hR := zsu_s σ 152 (zA 341 T)
    have hV := (zsu_n σ (zA 341 T) (show (153 : Int) ≠ 152 by decide)).trans hV
    have hO := (zsu_n σ (zA 341 T) (show (154 : Int) ≠ 152 by decide)).trans hO
    have back : k < N * N → ∀ v : Int, v = zlyv s N Va Ot k → K 112 [some (zr 145), some (zi s), some (zi (N : Int)), some (zi (k : Int)), some (zi (85 + 16 * (br * N + k / N) + bc * N + k % N))] [zi v, zi (85 + 16 * (br * N + k / N) + bc * N + k % N), zr 152] n (zsu σ 152 (zA 341 T)) 0 := by
      intro hk2 v hv
      have hd := zdm (N := N) (k := k) hk2
      have ih := ih hk2
      rw [eT, ← hv, show 85 + ((br * (N : Int) + (k : Int) / N) * 16 + (bc * N + (k : Int) % N)) = 85 + 16 * (br * N + (k : Int) / N) + bc * N + (k : Int) % N by omega] at ih
      refine x_iastore C dX6_laysRead_112 hR (by omega) ?_
      refine x_nm (fun s112 e112 => ?_)
      rw [e112, zsu_u]
      refine x_iinc C dX6_laysRead_113 rfl (by decide) ?_
      refine x_goto (tgt := 31) C dX6_laysRead_116 (by decide) ?_
      exact x_wk C rfl ih
    refine x_iload_n C dX6_laysRead_31 rfl ?_
    refine x_iload_n C dX6_laysRead_32 rfl ?_
    refine x_iload_n C dX6_laysRead_33 rfl ?_
    refine x_imul C dX6_laysRead_34 ?_
    refine x_icmp_ge (tgt := 119) C dX6_laysRead_35 (by decide) (by omega) (fun c35 => ?_) (fun c35 => ?_)
    · exact x_vret (st := []) C dX6_laysRead_119 rfl ⟨rfl, rfl, by rw [← hT, show k = N * N by omega], rfl⟩
    · have hd := zdm (N := N) (k := k) (by omega)
      refine x_bipush C dX6_laysRead_38 (by decide) ?_
      refine x_bipush C dX6_laysRead_40 (by decide) ?_
      refine x_aload_n C dX6_laysRead_42 rfl ?_
      refine x_getfield C dX6_laysRead_43 lfX6_214 hM (by omega) rfl ?_
      refine x_iload_n C dX6_laysRead_46 rfl ?_
      refine x_imul C dX6_laysRead_47 ?_
      refine x_iload_n C dX6_laysRead_48 rfl ?_
      refine x_iload_n C dX6_laysRead_49 rfl ?_
      refine x_idiv C dX6_laysRead_50 (by omega) ?_
      refine x_iadd C dX6_laysRead_51 ?_
      refine x_imul C dX6_laysRead_52 ?_
      refine x_iadd C dX6_laysRead_53 ?_
      refine x_aload_n C dX6_laysRead_54 rfl ?_
      refine x_getfield C dX6_laysRead_55 lfX6_217 hM (by omega) rfl ?_
      refine x_iload_n C dX6_laysRead_58 rfl ?_
      refine x_imul C dX6_laysRead_59 ?_
      refine x_iadd C dX6_laysRead_60 ?_
      refine x_iload_n C dX6_laysRead_61 rfl ?_
      refine x_iload_n C dX6_laysRead_62 rfl ?_
      refine x_irem C dX6_laysRead_63 (by omega) ?_
      refine x_iadd C dX6_laysRead_64 ?_
      refine x_istore C dX6_laysRead_65 (by decide) ?_
      refine x_aload_n C dX6_laysRead_67 rfl ?_
      refine x_getfield C dX6_laysRead_68 lfX6_29 hM (by omega) rfl ?_
      refine x_iload C dX6_laysRead_71 rfl ?_
      refine x_iload_n C dX6_laysRead_73 rfl ?_
      refine x_if_ne (tgt := 81) C dX6_laysRead_74 (by decide) (by omega) (fun c74 => ?_) (fun c74 => ?_)
      · refine x_iload_n C dX6_laysRead_81 rfl ?_
        refine x_iconst C dX6_laysRead_82 ?_
        refine x_icmp_ne (tgt := 95) C dX6_laysRead_83 (by decide) (by omega) (fun c83 => ?_) (fun c83 => ?_)
        · have ev : Ot ((k : Int) / N) * Va ((k : Int) % N) = zlyv s N Va Ot k := ((if_neg c74).trans (if_neg c83)).symm
          refine x_aload_n C dX6_laysRead_95 rfl ?_
          refine x_getfield C dX6_laysRead_96 lfX6_35 hM (by omega) rfl ?_
          refine x_iload_n C dX6_laysRead_99 rfl ?_
          refine x_iload_n C dX6_laysRead_100 rfl ?_
          refine x_idiv C dX6_laysRead_101 (by omega) ?_
          refine x_iaload C dX6_laysRead_102 hO (by omega) ?_
          refine x_aload_n C dX6_laysRead_103 rfl ?_
          refine x_getfield C dX6_laysRead_104 lfX6_32 hM (by omega) rfl ?_
          refine x_iload_n C dX6_laysRead_107 rfl ?_
          refine x_iload_n C dX6_laysRead_108 rfl ?_
          refine x_irem C dX6_laysRead_109 (by omega) ?_
          refine x_iaload C dX6_laysRead_110 hV (by omega) ?_
          refine x_imul C dX6_laysRead_111 ?_
          exact back (by omega) _ ev
        · have ev : Va k = zlyv s N Va Ot k := ((if_neg c74).trans (if_pos c83)).symm
          refine x_aload_n C dX6_laysRead_86 rfl ?_
          refine x_getfield C dX6_laysRead_87 lfX6_32 hM (by omega) rfl ?_
          refine x_iload_n C dX6_laysRead_90 rfl ?_
          refine x_iaload C dX6_laysRead_91 hV (by omega) ?_
          refine x_goto (tgt := 112) C dX6_laysRead_92 (by decide) ?_
          exact back (by omega) _ ev
      · have ev : (0 : Int) = zlyv s N Va Ot k := (if_pos c74).symm
        refine x_iconst C dX6_laysRead_77 ?_
        refine x_goto (tgt := 112) C dX6_laysRead_78 (by decide) ?_
        exact back (by omega) _ ev
  refine x_aload_n C dX6_laysRead_0 rfl ?_
  refine x_getfield C dX6_laysRead_1 lfX6_211 hM (by omega) rfl ?_
  refine x_callS C dX6_laysRead_4 hSz okX6_sizeAt lkX6_67 ⟨by decide, rfl, rfl, Nat.le_of_ble_eq_true rfl⟩ rfl (Or.inl ⟨rfl, rfl⟩) ?_
  refine x_istore_n C dX6_laysRead_7 (by decide) ?_
  refine x_aload_n C dX6_laysRead_8 rfl ?_
  refine x_getfield C dX6_laysRead_9 lfX6_29 hM (by omega) rfl ?_
  refine x_aload_n C dX6_laysRead_12 rfl ?_
  refine x_getfield C dX6_laysRead_13 lfX6_211 hM (by omega) rfl ?_
  refine x_aload_n C dX6_laysRead_16 rfl ?_
  refine x_getfield C dX6_laysRead_17 lfX6_214 hM (by omega) rfl ?_
  refine x_aload_n C dX6_laysRead_20 rfl ?_
  refine x_getfield C dX6_laysRead_21 lfX6_217 hM (by omega) rfl ?_
  refine x_callS C dX6_laysRead_24 (ctX6_node lv br bc hl) okX6_node lkX6_49 ⟨by decide, rfl, rfl, Nat.le_of_ble_eq_true rfl⟩ rfl (Or.inl ⟨rfl, rfl⟩) ?_
  refine x_iload_n C dX6_laysRead_27 rfl ?_
  refine x_iastore C dX6_laysRead_28 hR (by omega) ?_
  refine x_nm (fun s28 e28 => ?_)
  have hM := (congrFun e28 145).trans ((zsu_n _ _ (by omega)).trans hM)
  have hR := (congrFun e28 152).trans (zsu_s _ _ _)
  have hV := (congrFun e28 153).trans ((zsu_n _ _ (by omega)).trans hV)
  have hO := (congrFun e28 154).trans ((zsu_n _ _ (by omega)).trans hO)
  refine x_iconst C dX6_laysRead_29 ?_
  refine x_istore_n C dX6_laysRead_30 (by decide) ?_
  have l0 := loop 0 (by omega)
  rw [show zlyF s N br bc Va Ot (zu Rd (zmn lv br bc) s) 0 = zu Rd (zmn lv br bc) s from rfl, ← e28] at l0
  exact x_wk C rfl l0
end
