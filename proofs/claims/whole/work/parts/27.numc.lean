def zmask : List (Option zV) → List (Option zV) → List (Option zV)
  | none :: a, _ :: b => none :: zmask a b
  | some _ :: a, o :: b => o :: zmask a b
  | _, _ => []
theorem zmask_g : ∀ (a b : List (Option zV)) (j : Nat) (u : zV), zg (zmask a b) j = some u → zg b j = some u
  | none :: a, _ :: b, 0, u, h => by cases h
  | none :: a, _ :: b, j + 1, u, h => zmask_g a b j u h
  | some _ :: a, o :: b, 0, u, h => h
  | some _ :: a, o :: b, j + 1, u, h => zmask_g a b j u h
  | [], _, j, u, h => by cases j <;> cases h
  | none :: _, [], j, u, h => by cases j <;> cases h
  | some _ :: _, [], j, u, h => by cases j <;> cases h
theorem x_wk {y : MethodName} {cc : ByteArray} {ml : Nat} {ret : Option FieldType} {h mc ms n0 : Nat} {Ret : zRT} {K : zKT} (C : zX y cc ml ret h mc ms n0 Ret K) {pc : Nat} {Lo Lo' : List (Option zV)} {st : List zV} {n : Nat} {σ : zS} {w : Nat} (hw : zmask Lo' Lo = Lo') (k : K pc Lo' st n σ w) : K pc Lo st n σ w :=
  x_weak C (fun j u hj => zmask_g Lo' Lo j u (by rw [hw]; exact hj)) k
theorem zdv {a b : Int} (hb : b ≠ 0) (x : Int) : a + x * b = 0 ↔ a.tmod b = 0 ∧ x = -(a.tdiv b) := by
  have h := Int.mul_tdiv_add_tmod a b
  constructor
  · intro e
    have e2 : a = -x * b := by rw [Int.neg_mul]; omega
    have h1 : a.tmod b = 0 := by rw [e2]; exact Int.mul_tmod_left _ _
    have h2 : a.tdiv b = -x := by rw [e2]; exact Int.mul_tdiv_cancel _ hb
    exact ⟨h1, by omega⟩
  · rintro ⟨h1, rfl⟩
    rw [h1, Int.mul_comm] at h
    rw [Int.neg_mul]
    omega
theorem ztd {a b : Int} (ha : -1000000 ≤ a ∧ a ≤ 1000000) : -1000000 ≤ a.tdiv b ∧ a.tdiv b ≤ 1000000 := by
  have h1 := Int.natAbs_tdiv_le_natAbs a b
  omega
theorem ztm {a b : Int} (ha : -1000000 ≤ a ∧ a ≤ 1000000) : -1000000 ≤ a.tmod b ∧ a.tmod b ≤ 1000000 := by
  have h1 : (a.tmod b).natAbs ≤ a.natAbs := by
    rw [Int.natAbs_tmod]
    exact Nat.mod_le _ _
  omega
section
variable {n : Nat} {σ : zS}
/-- of so many cells: those that would be 0 in the sum -/
def zzr (e e2 : Int → Int) (x : Int) : Nat → Int := zsm (fun j => if e j + x * e2 j = 0 then 1 else 0)
def zz1 (e e2 : Int → Int) (x : Int) : Nat → Int := zsm (fun j => if e2 j ≠ 0 ∧ e j + x * e2 j = 0 then 1 else 0)
def zz0 (e e2 : Int → Int) : Nat → Int := zsm (fun j => if e2 j = 0 ∧ e j = 0 then 1 else 0)
theorem zzr_sum (e e2 : Int → Int) (x : Int) : ∀ k, zzr e e2 x k = zz1 e e2 x k + zz0 e e2 k
  | 0 => rfl
  | k + 1 => by
    have ih := zzr_sum e e2 x k
    show zzr e e2 x k + (if e k + x * e2 k = 0 then 1 else 0) = (zz1 e e2 x k + (if e2 k ≠ 0 ∧ e k + x * e2 k = 0 then 1 else 0)) + (zz0 e e2 k + (if e2 k = 0 ∧ e k = 0 then 1 else 0))
    by_cases h2 : e2 k = 0
    · by_cases h1 : e k = 0
      · simp only [h1, h2, Int.mul_zero, Int.add_zero, ne_eq, not_true_eq_false, false_and, if_false, if_true, and_self]; omega
      · simp only [h1, h2, Int.mul_zero, Int.add_zero, ne_eq, not_true_eq_false, false_and, and_false, if_false]; omega
    · by_cases h1 : e k + x * e2 k = 0
      · simp only [h1, h2, ne_eq, not_false_eq_true, true_and, false_and, if_false, if_true, and_self]; omega
      · simp only [h1, h2, ne_eq, and_false, false_and, if_false]; omega
theorem zz_in (g : Int → Int) (hg : ∀ j, 0 ≤ g j ∧ g j ≤ 1) : ∀ k : Nat, 0 ≤ zsm g k ∧ zsm g k ≤ k
  | 0 => ⟨Int.le_refl 0, Int.le_refl 0⟩
  | k + 1 => by
    have ih := zz_in g hg k
    have h1 := hg k
    show 0 ≤ zsm g k + g k ∧ zsm g k + g k ≤ ((k + 1 : Nat) : Int)
    omega
theorem z01 (c : Prop) [Decidable c] : 0 ≤ (if c then (1 : Int) else 0) ∧ (if c then (1 : Int) else 0) ≤ 1 := by
  split <;> decide
theorem ctX5_countZeros {h h2 : Int} {e t e2 t2 z : Int → Int} (hB : isB σ n) (hz : σ 114 = zA 199 z) (hm : isM σ n h e t) (hm2 : isM σ n h2 e2 t2) (he : zBd e) (he2 : zBd e2) (hd : h + 2 < 114 ∧ h2 + 2 < 114) : zCt 2 0 0 yX5_countZeros cX5_countZeros 7 none [zr 1, zr h, zr h2] n σ none n (zsu σ 114 (zA 199 (fun k => if 0 ≤ k ∧ k < 199 then zzr e e2 (k - 99) 256 else z k))) := by
  have hn := hB.2
  have hhm := hm.2.2.2
  have hhm2 := hm2.2.2.2
  refine zCt.of (by decide) rfl (Nat.le_of_ble_eq_true rfl) (fun K C => ?_)
  have loop3 : ∀ k : Nat, k ≤ 199 → K 126 [some (zr 1), some (zr h), some (zr h2), some (zi (zz0 e e2 256)), some (zi (k : Int)), none, none] [] n (zsu σ 114 (zA 199 (fun j => if 0 ≤ j ∧ j < 199 then (if j < k then zzr e e2 (j - 99) 256 else zz1 e e2 (j - 99) 256) else z j))) 0 := by
    refine zloop _ 199 (fun k hk ih => ?_)
    have hB0 := (zsu_n σ (zA 199 (fun j => if 0 ≤ j ∧ j < 199 then (if j < k then zzr e e2 (j - 99) 256 else zz1 e e2 (j - 99) 256) else z j)) (show (1 : Int) ≠ 114 by decide)).trans hB.1
    have hZ := zsu_s σ 114 (zA 199 (fun j => if 0 ≤ j ∧ j < 199 then (if j < (k : Int) then zzr e e2 (j - 99) 256 else zz1 e e2 (j - 99) 256) else z j))
    refine x_iload C dX5_countZeros_126 rfl ?_
    refine x_aload_n C dX5_countZeros_128 rfl ?_
    refine x_getfield C dX5_countZeros_129 lfX5_43 hB0 (by omega) rfl ?_
    refine x_alen0 C dX5_countZeros_132 hZ (by omega) ?_
    refine x_icmp_ge (tgt := 153) C dX5_countZeros_133 (by decide) (by omega) (fun c133 => ?_) (fun c133 => ?_)
    · exact x_vret (st := []) C dX5_countZeros_153 rfl ⟨rfl, rfl, congrArg (fun q => zsu σ 114 (zA 199 q)) (funext fun j => by
  by_cases q : 0 ≤ j ∧ j < 199
  · rw [if_pos q, if_pos q, if_pos (by omega)]
  · rw [if_neg q, if_neg q]), rfl⟩
    · refine x_aload_n C dX5_countZeros_136 rfl ?_
      refine x_getfield C dX5_countZeros_137 lfX5_43 hB0 (by omega) rfl ?_
      refine x_iload C dX5_countZeros_140 rfl ?_
      refine x_dup2 C dX5_countZeros_142 ⟨rfl, rfl⟩ ?_
      refine x_iaload C dX5_countZeros_143 hZ (by omega) ?_
      refine x_iload_n C dX5_countZeros_144 rfl ?_
      refine x_iadd C dX5_countZeros_145 ?_
      refine x_iastore C dX5_countZeros_146 hZ (by omega) ?_
      rw [zsu_u]
      refine x_iinc C dX5_countZeros_147 rfl (by decide) ?_
      refine x_goto (tgt := 126) C dX5_countZeros_150 (by decide) ?_
      have e9 : zu (fun j => if 0 ≤ j ∧ j < 199 then (if j < (k : Int) then zzr e e2 (j - 99) 256 else zz1 e e2 (j - 99) 256) else z j) k ((if 0 ≤ (k : Int) ∧ (k : Int) < 199 then (if (k : Int) < (k : Int) then zzr e e2 ((k : Int) - 99) 256 else zz1 e e2 ((k : Int) - 99) 256) else z k) + zz0 e e2 256) = fun j => if 0 ≤ j ∧ j < 199 then (if j < ((k + 1 : Nat) : Int) then zzr e e2 (j - 99) 256 else zz1 e e2 (j - 99) 256) else z j := by
        funext j
        unfold zu
        by_cases q : j = k
        · rw [if_pos q, if_pos (by omega), if_neg (by omega), if_pos (by omega), if_pos (by omega), q, zzr_sum]
        · rw [if_neg q]
          dsimp only
          by_cases q2 : 0 ≤ j ∧ j < 199
          · rw [if_pos q2, if_pos q2]
            by_cases q3 : j < (k : Int)
            · rw [if_pos q3, if_pos (by omega)]
            · rw [if_neg q3, if_neg (by omega)]
          · rw [if_neg q2, if_neg q2]
      have ih := ih (by omega)
      rw [← e9] at ih
      exact ih
  have loop2 : ∀ k : Nat, k ≤ 256 → K 32 [some (zr 1), some (zr h), some (zr h2), some (zi (zz0 e e2 k)), some (zi (k : Int)), none, none] [] n (zsu σ 114 (zA 199 (fun j => if 0 ≤ j ∧ j < 199 then zz1 e e2 (j - 99) k else z j))) 0 := by
    refine zloop _ 256 (fun k hk ih => ?_)
    have hB0 := (zsu_n σ (zA 199 (fun j => if 0 ≤ j ∧ j < 199 then zz1 e e2 (j - 99) k else z j)) (show (1 : Int) ≠ 114 by decide)).trans hB.1
    have hZ := zsu_s σ 114 (zA 199 (fun j => if 0 ≤ j ∧ j < 199 then zz1 e e2 (j - 99) k else z j))
    obtain ⟨hM, hE, hT, hh⟩ := hm.ag (zAg.su σ 114 (zA 199 (fun j => if 0 ≤ j ∧ j < 199 then zz1 e e2 (j - 99) k else z j))) (by omega)
    obtain ⟨hM2, hE2, hT2, hh2⟩ := hm2.ag (zAg.su σ 114 (zA 199 (fun j => if 0 ≤ j ∧ j < 199 then zz1 e e2 (j - 99) k else z j))) (by omega)
    have b1 := he k
    have b2 := he2 k
    have b3 := ztd (b := e2 k) b1
    have b4 := ztm (b := e2 k) b1
    have hnext : (∀ x : Int, -99 ≤ x → x ≤ 99 → ¬ (e2 k ≠ 0 ∧ e k + x * e2 k = 0)) → (fun j => if 0 ≤ j ∧ j < 199 then zz1 e e2 (j - 99) (k + 1) else z j) = (fun j => if 0 ≤ j ∧ j < 199 then zz1 e e2 (j - 99) k else z j) := fun hx => funext fun j => by
      by_cases q : 0 ≤ j ∧ j < 199
      · rw [if_pos q, if_pos q]
        show zz1 e e2 (j - 99) k + (if e2 k ≠ 0 ∧ e k + (j - 99) * e2 k = 0 then 1 else 0) = _
        rw [if_neg (hx _ (by omega) (by omega)), Int.add_zero]
      · rw [if_neg q, if_neg q]
    have hend : ∀ (a : Int) (τ : zS), zz0 e e2 (k + 1) = a → k < 256 → zsu σ 114 (zA 199 (fun j => if 0 ≤ j ∧ j < 199 then zz1 e e2 (j - 99) (k + 1) else z j)) = τ → K 117 [some (zr 1), some (zr h), some (zr h2), some (zi a), some (zi (k : Int)), none, none] [] n τ 0 := by
      rintro a τ rfl hk2 rfl
      refine x_iinc C dX5_countZeros_117 rfl (by decide) ?_
      refine x_goto (tgt := 32) C dX5_countZeros_120 (by decide) ?_
      exact ih hk2
    have hwk : ∀ (a p q : Int) (τ : zS), K 117 [some (zr 1), some (zr h), some (zr h2), some (zi a), some (zi (k : Int)), none, none] [] n τ 0 → K 117 [some (zr 1), some (zr h), some (zr h2), some (zi a), some (zi (k : Int)), some (zi p), some (zi q)] [] n τ 0 := fun a p q τ hw => x_wk C rfl hw
    refine x_iload C dX5_countZeros_32 rfl ?_
    refine x_sipush C dX5_countZeros_34 (by decide) ?_
    refine x_icmp_ge (tgt := 123) C dX5_countZeros_37 (by decide) (by omega) (fun c37 => ?_) (fun c37 => ?_)
    · obtain rfl : k = 256 := by omega
      refine x_iconst C dX5_countZeros_123 ?_
      refine x_istore C dX5_countZeros_124 (by decide) ?_
      have l3 := loop3 0 (by omega)
      rw [show (fun j => if 0 ≤ j ∧ j < 199 then (if j < ((0 : Nat) : Int) then zzr e e2 (j - 99) 256 else zz1 e e2 (j - 99) 256) else z j) = fun j => if 0 ≤ j ∧ j < 199 then zz1 e e2 (j - 99) 256 else z j from funext fun j => by
        by_cases q : 0 ≤ j ∧ j < 199
        · rw [if_pos q, if_pos q, if_neg (by omega)]
        · rw [if_neg q, if_neg q]] at l3
      skip
      exact x_wk C (Lo' := [some (zr 1), some (zr h), some (zr h2), some (zi (zz0 e e2 256)), some (zi 0), none, none]) rfl l3
    · refine x_aload_n C dX5_countZeros_40 rfl ?_
      refine x_getfieldN C dX5_countZeros_41 nfX5_225 hM (by omega) rfl ?_
      refine x_iload C dX5_countZeros_44 rfl ?_
      refine x_iaload C dX5_countZeros_46 hE (by omega) ?_
      refine x_istore C dX5_countZeros_47 (by decide) ?_
      refine x_aload_n C dX5_countZeros_49 rfl ?_
      refine x_getfieldN C dX5_countZeros_50 nfX5_225 hM2 (by omega) rfl ?_
      refine x_iload C dX5_countZeros_53 rfl ?_
      refine x_iaload C dX5_countZeros_55 hE2 (by omega) ?_
      refine x_istore C dX5_countZeros_56 (by decide) ?_
      refine x_iload C dX5_countZeros_58 rfl ?_
      refine x_if_ne (tgt := 79) C dX5_countZeros_60 (by decide) (by omega) (fun c60 => ?_) (fun c60 => ?_)
      · refine x_iload C dX5_countZeros_79 rfl ?_
        refine x_iload C dX5_countZeros_81 rfl ?_
        refine x_irems C dX5_countZeros_83 (by omega) ?_
        refine x_if_ne (tgt := 117) C dX5_countZeros_84 (by decide) (by omega) (fun c84 => ?_) (fun c84 => ?_)
        · have hz9 : zz0 e e2 (k + 1) = zz0 e e2 k := by show zz0 e e2 k + (if e2 k = 0 ∧ e k = 0 then 1 else 0) = _; rw [if_neg (fun q => c60 q.1), Int.add_zero]
          have hf9 : zsu σ 114 (zA 199 (fun j => if 0 ≤ j ∧ j < 199 then zz1 e e2 (j - 99) (k + 1) else z j)) = zsu σ 114 (zA 199 (fun j => if 0 ≤ j ∧ j < 199 then zz1 e e2 (j - 99) k else z j)) := by rw [hnext (fun x x1 x2 q => c84 ((zdv q.1 x).mp q.2).1)]
          refine hwk _ _ _ _ ?_
          exact hend _ _ hz9 (by omega) hf9
        · refine x_iload C dX5_countZeros_87 rfl ?_
          refine x_iload C dX5_countZeros_89 rfl ?_
          refine x_idivs C dX5_countZeros_91 (by omega) ?_
          refine x_bipush C dX5_countZeros_92 (by decide) ?_
          refine x_callS C dX5_countZeros_94 (ctX5_isWithin _ _ (by omega) (by decide)) okX5_isWithin lkX5_83 ⟨by decide, rfl, rfl, Nat.le_of_ble_eq_true rfl⟩ rfl (Or.inl ⟨rfl, rfl⟩) ?_
          refine x_ifeq_d (tgt := 117) C dX5_countZeros_97 (by decide) (fun c97 => ?_) (fun c97 => ?_)
          · have hz9 : zz0 e e2 (k + 1) = zz0 e e2 k := by show zz0 e e2 k + (if e2 k = 0 ∧ e k = 0 then 1 else 0) = _; rw [if_neg (fun q => c60 q.1), Int.add_zero]
            have hf9 : zsu σ 114 (zA 199 (fun j => if 0 ≤ j ∧ j < 199 then zz1 e e2 (j - 99) (k + 1) else z j)) = zsu σ 114 (zA 199 (fun j => if 0 ≤ j ∧ j < 199 then zz1 e e2 (j - 99) k else z j)) := by rw [hnext (fun x x1 x2 q => c97 (by have := ((zdv q.1 x).mp q.2).2; omega))]
            refine hwk _ _ _ _ ?_
            exact hend _ _ hz9 (by omega) hf9
          · have hz9 : zz0 e e2 (k + 1) = zz0 e e2 k := by show zz0 e e2 k + (if e2 k = 0 ∧ e k = 0 then 1 else 0) = _; rw [if_neg (fun q => c60 q.1), Int.add_zero]
            have hf9 : zsu σ 114 (zA 199 (fun j => if 0 ≤ j ∧ j < 199 then zz1 e e2 (j - 99) (k + 1) else z j)) = zsu σ 114 (zA 199 (zu (fun j => if 0 ≤ j ∧ j < 199 then zz1 e e2 (j - 99) k else z j) (99 - (e k).tdiv (e2 k)) ((if 0 ≤ 99 - (e k).tdiv (e2 k) ∧ 99 - (e k).tdiv (e2 k) < 199 then zz1 e e2 (99 - (e k).tdiv (e2 k) - 99) k else z (99 - (e k).tdiv (e2 k))) + 1))) := congrArg (fun q => zsu σ 114 (zA 199 q)) (funext fun j => by
              unfold zu
              by_cases q1 : j = 99 - (e k).tdiv (e2 k)
              · rw [if_pos q1, if_pos (by omega), if_pos (by omega), ← q1]
                show zz1 e e2 (j - 99) k + (if e2 k ≠ 0 ∧ e k + (j - 99) * e2 k = 0 then 1 else 0) = _
                rw [if_pos ⟨c60, (zdv c60 _).mpr ⟨c84, by omega⟩⟩]
              · rw [if_neg q1]
                dsimp only
                by_cases q : 0 ≤ j ∧ j < 199
                · rw [if_pos q, if_pos q]
                  show zz1 e e2 (j - 99) k + (if e2 k ≠ 0 ∧ e k + (j - 99) * e2 k = 0 then 1 else 0) = _
                  rw [if_neg (fun q2 => q1 (by have := ((zdv q2.1 _).mp q2.2).2; omega)), Int.add_zero]
                · rw [if_neg q, if_neg q])
            refine x_aload_n C dX5_countZeros_100 rfl ?_
            refine x_getfield C dX5_countZeros_101 lfX5_43 hB0 (by omega) rfl ?_
            refine x_bipush C dX5_countZeros_104 (by decide) ?_
            refine x_iload C dX5_countZeros_106 rfl ?_
            refine x_iload C dX5_countZeros_108 rfl ?_
            refine x_idivs C dX5_countZeros_110 (by omega) ?_
            refine x_isub C dX5_countZeros_111 ?_
            refine x_dup2 C dX5_countZeros_112 ⟨rfl, rfl⟩ ?_
            refine x_iaload C dX5_countZeros_113 hZ (by omega) ?_
            refine x_iconst C dX5_countZeros_114 ?_
            refine x_iadd C dX5_countZeros_115 ?_
            refine x_iastore C dX5_countZeros_116 hZ (by omega) ?_
            rw [zsu_u]
            refine hwk _ _ _ _ ?_
            exact hend _ _ hz9 (by omega) hf9
      · refine x_iload_n C dX5_countZeros_63 rfl ?_
        refine x_iload C dX5_countZeros_64 rfl ?_
        refine x_if_ne (tgt := 73) C dX5_countZeros_66 (by decide) (by omega) (fun c66 => ?_) (fun c66 => ?_)
        · have hz9 : zz0 e e2 (k + 1) = zz0 e e2 k + 0 := by show zz0 e e2 k + (if e2 k = 0 ∧ e k = 0 then 1 else 0) = _; rw [if_neg (fun q => c66 q.2)]
          have hf9 : zsu σ 114 (zA 199 (fun j => if 0 ≤ j ∧ j < 199 then zz1 e e2 (j - 99) (k + 1) else z j)) = zsu σ 114 (zA 199 (fun j => if 0 ≤ j ∧ j < 199 then zz1 e e2 (j - 99) k else z j)) := by rw [hnext (fun x _ _ q => q.1 c60)]
          refine x_iconst C dX5_countZeros_73 ?_
          refine x_iadd C dX5_countZeros_74 ?_
          refine x_istore_n C dX5_countZeros_75 (by decide) ?_
          refine x_goto (tgt := 117) C dX5_countZeros_76 (by decide) ?_
          refine hwk _ _ _ _ ?_
          exact hend _ _ hz9 (by omega) hf9
        · have hz9 : zz0 e e2 (k + 1) = zz0 e e2 k + 1 := by show zz0 e e2 k + (if e2 k = 0 ∧ e k = 0 then 1 else 0) = _; rw [if_pos ⟨c60, c66⟩]
          have hf9 : zsu σ 114 (zA 199 (fun j => if 0 ≤ j ∧ j < 199 then zz1 e e2 (j - 99) (k + 1) else z j)) = zsu σ 114 (zA 199 (fun j => if 0 ≤ j ∧ j < 199 then zz1 e e2 (j - 99) k else z j)) := by rw [hnext (fun x _ _ q => q.1 c60)]
          refine x_iconst C dX5_countZeros_69 ?_
          refine x_goto (tgt := 74) C dX5_countZeros_70 (by decide) ?_
          refine x_iadd C dX5_countZeros_74 ?_
          refine x_istore_n C dX5_countZeros_75 (by decide) ?_
          refine x_goto (tgt := 117) C dX5_countZeros_76 (by decide) ?_
          refine hwk _ _ _ _ ?_
          exact hend _ _ hz9 (by omega) hf9
  have loop1 : ∀ k : Nat, k ≤ 199 → K 5 [some (zr 1), some (zr h), some (zr h2), some (zi 0), some (zi (k : Int)), none, none] [] n (zsu σ 114 (zA 199 (fun j => if 0 ≤ j ∧ j < k then 0 else z j))) 0 := by
    refine zloop _ 199 (fun k hk ih => ?_)
    have hB0 := (zsu_n σ (zA 199 (fun j => if 0 ≤ j ∧ j < (k : Int) then 0 else z j)) (show (1 : Int) ≠ 114 by decide)).trans hB.1
    have hZ := zsu_s σ 114 (zA 199 (fun j => if 0 ≤ j ∧ j < (k : Int) then 0 else z j))
    refine x_iload C dX5_countZeros_5 rfl ?_
    refine x_aload_n C dX5_countZeros_7 rfl ?_
    refine x_getfield C dX5_countZeros_8 lfX5_43 hB0 (by omega) rfl ?_
    refine x_alen0 C dX5_countZeros_11 hZ (by omega) ?_
    refine x_icmp_ge (tgt := 29) C dX5_countZeros_12 (by decide) (by omega) (fun c12 => ?_) (fun c12 => ?_)
    · refine x_iconst C dX5_countZeros_29 ?_
      refine x_istore C dX5_countZeros_30 (by decide) ?_
      rw [show k = 199 by omega]
      exact loop2 0 (by omega)
    · refine x_aload_n C dX5_countZeros_15 rfl ?_
      refine x_getfield C dX5_countZeros_16 lfX5_43 hB0 (by omega) rfl ?_
      refine x_iload C dX5_countZeros_19 rfl ?_
      refine x_iconst C dX5_countZeros_21 ?_
      refine x_iastore C dX5_countZeros_22 hZ (by omega) ?_
      rw [zsu_u]
      refine x_iinc C dX5_countZeros_23 rfl (by decide) ?_
      refine x_goto (tgt := 5) C dX5_countZeros_26 (by decide) ?_
      have ih := ih (by omega)
      rw [show (fun j => if 0 ≤ j ∧ j < ((k + 1 : Nat) : Int) then 0 else z j) = zu (fun j => if 0 ≤ j ∧ j < (k : Int) then 0 else z j) k 0 from funext fun j => by
        unfold zu
        by_cases q : j = k
        · rw [if_pos q, if_pos (by omega)]
        · rw [if_neg q]
          dsimp only
          by_cases q2 : 0 ≤ j ∧ j < (k : Int)
          · rw [if_pos q2, if_pos (by omega)]
          · rw [if_neg q2, if_neg (by omega)]] at ih
      exact ih
  have hB0 := hB.1
  refine x_iconst C dX5_countZeros_0 ?_
  refine x_istore_n C dX5_countZeros_1 (by decide) ?_
  refine x_iconst C dX5_countZeros_2 ?_
  refine x_istore C dX5_countZeros_3 (by decide) ?_
  have l0 := loop1 0 (by omega)
  rw [show (fun j => if 0 ≤ j ∧ j < ((0 : Nat) : Int) then 0 else z j) = z from funext fun j => if_neg (by omega), zsu_self hz] at l0
  exact l0
end
