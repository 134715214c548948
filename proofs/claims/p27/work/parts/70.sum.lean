/-! THE TWO ANSWERS ARE THE SAME: sums over blocks -/
theorem zsm_cg {g h : Int → Int} : ∀ k : Nat, (∀ j : Nat, j < k → g j = h j) → zsm g k = zsm h k
  | 0, _ => rfl
  | k + 1, q => by
    show zsm g k + g k = zsm h k + h k
    rw [zsm_cg k (fun j hj => q j (by omega)), q k (by omega)]
theorem zsm_sp (g : Int → Int) (a : Nat) : ∀ b : Nat, zsm g (a + b) = zsm g a + zsm (fun j => g (a + j)) b
  | 0 => by
    show zsm g a = zsm g a + 0
    omega
  | b + 1 => by
    have ih := zsm_sp g a b
    show zsm g (a + b) + g ((a + b : Nat) : Int) = zsm g a + (zsm (fun j => g (a + j)) b + g ((a : Int) + (b : Int)))
    rw [ih, show ((a + b : Nat) : Int) = (a : Int) + (b : Int) by omega]
    omega
theorem zsm_pl (g h : Int → Int) : ∀ k : Nat, zsm (fun j => g j + h j) k = zsm g k + zsm h k
  | 0 => rfl
  | k + 1 => by
    have ih := zsm_pl g h k
    show zsm (fun j => g j + h j) k + (g k + h k) = (zsm g k + g k) + (zsm h k + h k)
    omega
theorem zsm_z {g : Int → Int} (k : Nat) (q : ∀ j : Nat, j < k → g j = 0) : zsm g k = 0 := by
  rw [zsm_cg (h := fun _ => 0) k q]
  induction k with
  | zero => rfl
  | succ k ih =>
    have ih := ih (fun j hj => q j (by omega))
    show zsm (fun _ => 0) k + 0 = 0
    omega
theorem zsm_sw (H : Int → Int → Int) (m : Nat) : ∀ k : Nat, zsm (fun j => zsm (fun q => H j q) m) k = zsm (fun q => zsm (fun j => H j q) k) m
  | 0 => (zsm_z m (fun _ _ => rfl)).symm
  | k + 1 => by
    have ih := zsm_sw H m k
    show zsm (fun j => zsm (fun q => H j q) m) k + zsm (fun q => H k q) m = zsm (fun q => zsm (fun j => H j q) k + H k q) m
    rw [ih, zsm_pl (fun q => zsm (fun j => H j q) k) (fun q => H k q) m]
/-- a square, row by row -/
theorem zsm_sq (G : Int → Int → Int) (N : Nat) : ∀ M : Nat, zsm (fun k => G (k / N) (k % N)) (M * N) = zsm (fun i => zsm (fun j => G i j) N) M
  | 0 => by
    rw [Nat.zero_mul]
    rfl
  | M + 1 => by
    have ih := zsm_sq G N M
    rw [Nat.succ_mul, zsm_sp, ih]
    show _ = zsm (fun i => zsm (fun j => G i j) N) M + zsm (fun j => G M j) N
    congr 1
    refine zsm_cg N (fun j hj => ?_)
    have h := zdq (q := N) (i := (M : Int)) (j := (j : Int)) (by omega)
    rw [← Int.natCast_mul] at h
    rw [h.1, h.2]
/-- four squares are one -/
theorem zsm_4 (G : Int → Int → Int) (n : Nat) : zsm (fun k => G (k / ((2 * n : Nat) : Int)) (k % ((2 * n : Nat) : Int))) ((2 * n) * (2 * n)) = zsm (fun q => zsm (fun k => G (q / 2 * n + k / n) (q % 2 * n + k % n)) (n * n)) 4 := by
  rw [zsm_sq G (2 * n) (2 * n)]
  have e : ∀ q : Int, zsm (fun k => G (q / 2 * n + k / n) (q % 2 * n + k % n)) (n * n) = zsm (fun i => zsm (fun j => G (q / 2 * n + i) (q % 2 * n + j)) n) n := fun q => zsm_sq (fun a b => G (q / 2 * n + a) (q % 2 * n + b)) n n
  have e4 : ∀ g : Int → Int, zsm g 4 = g 0 + g 1 + g 2 + g 3 := fun g => by
    show 0 + g 0 + g 1 + g 2 + g 3 = _
    omega
  rw [e4, e, e, e, e, show 2 * n = n + n by omega, zsm_sp]
  have r : ∀ i : Int, zsm (fun j => G i j) (n + n) = zsm (fun j => G i j) n + zsm (fun j => G i (n + j)) n := fun i => zsm_sp _ n n
  rw [zsm_cg (h := fun i => zsm (fun j => G i j) n + zsm (fun j => G i (n + j)) n) n (fun i _ => r i), zsm_pl, zsm_cg (g := fun j => zsm (fun j_1 => G (↑n + j) j_1) (n + n)) (h := fun i => zsm (fun j => G (n + i) j) n + zsm (fun j => G (n + i) (n + j)) n) n (fun i _ => r _), zsm_pl]
  have z0 : ∀ x : Int, (0 : Int) / 2 * (n : Int) + x = x := by omega
  have z1 : ∀ x : Int, (0 : Int) % 2 * (n : Int) + x = x := by omega
  have z2 : ∀ x : Int, (1 : Int) / 2 * (n : Int) + x = x := by omega
  have z3 : ∀ x : Int, (1 : Int) % 2 * (n : Int) + x = n + x := by omega
  have z4 : ∀ x : Int, (2 : Int) / 2 * (n : Int) + x = n + x := by omega
  have z5 : ∀ x : Int, (2 : Int) % 2 * (n : Int) + x = x := by omega
  have z6 : ∀ x : Int, (3 : Int) / 2 * (n : Int) + x = n + x := by omega
  have z7 : ∀ x : Int, (3 : Int) % 2 * (n : Int) + x = n + x := by omega
  simp only [z0, z1, z2, z3, z4, z5, z6, z7]
  omega
/-- a sum over the blocks in a block -/
def zVI (F : Int → Int → Int → Int) (d r c j : Int) : Int := zsm (fun k => F (d + j) (r * zp2 j + k / zp2 j) (c * zp2 j + k % zp2 j)) (zp2 j * zp2 j).toNat
def zVS (F : Int → Int → Int → Int) (d r c : Int) : Int := zsm (zVI F d r c) (4 - d).toNat
theorem zVI_s (F : Int → Int → Int → Int) (d r c : Int) {j : Int} (hj : 0 ≤ j ∧ j ≤ 2) : zVI F d r c (1 + j) = zsm (fun q => zVI F (d + 1) (2 * r + q / 2) (2 * c + q % 2) j) 4 := by
  obtain ⟨n, hn, hn2⟩ := zp2N (d := j) (by omega)
  have h2 : zp2 (1 + j) = ((2 * n : Nat) : Int) := by
    rw [show 1 + j = j + 1 by omega]
    have h3 : j = 0 ∨ j = 1 ∨ j = 2 := by omega
    rcases h3 with rfl | rfl | rfl <;> simp [zp2] at hn ⊢ <;> omega
  unfold zVI
  rw [h2, hn]
  have e1 : (((2 * n : Nat) : Int) * ((2 * n : Nat) : Int)).toNat = (2 * n) * (2 * n) := by rw [← Int.natCast_mul]; rfl
  have e2 : ((n : Int) * n).toNat = n * n := by rw [← Int.natCast_mul]; rfl
  rw [e1, e2, zsm_4 (fun a b => F (d + (1 + j)) (r * ((2 * n : Nat) : Int) + a) (c * ((2 * n : Nat) : Int) + b)) n]
  have em : ∀ x : Int, x * ((2 * n : Nat) : Int) = 2 * x * n := fun x => by
    rw [Int.natCast_mul, ← Int.mul_assoc, Int.mul_comm x]
    rfl
  refine zsm_cg 4 (fun q _ => zsm_cg _ (fun k _ => ?_))
  rw [em, em, Int.add_mul, Int.add_mul, show d + (1 + j) = d + 1 + j by omega, Int.add_assoc (2 * r * n), Int.add_assoc (2 * c * n)]
theorem zVS_s (F : Int → Int → Int → Int) {d : Int} (r c : Int) (hd : 0 ≤ d ∧ d ≤ 2) : zVS F d r c = F d r c + zsm (fun q => zVS F (d + 1) (2 * r + q / 2) (2 * c + q % 2)) 4 := by
  unfold zVS
  rw [show (4 - d).toNat = 1 + (3 - d).toNat by omega, zsm_sp]
  congr 1
  · show 0 + zVI F d r c 0 = F d r c
    unfold zVI
    rw [show zp2 0 = 1 from rfl]
    show 0 + (0 + F (d + 0) (r * 1 + 0 / 1) (c * 1 + 0 % 1)) = F d r c
    rw [show d + 0 = d by omega, show r * 1 + 0 / 1 = r by omega, show c * 1 + 0 % 1 = c by omega]
    omega
  · rw [show (4 - (d + 1)).toNat = (3 - d).toNat by omega, ← zsm_sw (fun j q => zVI F (d + 1) (2 * r + q / 2) (2 * c + q % 2) j) 4]
    exact zsm_cg _ (fun j hj => zVI_s F d r c (by omega))
theorem zVS_3 (F : Int → Int → Int → Int) (r c : Int) : zVS F 3 r c = F 3 r c := by
  show 0 + zVI F 3 r c 0 = F 3 r c
  unfold zVI
  rw [show zp2 0 = 1 from rfl]
  show 0 + (0 + F (3 + 0) (r * 1 + 0 / 1) (c * 1 + 0 % 1)) = F 3 r c
  rw [show (3 : Int) + 0 = 3 from rfl, show r * 1 + 0 / 1 = r by omega, show c * 1 + 0 % 1 = c by omega]
  omega
/-- nothing in a block that isn't there -/
theorem zVS_0 {t : Int → Int} {F : Int → Int → Int → Int} (hF : ∀ d r c, zvis t d r c = false → F d r c = 0) : ∀ (g : Nat) (d r c : Int), d = 3 - g → 0 ≤ d → zvis t d r c = false → zVS F d r c = 0
  | 0, d, r, c, e, hd, h => by
    rw [show d = 3 by omega] at h ⊢
    rw [zVS_3]
    exact hF _ _ _ h
  | g + 1, d, r, c, e, hd, h => by
    rw [zVS_s F r c (by omega), hF _ _ _ h, zsm_z 4 (fun q hq => ?_)]
    · rfl
    · refine zVS_0 hF g (d + 1) _ _ (by omega) (by omega) ?_
      rw [zvis_s t (by omega) (by omega), h]
      rfl
theorem zVS_cg {F G : Int → Int → Int → Int} (h : ∀ d r c, (0 ≤ d ∧ d ≤ 3) → (0 ≤ r ∧ r < zp2 d) → (0 ≤ c ∧ c < zp2 d) → F d r c = G d r c) : ∀ (g : Nat) (d r c : Int), d = 3 - g → 0 ≤ d → (0 ≤ r ∧ r < zp2 d) → (0 ≤ c ∧ c < zp2 d) → zVS F d r c = zVS G d r c
  | 0, d, r, c, e, hd, hr, hc => by
    rw [show d = 3 by omega] at hr hc ⊢
    rw [zVS_3, zVS_3]
    exact h _ _ _ (by decide) hr hc
  | g + 1, d, r, c, e, hd, hr, hc => by
    rw [zVS_s F r c (by omega), zVS_s G r c (by omega), h _ _ _ (by omega) hr hc]
    congr 1
    refine zsm_cg 4 (fun q hq => ?_)
    have q1 := zpq (k := q) (d := d) (by omega) hr (by omega)
    have q2 := zpq (k := q) (d := d) (by omega) hc (by omega)
    exact zVS_cg h g (d + 1) _ _ (by omega) (by omega) q1.1 q2.2
def zFr (t : Int → Int) (d r c : Int) : Int := if zvis t d r c = true then zrk (t (zmn d r c)) (zsz d) else 0
theorem zrmF_VS (t : Int → Int) (d r c : Int) : zrmF t d r c = zVS (zFr t) d r c := rfl
/-- the rooms of both are the same -/
theorem zroom_VS {t : Int → Int} (ht : zVl t) : ∀ (g : Nat) (d r c : Int), d = 3 - g → 0 ≤ d → (0 ≤ r ∧ r < zp2 d) → (0 ≤ c ∧ c < zp2 d) → zvis t d r c = true → zroom t g (r * zsz d) (c * zsz d) = zrmF t d r c
  | 0, d, r, c, e, hd, hr, hc, hv => by
    rw [show d = 3 by omega] at hr hc hv ⊢
    have h3 := ht r c hr hc hv
    rw [zrmF_VS, zVS_3]
    show zrm (t (zno 3 (r * zsz 3) (c * zsz 3))) 2 = _
    unfold zFr
    rw [if_pos hv, zno_b (by decide)]
    unfold zrm zrk
    rw [if_neg h3]
    rfl
  | g + 1, d, r, c, e, hd, hr, hc, hv => by
    have e2 : (2 - g : Int) = d := by omega
    have e3 : (3 - g : Int) = d + 1 := by omega
    have h2 : zsz d = 2 * zsz (d + 1) := by
      have h3 : d = 0 ∨ d = 1 ∨ d = 2 := by omega
      rcases h3 with rfl | rfl | rfl <;> decide
    rw [zrmF_VS, zVS_s _ r c (by omega)]
    show (if t (zno (2 - g) (r * zsz d) (c * zsz d)) = 3 then 1 + zsm (fun p => zroom t g (r * zsz d + p / 2 * zsz (3 - g)) (c * zsz d + p % 2 * zsz (3 - g))) 4 else zrm (t (zno (2 - g) (r * zsz d) (c * zsz d))) (zsz (2 - g))) = _
    rw [e2, e3, zno_b (by omega)]
    have hF : zFr t d r c = zrk (t (zmn d r c)) (zsz d) := if_pos hv
    rw [hF]
    by_cases h3 : t (zmn d r c) = 3
    · rw [if_pos h3, h3]
      show 1 + _ = 1 + _
      congr 1
      refine zsm_cg 4 (fun q hq => ?_)
      have q1 := zpq (k := q) (d := d) (by omega) hr (by omega)
      have q2 := zpq (k := q) (d := d) (by omega) hc (by omega)
      have ih := zroom_VS ht g (d + 1) _ _ (by omega) (by omega) q1.1 q2.2 (by rw [zvis_s t (by omega) (by omega), hv, h3]; rfl)
      rw [zrmF_VS] at ih
      rw [← ih, h2]
      congr 1
      · rw [Int.add_mul, ← Int.mul_assoc, Int.mul_comm r 2]
      · rw [Int.add_mul, ← Int.mul_assoc, Int.mul_comm c 2]
    · rw [if_neg h3, zsm_z 4 (fun q hq => ?_)]
      · unfold zrm zrk
        rw [if_neg h3]
        omega
      · refine zVS_0 (t := t) (fun a b e h => by
          unfold zFr
          rw [h]
          rfl) g (d + 1) _ _ (by omega) (by omega) ?_
        rw [zvis_s t (by omega) (by omega), decide_eq_false h3, Bool.and_false]
theorem zroom_F {t : Int → Int} (ht : zVl t) : zroom t 3 0 0 = zrmF t 0 0 0 := zroom_VS ht 3 0 0 0 (by decide) (by decide) (by decide) (by decide) rfl
