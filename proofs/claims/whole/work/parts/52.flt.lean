theorem zpw (c b P : Nat) (hb : b ≤ P) (h : 2 ^ b ≤ c ∧ c < 2 ^ (b + 1)) : 2 ^ P ≤ c * 2 ^ (P - b) ∧ c * 2 ^ (P - b) < 2 ^ (P + 1) := by
  have e1 : 2 ^ P = 2 ^ b * 2 ^ (P - b) := by rw [← Nat.pow_add, show b + (P - b) = P by omega]
  have e2 : 2 ^ (P + 1) = 2 ^ (b + 1) * 2 ^ (P - b) := by rw [← Nat.pow_add, show b + 1 + (P - b) = P + 1 by omega]
  rw [e1, e2]
  exact ⟨Nat.mul_le_mul_right _ h.1, Nat.mul_lt_mul_of_pos_right h.2 (Nat.two_pow_pos _)⟩
theorem zlg {c b : Nat} (h : 2 ^ b ≤ c ∧ c < 2 ^ (b + 1)) : c.log2 = b := by
  have h0 : 0 < 2 ^ b := Nat.two_pow_pos b
  exact (Nat.log2_eq_iff (by omega)).mpr h
theorem zld1 {c b : Nat} (h : 2 ^ b ≤ c ∧ c < 2 ^ (b + 1)) : FP.Core.leading c 1 = b := by
  have e : FP.Core.leading c 1 = if 1 * 2 ^ ((c.log2 : Int) - ((1 : Nat).log2 : Int)).toNat ≤ c * 2 ^ (-((c.log2 : Int) - ((1 : Nat).log2 : Int))).toNat then (c.log2 : Int) - ((1 : Nat).log2 : Int) else (c.log2 : Int) - ((1 : Nat).log2 : Int) - 1 := rfl
  rw [e, zlg h, show (1 : Nat).log2 = 0 by decide, show ((b : Int) - ((0 : Nat) : Int)).toNat = b by omega, show (-((b : Int) - ((0 : Nat) : Int))).toNat = 0 by omega, if_pos (by omega)]
  omega
theorem zldP {X P : Nat} (h : 2 ^ P ≤ X ∧ X < 2 ^ (P + 1)) : FP.Core.leading X (2 ^ P) = 0 := by
  have e : FP.Core.leading X (2 ^ P) = if 2 ^ P * 2 ^ ((X.log2 : Int) - ((2 ^ P).log2 : Int)).toNat ≤ X * 2 ^ (-((X.log2 : Int) - ((2 ^ P).log2 : Int))).toNat then (X.log2 : Int) - ((2 ^ P).log2 : Int) else (X.log2 : Int) - ((2 ^ P).log2 : Int) - 1 := rfl
  have h2 : (2 ^ P).log2 = P := Nat.log2_two_pow
  rw [e, zlg h, h2, show ((P : Int) - (P : Int)).toNat = 0 by omega, show (-((P : Int) - (P : Int))).toNat = 0 by omega, if_pos (by omega)]
  omega
theorem znr (X d : Nat) (hd : 0 < d) : FP.Core.nearest (X * d) d = X := by
  unfold FP.Core.nearest
  rw [Nat.mul_mod_left, if_pos (by omega), Nat.mul_div_cancel _ hd]

theorem zrr64 {s : Bool} {A B X : Nat} {e q l : Int} (hl : FP.Core.leading A B = l) (hq : q = l + e - 52) (h2 : -1074 ≤ q ∧ q ≤ 971) (hB : 0 < B) (hA : A ≠ 0) (h : A * 2 ^ (e - q).toNat = X * (B * 2 ^ (q - e).toNat)) (h1 : 2 ^ 52 ≤ X ∧ X < 2 ^ 53) : FP.Core.roundRatio FP.Core.b64 s A B e = .fin s X q := by
  have e1 : FP.Core.b64.qmin = -1074 := by decide
  have e2 : FP.Core.b64.qmax = 971 := by decide
  have e4 : FP.Core.b64.p = 53 := rfl
  have e5 : FP.Core.quantum FP.Core.b64 A B e = q := by
    unfold FP.Core.quantum
    rw [hl, e1, e4]
    omega
  unfold FP.Core.roundRatio
  rw [if_neg hA, e5]
  unfold FP.Core.roundAt FP.Core.unitsNum FP.Core.unitsDen
  rw [h, znr X _ (Nat.mul_pos hB (Nat.two_pow_pos _))]
  unfold FP.Core.settle FP.Core.bound
  rw [e4, if_pos h1.2, e2, if_pos h2.2]
theorem zenq64 {s : Bool} {X : Nat} {q : Int} (h1 : 2 ^ 52 ≤ X ∧ X < 2 ^ 53) (h2 : -1074 ≤ q ∧ q ≤ 971) : FP.Core.encode FP.Core.b64 (.fin s X q) = s.toNat * 9223372036854775808 + (q + 1075).toNat * 4503599627370496 + (X - 4503599627370496) := by
  have e1 : FP.Core.b64.qmin = -1074 := by decide
  have e3 : FP.Core.b64.tails = 4503599627370496 := by decide
  have e5 : FP.Core.b64.exps = 2048 := by decide
  have e6 : FP.Core.encode FP.Core.b64 (.fin s X q) = if X < FP.Core.b64.tails then FP.Core.assemble FP.Core.b64 s 0 X else FP.Core.assemble FP.Core.b64 s ((q - FP.Core.b64.qmin).toNat + 1) (X - FP.Core.b64.tails) := rfl
  rw [e6, e1, e3, if_neg (by omega)]
  unfold FP.Core.assemble
  rw [e3, e5]
  omega
theorem zdeq64 {s : Bool} {X : Nat} {q : Int} (h1 : 2 ^ 52 ≤ X ∧ X < 2 ^ 53) (h2 : -1074 ≤ q ∧ q ≤ 971) : FP.Core.decode FP.Core.b64 (s.toNat * 9223372036854775808 + (q + 1075).toNat * 4503599627370496 + (X - 4503599627370496)) = .fin s X q := by
  have e1 : FP.Core.b64.qmin = -1074 := by decide
  have e3 : FP.Core.b64.tails = 4503599627370496 := by decide
  have e5 : FP.Core.b64.exps = 2048 := by decide
  have hs : s.toNat ≤ 1 := by cases s <;> decide
  have f1 : FP.Core.fieldT FP.Core.b64 (s.toNat * 9223372036854775808 + (q + 1075).toNat * 4503599627370496 + (X - 4503599627370496)) = X - 4503599627370496 := by
    unfold FP.Core.fieldT
    rw [e3]
    omega
  have f2 : FP.Core.fieldE FP.Core.b64 (s.toNat * 9223372036854775808 + (q + 1075).toNat * 4503599627370496 + (X - 4503599627370496)) = (q + 1075).toNat := by
    unfold FP.Core.fieldE
    rw [e3, e5]
    omega
  have f3 : FP.Core.fieldS FP.Core.b64 (s.toNat * 9223372036854775808 + (q + 1075).toNat * 4503599627370496 + (X - 4503599627370496)) = s := by
    unfold FP.Core.fieldS
    rw [e3, e5, show (s.toNat * 9223372036854775808 + (q + 1075).toNat * 4503599627370496 + (X - 4503599627370496)) / 4503599627370496 / 2048 % 2 = s.toNat by omega]
    cases s <;> rfl
  unfold FP.Core.decode
  rw [f1, f2, f3, e1, e3, e5, if_neg (by omega), if_neg (by omega), show 4503599627370496 + (X - 4503599627370496) = X by omega, show (-1074 : Int) + (((q + 1075).toNat : Int) - 1) = q by omega]
/-- the bits of a whole number by 256 -/
theorem zdiv64 {z : Int} {b : Nat} (hb : b ≤ 52) (h : 2 ^ b ≤ z.natAbs ∧ z.natAbs < 2 ^ (b + 1)) : FP.Core.div FP.Core.b64 (FP.Core.fromInt FP.Core.b64 z) 4643211215818981376 = (decide (z < 0)).toNat * 9223372036854775808 + (b + 1015) * 4503599627370496 + (z.natAbs * 2 ^ (52 - b) - 4503599627370496) ∧ FP.Core.decode FP.Core.b64 ((decide (z < 0)).toNat * 9223372036854775808 + (b + 1015) * 4503599627370496 + (z.natAbs * 2 ^ (52 - b) - 4503599627370496)) = .fin (decide (z < 0)) (z.natAbs * 2 ^ (52 - b)) ((b : Int) - 60) ∧ FP.Core.fromInt FP.Core.b64 z < 18446744073709551616 := by
  have hX := zpw z.natAbs b 52 hb h
  have hz0 : z.natAbs ≠ 0 := by
    have := Nat.two_pow_pos b
    omega
  have e1 : FP.Core.round FP.Core.b64 (FP.Core.ofInt z) = .fin (decide (z < 0)) (z.natAbs * 2 ^ (52 - b)) ((b : Int) - 52) := by
    refine zrr64 (zld1 h) (by omega) (by omega) (by decide) hz0 ?_ hX
    rw [show ((0 : Int) - ((b : Int) - 52)).toNat = 52 - b by omega, show ((b : Int) - 52 - 0).toNat = 0 by omega]
    omega
  have e2 : FP.Core.decode FP.Core.b64 (FP.Core.fromInt FP.Core.b64 z) = .fin (decide (z < 0)) (z.natAbs * 2 ^ (52 - b)) ((b : Int) - 52) := by
    unfold FP.Core.fromInt
    rw [e1, zenq64 hX (by omega), zdeq64 hX (by omega)]
  have e3 : FP.Core.decode FP.Core.b64 4643211215818981376 = .fin false (2 ^ 52) (-44) := by decide
  have e6 := zenq64 (s := decide (z < 0)) (q := (b : Int) - 60) hX (by omega)
  have e7 := zdeq64 (s := decide (z < 0)) (q := (b : Int) - 60) hX (by omega)
  rw [show ((b : Int) - 60 + 1075).toNat = b + 1015 by omega] at e6 e7
  refine ⟨?_, e7, ?_⟩
  rotate_left
  · unfold FP.Core.fromInt
    rw [e1, zenq64 hX (by omega)]
    have hs : (decide (z < 0)).toNat ≤ 1 := by cases decide (z < 0) <;> decide
    omega
  unfold FP.Core.div
  rw [e2, e3]
  generalize z.natAbs * 2 ^ (52 - b) = X at *
  have e4 : FP.Core.quotient FP.Core.b64 (.fin (decide (z < 0)) X ((b : Int) - 52)) (.fin false (2 ^ 52) (-44)) = FP.Core.roundRatio FP.Core.b64 (decide (z < 0) != false) X (2 ^ 52) ((b : Int) - 52 - (-44)) := rfl
  rw [e4, Bool.bne_false, ← e6]
  refine congrArg _ (zrr64 (zldP hX) (by omega) (by omega) (Nat.two_pow_pos _) (by omega) ?_ hX)
  rw [show ((b : Int) - 52 - (-44) - ((b : Int) - 60)).toNat = 52 by omega, show ((b : Int) - 60 - ((b : Int) - 52 - (-44))).toNat = 0 by omega]

theorem zrr32 {s : Bool} {A B X : Nat} {e q l : Int} (hl : FP.Core.leading A B = l) (hq : q = l + e - 23) (h2 : -149 ≤ q ∧ q ≤ 104) (hB : 0 < B) (hA : A ≠ 0) (h : A * 2 ^ (e - q).toNat = X * (B * 2 ^ (q - e).toNat)) (h1 : 2 ^ 23 ≤ X ∧ X < 2 ^ 24) : FP.Core.roundRatio FP.Core.b32 s A B e = .fin s X q := by
  have e1 : FP.Core.b32.qmin = -149 := by decide
  have e2 : FP.Core.b32.qmax = 104 := by decide
  have e4 : FP.Core.b32.p = 24 := rfl
  have e5 : FP.Core.quantum FP.Core.b32 A B e = q := by
    unfold FP.Core.quantum
    rw [hl, e1, e4]
    omega
  unfold FP.Core.roundRatio
  rw [if_neg hA, e5]
  unfold FP.Core.roundAt FP.Core.unitsNum FP.Core.unitsDen
  rw [h, znr X _ (Nat.mul_pos hB (Nat.two_pow_pos _))]
  unfold FP.Core.settle FP.Core.bound
  rw [e4, if_pos h1.2, e2, if_pos h2.2]
theorem zenq32 {s : Bool} {X : Nat} {q : Int} (h1 : 2 ^ 23 ≤ X ∧ X < 2 ^ 24) (h2 : -149 ≤ q ∧ q ≤ 104) : FP.Core.encode FP.Core.b32 (.fin s X q) = s.toNat * 2147483648 + (q + 150).toNat * 8388608 + (X - 8388608) := by
  have e1 : FP.Core.b32.qmin = -149 := by decide
  have e3 : FP.Core.b32.tails = 8388608 := by decide
  have e5 : FP.Core.b32.exps = 256 := by decide
  have e6 : FP.Core.encode FP.Core.b32 (.fin s X q) = if X < FP.Core.b32.tails then FP.Core.assemble FP.Core.b32 s 0 X else FP.Core.assemble FP.Core.b32 s ((q - FP.Core.b32.qmin).toNat + 1) (X - FP.Core.b32.tails) := rfl
  rw [e6, e1, e3, if_neg (by omega)]
  unfold FP.Core.assemble
  rw [e3, e5]
  omega
theorem zdeq32 {s : Bool} {X : Nat} {q : Int} (h1 : 2 ^ 23 ≤ X ∧ X < 2 ^ 24) (h2 : -149 ≤ q ∧ q ≤ 104) : FP.Core.decode FP.Core.b32 (s.toNat * 2147483648 + (q + 150).toNat * 8388608 + (X - 8388608)) = .fin s X q := by
  have e1 : FP.Core.b32.qmin = -149 := by decide
  have e3 : FP.Core.b32.tails = 8388608 := by decide
  have e5 : FP.Core.b32.exps = 256 := by decide
  have hs : s.toNat ≤ 1 := by cases s <;> decide
  have f1 : FP.Core.fieldT FP.Core.b32 (s.toNat * 2147483648 + (q + 150).toNat * 8388608 + (X - 8388608)) = X - 8388608 := by
    unfold FP.Core.fieldT
    rw [e3]
    omega
  have f2 : FP.Core.fieldE FP.Core.b32 (s.toNat * 2147483648 + (q + 150).toNat * 8388608 + (X - 8388608)) = (q + 150).toNat := by
    unfold FP.Core.fieldE
    rw [e3, e5]
    omega
  have f3 : FP.Core.fieldS FP.Core.b32 (s.toNat * 2147483648 + (q + 150).toNat * 8388608 + (X - 8388608)) = s := by
    unfold FP.Core.fieldS
    rw [e3, e5, show (s.toNat * 2147483648 + (q + 150).toNat * 8388608 + (X - 8388608)) / 8388608 / 256 % 2 = s.toNat by omega]
    cases s <;> rfl
  unfold FP.Core.decode
  rw [f1, f2, f3, e1, e3, e5, if_neg (by omega), if_neg (by omega), show 8388608 + (X - 8388608) = X by omega, show (-149 : Int) + (((q + 150).toNat : Int) - 1) = q by omega]
/-- the bits of a whole number by 256 -/
theorem zdiv32 {z : Int} {b : Nat} (hb : b ≤ 23) (h : 2 ^ b ≤ z.natAbs ∧ z.natAbs < 2 ^ (b + 1)) : FP.Core.div FP.Core.b32 (FP.Core.fromInt FP.Core.b32 z) 1132462080 = (decide (z < 0)).toNat * 2147483648 + (b + 119) * 8388608 + (z.natAbs * 2 ^ (23 - b) - 8388608) ∧ FP.Core.decode FP.Core.b32 ((decide (z < 0)).toNat * 2147483648 + (b + 119) * 8388608 + (z.natAbs * 2 ^ (23 - b) - 8388608)) = .fin (decide (z < 0)) (z.natAbs * 2 ^ (23 - b)) ((b : Int) - 31) ∧ FP.Core.fromInt FP.Core.b32 z < 4294967296 := by
  have hX := zpw z.natAbs b 23 hb h
  have hz0 : z.natAbs ≠ 0 := by
    have := Nat.two_pow_pos b
    omega
  have e1 : FP.Core.round FP.Core.b32 (FP.Core.ofInt z) = .fin (decide (z < 0)) (z.natAbs * 2 ^ (23 - b)) ((b : Int) - 23) := by
    refine zrr32 (zld1 h) (by omega) (by omega) (by decide) hz0 ?_ hX
    rw [show ((0 : Int) - ((b : Int) - 23)).toNat = 23 - b by omega, show ((b : Int) - 23 - 0).toNat = 0 by omega]
    omega
  have e2 : FP.Core.decode FP.Core.b32 (FP.Core.fromInt FP.Core.b32 z) = .fin (decide (z < 0)) (z.natAbs * 2 ^ (23 - b)) ((b : Int) - 23) := by
    unfold FP.Core.fromInt
    rw [e1, zenq32 hX (by omega), zdeq32 hX (by omega)]
  have e3 : FP.Core.decode FP.Core.b32 1132462080 = .fin false (2 ^ 23) (-15) := by decide
  have e6 := zenq32 (s := decide (z < 0)) (q := (b : Int) - 31) hX (by omega)
  have e7 := zdeq32 (s := decide (z < 0)) (q := (b : Int) - 31) hX (by omega)
  rw [show ((b : Int) - 31 + 150).toNat = b + 119 by omega] at e6 e7
  refine ⟨?_, e7, ?_⟩
  rotate_left
  · unfold FP.Core.fromInt
    rw [e1, zenq32 hX (by omega)]
    have hs : (decide (z < 0)).toNat ≤ 1 := by cases decide (z < 0) <;> decide
    omega
  unfold FP.Core.div
  rw [e2, e3]
  generalize z.natAbs * 2 ^ (23 - b) = X at *
  have e4 : FP.Core.quotient FP.Core.b32 (.fin (decide (z < 0)) X ((b : Int) - 23)) (.fin false (2 ^ 23) (-15)) = FP.Core.roundRatio FP.Core.b32 (decide (z < 0) != false) X (2 ^ 23) ((b : Int) - 23 - (-15)) := rfl
  rw [e4, Bool.bne_false, ← e6]
  refine congrArg _ (zrr32 (zldP hX) (by omega) (by omega) (Nat.two_pow_pos _) (by omega) ?_ hX)
  rw [show ((b : Int) - 23 - (-15) - ((b : Int) - 31)).toNat = 23 by omega, show ((b : Int) - 31 - ((b : Int) - 23 - (-15))).toNat = 0 by omega]
