def ztnI (m d N : Int) (T : Int → Int) (k : Int) : Int → Int := if k / N < k % N then zsw T m (zmn d (k / N) (k % N)) (zmn d (k % N) (k / N)) else T
def ztnL (m d N : Int) (S : Int → Int) : Nat → Int → Int := zfo (ztnI m d N) S
def ztnF (m : Int) (S : Int → Int) : Nat → Int → Int := zfo (fun T d => ztnL m d (zp2 d) T (zp2 d * zp2 d).toNat) S
def ztnJ (m : Int) (T : Int → Int) (k : Int) : Int → Int := if k / 16 < k % 16 then zsw T m (85 + k) (85 + 16 * (k % 16) + k / 16) else T
def ztnE (m : Int) (S : Int → Int) : Nat → Int → Int := zfo (ztnJ m) S
/-- a piece of a row gets another row -/
def zseg (A B : Int → Int) (o k : Int) : Int → Int := fun j => if o ≤ j ∧ j < o + k then B (j - o) else A j
theorem zseg_0 (A B : Int → Int) (o : Int) : zseg A B o 0 = A := funext fun j => if_neg (by omega)
theorem zseg_s (A B : Int → Int) (o : Int) {k : Int} (hk : 0 ≤ k) : zu (zseg A B o k) (o + k) (B k) = zseg A B o (k + 1) := by
  funext j
  unfold zu zseg
  by_cases c : j = o + k
  · rw [if_pos c, if_pos (by omega), show j - o = k by omega]
  · rw [if_neg c]
    by_cases c2 : o ≤ j ∧ j < o + k
    · rw [if_pos c2, if_pos (by omega)]
    · rw [if_neg c2, if_neg (by omega)]
section
variable {n : Nat} {σ : zS} {S U : Int → Int} {um L p lv br bc : Int} {wl : Bool}
end
