section
variable {n : Nat} {σ : zS} {S : Int → Int} {um L p lv br bc : Int} {wl : Bool}
/-- what block() answers in the model -/
def zbm6 (t : Int → Int) (row col w : Int) : Int := if w = 0 then t (zno (zdp t row col) row col) else if w = 1 then zsz (zdp t row col) else if w = 2 then row / zsz (zdp t row col) * zsz (zdp t row col) else if w = 3 then col / zsz (zdp t row col) * zsz (zdp t row col) else if w = 4 then zrk (t (zno (zdp t row col) row col)) (zsz (zdp t row col)) else if w = 5 then zdp t row col else -2
theorem zdvs {k x : Int} (hk : 0 ≤ k ∧ k ≤ 3) (hx : 0 ≤ x ∧ x < 16) : 0 ≤ x / zsz k ∧ x / zsz k < zp2 k := by
  have h3 : k = 0 ∨ k = 1 ∨ k = 2 ∨ k = 3 := by omega
  rcases h3 with rfl | rfl | rfl | rfl <;> simp [zsz, zp2] <;> omega
def zof6 (e t : Int → Int) (w : Int) : Int := if w = 0 then zrmF t 0 0 0 else if 1 ≤ w ∧ w ≤ 5 then zobF t w 4 else if w = 7 then zsm (fun k => e (k * 16 + k)) 16 + 100000000 else if 6 ≤ w ∧ w ≤ 10 then zoeq e w else -2
def zco6 (S : Int → Int) (L um w : Int) : Int := if w = 0 then zsm (fun m => zrmF (zsT S m) 0 0 0) 4 else if w = 1 then zempt (fun m => zsT S m) 4 else if w = 2 then S 1364 else if w = 3 then L else if w = 4 then um else -2
/-- the best of many times: it, and how many zeros it makes -/
def zbt6 (g : Int → Int) : Nat → Int × Int := zfo (fun b k => (if b.2 < (if k - 99 = 0 then -1 else g (k - 99)) then k - 99 else b.1, if b.2 < (if k - 99 = 0 then -1 else g (k - 99)) then (if k - 99 = 0 then -1 else g (k - 99)) else b.2)) (0, -1)
theorem zbt6_in {g : Int → Int} (hg : ∀ x, 0 ≤ g x ∧ g x ≤ 256) : ∀ k : Nat, -1 ≤ (zbt6 g k).2 ∧ (zbt6 g k).2 ≤ 256
  | 0 => (by decide : -1 ≤ (-1 : Int) ∧ (-1 : Int) ≤ 256)
  | k + 1 => by
    have ih := zbt6_in hg k
    have h1 := hg ((k : Int) - 99)
    rw [show (zbt6 g (k + 1)).2 = if (zbt6 g k).2 < (if (k : Int) - 99 = 0 then -1 else g ((k : Int) - 99)) then (if (k : Int) - 99 = 0 then -1 else g ((k : Int) - 99)) else (zbt6 g k).2 from rfl]
    have h2 : -1 ≤ (if (k : Int) - 99 = 0 then -1 else g ((k : Int) - 99)) ∧ (if (k : Int) - 99 = 0 then -1 else g ((k : Int) - 99)) ≤ 256 := by
      split <;> omega
    generalize (if (k : Int) - 99 = 0 then -1 else g ((k : Int) - 99)) = v at *
    split <;> omega
theorem zzr_in (e e2 : Int → Int) (x : Int) : 0 ≤ zzr e e2 x 256 ∧ zzr e e2 x 256 ≤ 256 := by
  have h := zsmN (g := fun j => if e j + x * e2 j = 0 then 1 else 0) (M := 1) (fun j => by split <;> decide) 256
  unfold zzr
  omega
end
