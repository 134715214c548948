/-- one block of overBlocks -/
def zob (t : Int → Int) (w n d r c : Int) : Int := if w = 1 then (if zvis t d r c = true then d else n) else n + (if zvis t d r c = true ∧ t (zmn d r c) = w - 2 then 1 else 0)
def zobI (t : Int → Int) (w d N n : Int) : Nat → Int := zfo (fun n k => zob t w n d (k / N) (k % N)) n
def zobF (t : Int → Int) (w : Int) : Nat → Int := zfo (fun n d => zobI t w d (zp2 d) n (zp2 d * zp2 d).toNat) 0
def zow (e : Int → Int) : Nat → Bool
  | 0 => true
  | k + 1 => zow e k && decide (e k = e ((k : Int) % 16 * 16 + (k : Int) / 16))
def zmos (e : Int → Int) : Nat → Int := zfo (fun y k => if y < e k then e k else y) (-1000000)
def zlea (e : Int → Int) : Nat → Int := zfo (fun y k => if e k < y then e k else y) 1000000
def zoeq (e : Int → Int) (w : Int) : Int := if w = 6 then zsm (fun k => if e k ≠ 0 then 1 else 0) 256 else if w = 8 then zmos e 256 + 1000000 else if w = 9 then zlea e 256 + 1000000 else zb (zow e 256)
theorem zmos_in {e : Int → Int} (he : zBe e) : ∀ k : Nat, k ≤ 256 → -1000000 ≤ zmos e k ∧ zmos e k ≤ 1000000
  | 0, _ => (by decide : -1000000 ≤ (-1000000 : Int) ∧ (-1000000 : Int) ≤ 1000000)
  | k + 1, hk => by
    have ih := zmos_in he k (by omega)
    have h1 := he k (by omega) (by omega)
    rw [show zmos e (k + 1) = if zmos e k < e k then e k else zmos e k from rfl]
    split <;> omega
theorem zlea_in {e : Int → Int} (he : zBe e) : ∀ k : Nat, k ≤ 256 → -1000000 ≤ zlea e k ∧ zlea e k ≤ 1000000
  | 0, _ => (by decide : -1000000 ≤ (1000000 : Int) ∧ (1000000 : Int) ≤ 1000000)
  | k + 1, hk => by
    have ih := zlea_in he k (by omega)
    have h1 := he k (by omega) (by omega)
    rw [show zlea e (k + 1) = if e k < zlea e k then e k else zlea e k from rfl]
    split <;> omega
section
variable {n : Nat} {σ : zS} {S : Int → Int}
end
