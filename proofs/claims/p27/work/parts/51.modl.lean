section
variable {n : Nat} {σ : zS} {S U : Int → Int} {um L p lv br bc : Int} {wl : Bool}
end
