theorem zdp_3 {t : Int → Int} {row col : Int} (hr : 0 ≤ row ∧ row < 16) (hc : 0 ≤ col ∧ col < 16) (h : zVl t) : t (zno 0 row col) = 3 → t (zno 1 row col) = 3 → t (zno 2 row col) = 3 → t (zno 3 row col) ≠ 3 := by
  intro a b c
  have hd := zdvs (k := 3) (by decide) hr
  have hd2 := zdvs (k := 3) (by decide) hc
  refine h (row / zsz 3) (col / zsz 3) hd hd2 (zvis_p 3 (by decide) (fun k hk => ?_))
  have h3 : k = 0 ∨ k = 1 ∨ k = 2 := by omega
  rcases h3 with rfl | rfl | rfl
  · exact a
  · exact b
  · exact c
