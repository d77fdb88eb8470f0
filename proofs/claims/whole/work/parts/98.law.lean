theorem law_ev (X : zSc) (hX : X.1 ≤ 3072) : ∃ M' : zM, zEv X mt_L_law 0 (zent 4 [.retAddr 2]) [] ([], fun _ _ => 0, fun _ _ => 0) (some (.int 1), M') ∧ M'.1.length ≤ 600000 ∧ zsize M'.1 ≤ 7302250 := by
  sorry
