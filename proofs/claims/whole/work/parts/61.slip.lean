section HJo
variable {X : zSc} {im : Option Nat} {tl : List zS} {I J : zI} {L K : zL} {d : zD} {k : Nat} {ac : Nat → Nat} {A B C n : Nat → Int32}
theorem c_sumo {nP : Nat} (hs : RS d.nA nP k ac (I 24) (I 25) (I 26) n (K 41)) (a : Int32) : zEv X mt_X8_sum 0 [.ref 24, .int a, .null, .null, .null] [] (zSH im tl, cz I A B C, L) (some (.long (sS (fun i => decide (I 25 i = a)) (I 26) k)), (zSH im tl, cz I A B C, L)) := by
  obtain ⟨h10, _, hO, _, _, hac, _⟩ := hs
  have hO' : cz I A B C 24 0 = nI k := hO
  refine sg_X8_sumo_0_0 _ ?_
  have loop : ∀ (f i : Nat), i + f = k → zEv X mt_X8_sum 5 [.ref 24, .int a, .long (sS (fun i => decide (I 25 i = a)) (I 26) i), .null, .int (nI i)] [] (zSH im tl, cz I A B C, L) (some (.long (sS (fun i => decide (I 25 i = a)) (I 26) k)), (zSH im tl, cz I A B C, L)) := by
    intro f
    induction f with
    | zero =>
      intro i hi
      have : i = k := by omega
      subst this
      exact sg_X8_sumo_5_0 _ _ _ (k_le hO' rfl (Nat.le_refl _) (by omega))
    | succ f ih =>
      intro i hi
      have h2 := ih (i + 1) (by omega)
      have cc : (nI i).toNatClampNeg = i := kc (by omega)
      have ci := k_in (x := nI i) (n := 10) rfl (by omega) (by omega)
      have hn := k_nle hO' (rfl : nI i = nI i) (by omega) (by omega)
      unfold sS at h2
      rw [lsum, ← nI_1 i] at h2
      by_cases e : I 25 i = a
      · rw [if_pos (decide_eq_true e)] at h2
        refine sg_X8_sumo_5_1 _ _ _ hn ci (by rw [cc]; exact e) ci ?_
        rw [cc]; exact h2
      · rw [if_neg (fun q => e (of_decide_eq_true q)), Int64.add_zero] at h2
        exact sg_X8_sumo_5_2 _ _ _ hn ci (by rw [cc]; exact e) h2
  exact loop k 0 (by omega)
theorem c_unbo {nP : Nat} (h30 : d.nA ≤ 30) (hs : RS d.nA nP k ac (I 24) (I 25) (I 26) n (K 41)) {c : Nat} (hc : c < 4) {r : Option Value × zM} (k0 : sS (fun i => decide (I 4 (ac i) = nI c)) (I 26) k = 0 → zEv X mt_X0_findUnbalanced 2 [.ref 1, .ref 24, .int (nI c + 1), .null, .null, .null] [] (zSH im tl, cz I A B C, L) r) (k1 : sS (fun i => decide (I 4 (ac i) = nI c)) (I 26) k ≠ 0 → r = (some (.int (nI c)), (zSH im tl, cz I A B C, L))) : zEv X mt_X0_findUnbalanced 2 [.ref 1, .ref 24, .int (nI c), .null, .null, .null] [] (zSH im tl, cz I A B C, L) r := by
  obtain ⟨h10, _, hO, _, _, hac, _⟩ := hs
  have hO' : cz I A B C 24 0 = nI k := hO
  refine sg_X0_findUnbalancedo_2_1 _ (k_nle (a := 4) rfl rfl hc (by omega)) ?_
  have loop : ∀ (f i : Nat), i + f = k → zEv X mt_X0_findUnbalanced 12 [.ref 1, .ref 24, .int (nI c), .long (sS (fun i => decide (I 4 (ac i) = nI c)) (I 26) i), .null, .int (nI i)] [] (zSH im tl, cz I A B C, L) r := by
    intro f
    induction f with
    | zero =>
      intro i hi
      have : i = k := by omega
      subst this
      have hle := k_le hO' (rfl : nI i = nI i) (Nat.le_refl _) (by omega)
      by_cases e : sS (fun i => decide (I 4 (ac i) = nI c)) (I 26) i = 0
      · exact sg_X0_findUnbalancedo_12_0 _ _ _ hle ((lg_cmp_eq _ _).mpr e) (k0 e)
      · rw [k1 e]
        exact sg_X0_findUnbalancedo_12_1 _ _ _ hle (fun q => e ((lg_cmp_eq _ _).mp q))
    | succ f ih =>
      intro i hi
      have h2 := ih (i + 1) (by omega)
      have cc : (nI i).toNatClampNeg = i := kc (by omega)
      have ci := k_in (x := nI i) (n := 10) rfl (by omega) (by omega)
      have hn := k_nle hO' (rfl : nI i = nI i) (by omega) (by omega)
      obtain ⟨a1, a2, _⟩ := hac i (by omega)
      have a3 : cz I A B C 25 (nI i).toNatClampNeg = nI (ac i) := by rw [cc]; exact a2
      have a4 : cz I A B C 4 (cz I A B C 25 (nI i).toNatClampNeg).toNatClampNeg = I 4 (ac i) := by rw [a3, kc (by omega)]; rfl
      unfold sS at h2
      rw [lsum, ← nI_1 i] at h2
      by_cases e : I 4 (ac i) = nI c
      · rw [if_pos (decide_eq_true e)] at h2
        refine sg_X0_findUnbalancedo_12_2 _ _ _ hn ci (by rw [a3]; exact k_in rfl (by omega) (by omega)) (by rw [a4]; exact e) ci ?_
        rw [cc]; exact h2
      · rw [if_neg (fun q => e (of_decide_eq_true q)), Int64.add_zero] at h2
        exact sg_X0_findUnbalancedo_12_3 _ _ _ hn ci (by rw [a3]; exact k_in rfl (by omega) (by omega)) (by rw [a4]; exact e) h2
  exact loop k 0 (by omega)
end HJo
section HJd
variable {X : zSc} {im : Option Nat} {tl : List zS} {I J : zI} {L K : zL} {d : zD} {k : Nat} {ac : Nat → Nat} {A B C n : Nat → Int32}
theorem c_sumd {nP : Nat} (hs : RS d.nA nP k ac (I 28) (I 29) (I 30) n (K 41)) (a : Int32) : zEv X mt_X8_sum 0 [.ref 28, .int a, .null, .null, .null] [] (zSH im tl, cz I A B C, L) (some (.long (sS (fun i => decide (I 29 i = a)) (I 30) k)), (zSH im tl, cz I A B C, L)) := by
  obtain ⟨h10, _, hO, _, _, hac, _⟩ := hs
  have hO' : cz I A B C 28 0 = nI k := hO
  refine sg_X8_sumd_0_0 _ ?_
  have loop : ∀ (f i : Nat), i + f = k → zEv X mt_X8_sum 5 [.ref 28, .int a, .long (sS (fun i => decide (I 29 i = a)) (I 30) i), .null, .int (nI i)] [] (zSH im tl, cz I A B C, L) (some (.long (sS (fun i => decide (I 29 i = a)) (I 30) k)), (zSH im tl, cz I A B C, L)) := by
    intro f
    induction f with
    | zero =>
      intro i hi
      have : i = k := by omega
      subst this
      exact sg_X8_sumd_5_0 _ _ _ (k_le hO' rfl (Nat.le_refl _) (by omega))
    | succ f ih =>
      intro i hi
      have h2 := ih (i + 1) (by omega)
      have cc : (nI i).toNatClampNeg = i := kc (by omega)
      have ci := k_in (x := nI i) (n := 10) rfl (by omega) (by omega)
      have hn := k_nle hO' (rfl : nI i = nI i) (by omega) (by omega)
      unfold sS at h2
      rw [lsum, ← nI_1 i] at h2
      by_cases e : I 29 i = a
      · rw [if_pos (decide_eq_true e)] at h2
        refine sg_X8_sumd_5_1 _ _ _ hn ci (by rw [cc]; exact e) ci ?_
        rw [cc]; exact h2
      · rw [if_neg (fun q => e (of_decide_eq_true q)), Int64.add_zero] at h2
        exact sg_X8_sumd_5_2 _ _ _ hn ci (by rw [cc]; exact e) h2
  exact loop k 0 (by omega)
theorem c_unbd {nP : Nat} (h30 : d.nA ≤ 30) (hs : RS d.nA nP k ac (I 28) (I 29) (I 30) n (K 41)) {c : Nat} (hc : c < 4) {r : Option Value × zM} (k0 : sS (fun i => decide (I 4 (ac i) = nI c)) (I 30) k = 0 → zEv X mt_X0_findUnbalanced 2 [.ref 1, .ref 28, .int (nI c + 1), .null, .null, .null] [] (zSH im tl, cz I A B C, L) r) (k1 : sS (fun i => decide (I 4 (ac i) = nI c)) (I 30) k ≠ 0 → r = (some (.int (nI c)), (zSH im tl, cz I A B C, L))) : zEv X mt_X0_findUnbalanced 2 [.ref 1, .ref 28, .int (nI c), .null, .null, .null] [] (zSH im tl, cz I A B C, L) r := by
  obtain ⟨h10, _, hO, _, _, hac, _⟩ := hs
  have hO' : cz I A B C 28 0 = nI k := hO
  refine sg_X0_findUnbalancedd_2_1 _ (k_nle (a := 4) rfl rfl hc (by omega)) ?_
  have loop : ∀ (f i : Nat), i + f = k → zEv X mt_X0_findUnbalanced 12 [.ref 1, .ref 28, .int (nI c), .long (sS (fun i => decide (I 4 (ac i) = nI c)) (I 30) i), .null, .int (nI i)] [] (zSH im tl, cz I A B C, L) r := by
    intro f
    induction f with
    | zero =>
      intro i hi
      have : i = k := by omega
      subst this
      have hle := k_le hO' (rfl : nI i = nI i) (Nat.le_refl _) (by omega)
      by_cases e : sS (fun i => decide (I 4 (ac i) = nI c)) (I 30) i = 0
      · exact sg_X0_findUnbalancedd_12_0 _ _ _ hle ((lg_cmp_eq _ _).mpr e) (k0 e)
      · rw [k1 e]
        exact sg_X0_findUnbalancedd_12_1 _ _ _ hle (fun q => e ((lg_cmp_eq _ _).mp q))
    | succ f ih =>
      intro i hi
      have h2 := ih (i + 1) (by omega)
      have cc : (nI i).toNatClampNeg = i := kc (by omega)
      have ci := k_in (x := nI i) (n := 10) rfl (by omega) (by omega)
      have hn := k_nle hO' (rfl : nI i = nI i) (by omega) (by omega)
      obtain ⟨a1, a2, _⟩ := hac i (by omega)
      have a3 : cz I A B C 29 (nI i).toNatClampNeg = nI (ac i) := by rw [cc]; exact a2
      have a4 : cz I A B C 4 (cz I A B C 29 (nI i).toNatClampNeg).toNatClampNeg = I 4 (ac i) := by rw [a3, kc (by omega)]; rfl
      unfold sS at h2
      rw [lsum, ← nI_1 i] at h2
      by_cases e : I 4 (ac i) = nI c
      · rw [if_pos (decide_eq_true e)] at h2
        refine sg_X0_findUnbalancedd_12_2 _ _ _ hn ci (by rw [a3]; exact k_in rfl (by omega) (by omega)) (by rw [a4]; exact e) ci ?_
        rw [cc]; exact h2
      · rw [if_neg (fun q => e (of_decide_eq_true q)), Int64.add_zero] at h2
        exact sg_X0_findUnbalancedd_12_3 _ _ _ hn ci (by rw [a3]; exact k_in rfl (by omega) (by omega)) (by rw [a4]; exact e) h2
  exact loop k 0 (by omega)
end HJd
