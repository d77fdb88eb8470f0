section HM
variable {X : zSc} {im : Option Nat} {tl : List zS} {I J : zI} {L K : zL} {d : zD} {k : Nat} {ac : Nat → Nat} {A B C n : Nat → Int32} {O S M : Nat → Int32}
theorem m_unb (h30 : d.nA ≤ 30) (hcu : ∀ a, a < d.nA → n (40 + a) = I 4 a) (hs : RS d.nA d.nP k ac O S M n (K 41)) {c : Nat} (hc : c < 4) {r : Option Value × zM} (k0 : sS (fun i => decide (I 4 (ac i) = nI c)) M k = 0 → zEv X mt_X11_isUnbalanced 2 [.ref 39, .int (nI c + 1), .null, .null, .null] [] (zSH im tl, va_up J 40 n, K) r) (k1 : sS (fun i => decide (I 4 (ac i) = nI c)) M k ≠ 0 → ∃ y M1, zEv X mt_X11_causedAs 0 [.ref 39, .int 1, .int (nI c)] [] (zSH im tl, va_up J 40 n, K) (some (.int y), (zSH im tl, M1)) ∧ (y = 0 ∨ y = 1) ∧ r = (some (.int y), (zSH im tl, M1))) : zEv X mt_X11_isUnbalanced 2 [.ref 39, .int (nI c), .null, .null, .null] [] (zSH im tl, va_up J 40 n, K) r := by
  obtain ⟨h10, h600, hO, h3, h2p, hac, hx⟩ := hs
  have e2 : va_up J 40 n 40 2 = nI d.nP := h2p
  have e3 : va_up J 40 n 40 3 = nI k := h3
  have ep : zEv X mt_X11_postings 0 [.ref 39] [] (zSH im tl, va_up J 40 n, K) (some (.int (nI d.nP)), (zSH im tl, va_up J 40 n, K)) := ev_r sg_X11_postings_0_0 (by rw [e2])
  refine sg_X11_isUnbalanced_2_1 _ (k_nle (a := 4) rfl rfl hc (by omega)) ep (sg_X11_isUnbalanced_13_0 _ _ _ ?_)
  have loop : ∀ (f i : Nat), i + f = k → zEv X mt_X11_isUnbalanced 15 [.ref 39, .int (nI c), .long (sS (fun i => decide (I 4 (ac i) = nI c)) M i), .null, .int (nI (d.nP + i))] [] (zSH im tl, va_up J 40 n, K) r := by
    intro f
    induction f with
    | zero =>
      intro i hi
      have : i = k := by omega
      subst this
      refine sg_X11_isUnbalanced_15_0 _ _ _ ep ?_
      have hle : nI d.nP + va_up J 40 n 40 3 ≤ nI (d.nP + i) := by rw [e3, nI_add]; exact Int32.le_refl _
      by_cases e : sS (fun i => decide (I 4 (ac i) = nI c)) M i = 0
      · exact sg_X11_isUnbalanced_21_0 _ _ _ _ _ hle ((lg_cmp_eq _ _).mpr e) (k0 e)
      · obtain ⟨y, M1, q1, q2, q3⟩ := k1 e
        rw [q3]
        exact sg_X11_isUnbalanced_21_1 _ _ _ _ _ hle (fun q => e ((lg_cmp_eq _ _).mp q)) q1 (sg_X11_isUnbalanced_85_0 _ _ _ _ q2)
    | succ f ih =>
      intro i hi
      have h2 := ih (i + 1) (by omega)
      obtain ⟨a1, a2, a3⟩ := hac i (by omega)
      obtain ⟨x1, x2⟩ := hx i (by omega)
      have hle : ¬ nI d.nP + va_up J 40 n 40 3 ≤ nI (d.nP + i) := by rw [e3, nI_add]; exact nI_ge (by omega) (by omega)
      have i4 := k_in (x := 400 + nI (d.nP + i)) (n := 1280) (nI_add 400 _) (by omega) (by omega)
      have i5 := k_in (x := 60 + nI (d.nP + i)) (n := 1000) (nI_add 60 _) (by omega) (by omega)
      have c4 : va_up J 40 n 40 ((400 : Int32) + nI (d.nP + i)).toNatClampNeg = nI (ac i) := by rw [kx 400 (a := 400) rfl (by omega), va_up_self, a3, a2]
      have c5 : K 41 ((60 : Int32) + nI (d.nP + i)).toNatClampNeg = (M i).toInt64 := by rw [kx 60 (a := 60) rfl (by omega), x2]
      have i6 : ¬ ((40 : Int32) + va_up J 40 n 40 ((400 : Int32) + nI (d.nP + i)).toNatClampNeg < 0 ∨ 1280 ≤ ((40 : Int32) + va_up J 40 n 40 ((400 : Int32) + nI (d.nP + i)).toNatClampNeg).toNatClampNeg) := by rw [c4]; exact k_in (nI_add 40 _) (by omega) (by omega)
      have c6 : va_up J 40 n 40 ((40 : Int32) + va_up J 40 n 40 ((400 : Int32) + nI (d.nP + i)).toNatClampNeg).toNatClampNeg = I 4 (ac i) := by rw [c4, kx 40 (a := 40) rfl (by omega), va_up_self, hcu _ a1]
      unfold sS at h2
      rw [lsum, show d.nP + (i + 1) = d.nP + i + 1 by omega, ← nI_1 (d.nP + i)] at h2
      refine sg_X11_isUnbalanced_15_0 _ _ _ ep ?_
      by_cases e : I 4 (ac i) = nI c
      · rw [if_pos (decide_eq_true e)] at h2
        refine sg_X11_isUnbalanced_21_2 _ _ _ _ _ hle i4 i6 (by rw [c6]; exact e) i5 ?_
        rw [c5]; exact h2
      · rw [if_neg (fun q => e (of_decide_eq_true q)), Int64.add_zero] at h2
        exact sg_X11_isUnbalanced_21_3 _ _ _ _ _ hle i4 i6 (by rw [c6]; exact e) h2
  exact loop k 0 (by omega)
theorem m_behind (hJ : rJ d I (va_up J 40 n) K) (hd : d.day ≤ 999) (hs : RS d.nA d.nP k ac O S M n (K 41)) (a : Int32) : zEv X mt_X11_behind 0 [.ref 39, .int a, .null, .null, .null] [] (zSH im tl, va_up J 40 n, K) (some (.long (cSum I d.sz d.nJ a 0 999 + sS (fun i => decide (S i = a)) M k)), (zSH im tl, va_up J 40 n, K)) := by
  obtain ⟨h10, h600, hO, h3, h2p, hac, hx⟩ := hs
  have e2 : va_up J 40 n 40 2 = nI d.nP := h2p
  have e3 : va_up J 40 n 40 3 = nI k := h3
  have ep : zEv X mt_X11_postings 0 [.ref 39] [] (zSH im tl, va_up J 40 n, K) (some (.int (nI d.nP)), (zSH im tl, va_up J 40 n, K)) := ev_r sg_X11_postings_0_0 (by rw [e2])
  refine sg_X11_behind_0_0 _ (mo_balanceBy hJ hd _ _) (sg_X11_behind_8_0 _ _ ep (sg_X11_behind_13_0 _ _ _ ?_))
  have loop : ∀ (f i : Nat), i + f = k → zEv X mt_X11_behind 15 [.ref 39, .int a, .long (cSum I d.sz d.nJ a 0 999 + sS (fun i => decide (S i = a)) M i), .null, .int (nI (d.nP + i))] [] (zSH im tl, va_up J 40 n, K) (some (.long (cSum I d.sz d.nJ a 0 999 + sS (fun i => decide (S i = a)) M k)), (zSH im tl, va_up J 40 n, K)) := by
    intro f
    induction f with
    | zero =>
      intro i hi
      have : i = k := by omega
      subst this
      refine sg_X11_behind_15_0 _ _ _ ep (sg_X11_behind_21_0 _ _ _ _ _ ?_)
      rw [e3, nI_add]; exact Int32.le_refl _
    | succ f ih =>
      intro i hi
      have h2 := ih (i + 1) (by omega)
      obtain ⟨a1, a2, a3⟩ := hac i (by omega)
      obtain ⟨x1, x2⟩ := hx i (by omega)
      have hle : ¬ nI d.nP + va_up J 40 n 40 3 ≤ nI (d.nP + i) := by rw [e3, nI_add]; exact nI_ge (by omega) (by omega)
      have i4 := k_in (x := 400 + nI (d.nP + i)) (n := 1280) (nI_add 400 _) (by omega) (by omega)
      have i5 := k_in (x := 60 + nI (d.nP + i)) (n := 1000) (nI_add 60 _) (by omega) (by omega)
      have c4 : va_up J 40 n 40 ((400 : Int32) + nI (d.nP + i)).toNatClampNeg = S i := by rw [kx 400 (a := 400) rfl (by omega), va_up_self, a3]
      have c5 : K 41 ((60 : Int32) + nI (d.nP + i)).toNatClampNeg = (M i).toInt64 := by rw [kx 60 (a := 60) rfl (by omega), x2]
      unfold sS at h2
      rw [lsum, show d.nP + (i + 1) = d.nP + i + 1 by omega, ← nI_1 (d.nP + i)] at h2
      refine sg_X11_behind_15_0 _ _ _ ep ?_
      by_cases e : S i = a
      · rw [if_pos (decide_eq_true e)] at h2
        refine sg_X11_behind_21_1 _ _ _ _ _ hle i4 (by rw [c4]; exact e) i5 ?_
        rw [c5, Int64.add_assoc]; exact h2
      · rw [if_neg (fun q => e (of_decide_eq_true q)), Int64.add_zero] at h2
        exact sg_X11_behind_21_2 _ _ _ _ _ hle i4 (by rw [c4]; exact e) h2
  have h0 := loop k 0 (by omega)
  unfold sS at h0
  rw [lsum, Int64.add_zero, Nat.add_zero] at h0
  exact h0
end HM
