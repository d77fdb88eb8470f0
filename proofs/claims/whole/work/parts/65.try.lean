section TPo
variable {X : zSc} {im : Option Nat} {tl : List zS} {I J : zI} {L K : zL} {d : zD} {k nC : Nat} {ac : Nat → Nat} {A B C n : Nat → Int32}
def caddo (I : zI) (nJ day k : Nat) (rv : Int32) (W : Nat → Int32) : zI := va_up (va_up (va_up (va_up (va_up (va_up (va_up I 10 (upd (I 10) nJ (nI day))) 11 (upd (I 11) nJ (nI k))) 12 (upd (I 12) nJ rv)) 13 W) 14 (va_cpy (I 25) (I 14) 0 (10 * nJ) k)) 15 (va_cpy (I 26) (I 15) 0 (10 * nJ) k)) 9 (upd (I 9) 0 (nI (nJ + 1)))
theorem c_add0o {nJ day : Nat} (hJ : I 9 0 = nI nJ) (h60 : nJ < 60) (hk : I 24 0 = nI k) (k10 : k ≤ 10) : zEv X mt_X4_add 0 [.ref 9, .ref 24, .int (nI day), .int (-5), .null] [] (zSH im tl, I, L) (some (.int (nI nJ)), (zSH im tl, caddo I nJ day k (-5) (upd (I 13) nJ (-5)), L)) := by
  have ci : ¬ (I 9 0 < 0 ∨ 60 ≤ (I 9 0).toNatClampNeg) := k_in hJ h60 (by omega)
  have cc : (I 9 0).toNatClampNeg = nJ := by rw [hJ, kc (by omega)]
  refine sg_X4_addo_0_0 _ _ (cj_isFull hJ (by omega)) (sg_X4_addo_4_0 _ _ _ (by rw [decide_eq_false (by omega)]; rfl) ci ci ci ci (sg_X4_has_0_0 _ (by decide)) ?_)
  rw [cc, hJ]
  have em : (nI nJ * 10).toNatClampNeg = 10 * nJ := by rw [show (10 : Int32) = nI 10 from rfl, pk_mul, Nat.mul_comm, kc (by omega)]
  have e0 : (0 : Int32).toNatClampNeg = 0 := by decide +kernel
  have hg : ¬ ((0 : Int32) < 0 ∨ (nI nJ * 10) < 0 ∨ I 24 0 < 0 ∨ 10 < (0 : Int32).toNatClampNeg + (I 24 0).toNatClampNeg ∨ 600 < (nI nJ * 10).toNatClampNeg + (I 24 0).toNatClampNeg) := by
    rw [em, e0, hk, kc (by omega), show nI nJ * 10 = nI (nJ * 10) by rw [show (10 : Int32) = nI 10 from rfl, pk_mul]]
    rintro (h | h | h | h | h)
    · exact absurd h (by decide)
    · exact absurd h (nI_pos (by omega))
    · exact absurd h (nI_pos (by omega))
    · omega
    · omega
  refine ev_r (sg_X4_addo_57_0 _ _ _ _ rfl hg hg) ?_
  show (some (Value.int (nI nJ)), zSH im tl, va_up (va_up (va_up (va_up (va_up (va_up (va_up I 10 (upd (I 10) nJ (nI day))) 11 (upd (I 11) nJ (I 24 0))) 12 (upd (I 12) nJ (-5))) 13 (upd (I 13) nJ (-5))) 14 (va_cpy (I 25) (I 14) 0 (nI nJ * 10).toNatClampNeg (I 24 0).toNatClampNeg)) 15 (va_cpy (I 26) (I 15) 0 (nI nJ * 10).toNatClampNeg (I 24 0).toNatClampNeg)) 9 (upd (I 9) 0 (I 9 0 + 1)), L) = _
  rw [em, hk, hJ, kc (n := k) (by omega), nI_1]
  rfl
theorem c_addro {nJ day r : Nat} (hJ : I 9 0 = nI nJ) (h60 : nJ < 60) (hk : I 24 0 = nI k) (k10 : k ≤ 10) (hr : r < nJ) : zEv X mt_X4_add 0 [.ref 9, .ref 24, .int (nI day), .int (nI r), .null] [] (zSH im tl, I, L) (some (.int (nI nJ)), (zSH im tl, caddo I nJ day k (nI r) (upd (upd (I 13) nJ (-5)) r (nI nJ)), L)) := by
  have ci : ¬ (I 9 0 < 0 ∨ 60 ≤ (I 9 0).toNatClampNeg) := k_in hJ h60 (by omega)
  have cc : (I 9 0).toNatClampNeg = nJ := by rw [hJ, kc (by omega)]
  refine sg_X4_addo_0_0 _ _ (cj_isFull hJ (by omega)) (sg_X4_addo_4_0 _ _ _ (by rw [decide_eq_false (by omega)]; rfl) ci ci ci ci (cj_has1 (nJ := nJ) (by exact hJ) hr (by omega)) ?_)
  rw [cc, hJ]
  have em : (nI nJ * 10).toNatClampNeg = 10 * nJ := by rw [show (10 : Int32) = nI 10 from rfl, pk_mul, Nat.mul_comm, kc (by omega)]
  have e0 : (0 : Int32).toNatClampNeg = 0 := by decide +kernel
  have hg : ¬ ((0 : Int32) < 0 ∨ (nI nJ * 10) < 0 ∨ I 24 0 < 0 ∨ 10 < (0 : Int32).toNatClampNeg + (I 24 0).toNatClampNeg ∨ 600 < (nI nJ * 10).toNatClampNeg + (I 24 0).toNatClampNeg) := by
    rw [em, e0, hk, kc (by omega), show nI nJ * 10 = nI (nJ * 10) by rw [show (10 : Int32) = nI 10 from rfl, pk_mul]]
    rintro (h | h | h | h | h)
    · exact absurd h (by decide)
    · exact absurd h (nI_pos (by omega))
    · exact absurd h (nI_pos (by omega))
    · omega
    · omega
  refine ev_r (sg_X4_addo_57_1 _ _ _ _ (by decide) (k_in rfl (by omega) (by omega)) hg hg) ?_
  show (some (Value.int (nI nJ)), zSH im tl, va_up (va_up (va_up (va_up (va_up (va_up (va_up (va_up I 10 (upd (I 10) nJ (nI day))) 11 (upd (I 11) nJ (I 24 0))) 12 (upd (I 12) nJ (nI r))) 13 (upd (I 13) nJ (-5))) 13 (upd (upd (I 13) nJ (-5)) (nI r).toNatClampNeg (nI nJ))) 14 (va_cpy (I 25) (I 14) 0 (nI nJ * 10).toNatClampNeg (I 24 0).toNatClampNeg)) 15 (va_cpy (I 26) (I 15) 0 (nI nJ * 10).toNatClampNeg (I 24 0).toNatClampNeg)) 9 (upd (I 9) 0 (I 9 0 + 1)), L) = _
  rw [em, hk, hJ, kc (n := k) (by omega), kc (n := r) (by omega), nI_1, va_up2]
  rfl
theorem cz_ofo (I : zI) (A : Nat → Int32) : va_up I 21 A = cz I A (I 22) (I 23) := by
  have := cz_21 I (I 21) (I 22) (I 23) A
  rw [cz_id] at this
  exact this
/-- a slip that reverses nothing -/
theorem j_try0o (hA : rA d I L (va_up J 40 n) K) (hJ : rJ d I (va_up J 40 n) K) (hD : RD d.day d.cl (I 1) (L 27) n (K 41)) (h60 : d.nJ < 60) (h6 : n 6 = 0) (hs : RS d.nA d.nP k ac (I 24) (I 25) (I 26) n (K 41)) : (2 ≤ k ∧ (∃ A, A 0 = 0 ∧ zEv X mt_X0_tryToPost 0 [.ref 1, .ref 24, .int (-5)] [] (zSH im tl, I, L) (some (.int (nI d.nJ)), (zSH im tl, caddo (cz I A (I 22) (I 23)) d.nJ d.day k (-5) (upd (I 13) d.nJ (-5)), L))) ∧ ∀ J : zI, zEv X mt_X11_isHindered 0 [.ref 39] [] (zSH im tl, va_up J 40 n, K) (some (.int 0), (zSH im tl, va_up J 40 n, K))) ∨ ∃ nC' A' B' C' n', 0 < nC' ∧ (B' 0 = 1 ∨ B' 0 = 2 ∨ B' 0 = 4) ∧ RC nC' A' B' C' n' ∧ (∀ x, x ≠ 6 → x < 1264 → n' x = n x) ∧ zEv X mt_X0_tryToPost 0 [.ref 1, .ref 24, .int (-5)] [] (zSH im tl, I, L) (some (.int (-10 - B' 0)), (zSH im tl, cz I A' B' C', L)) ∧ ∀ J : zI, zEv X mt_X11_isHindered 0 [.ref 39] [] (zSH im tl, va_up J 40 n, K) (some (.int 1), (zSH im tl, va_up J 40 n', K)) := by
  have hC : RC 0 (upd (I 21) 0 0) (I 22) (I 23) n := RC.mk (by omega) rfl h6 (fun i hi => by omega) (fun i hi => by omega)
  rcases j_cano (X := X) (im := im) (tl := tl) hA hJ hD hC (by omega) hs with ⟨k2, q1, q2⟩ | ⟨nC', A', B', C', n', w1, w2, w3, w4, q1, q2⟩
  · refine Or.inl ⟨k2, ⟨upd (upd (I 21) 0 0) 0 0, rfl, ?_⟩, q2⟩
    refine sg_X0_tryToPosto_0_0 _ rfl (by rw [cz_ofo]; exact q1) (sg_X0_tryToPosto_29_1 _ _ (by decide) ?_ (sg_X0_tryToPosto_66_0 _ _))
    rw [cz_21]
    have := c_add0o (X := X) (im := im) (tl := tl) (L := L) (I := cz I (upd (upd (I 21) 0 0) 0 0) (I 22) (I 23)) (day := d.day) hJ.c h60 hs.2.2.1 hs.1
    rw [show cz I (upd (I 21) 0 0) (I 22) (I 23) 1 6 = nI d.day from hD.bd]
    exact this
  · exact Or.inr ⟨nC', A', B', C', n', w1, w4.2 rfl, w2, w3, sg_X0_tryToPosto_0_0 _ rfl (by rw [cz_ofo]; exact q1) (sg_X0_tryToPosto_29_0 (I := cz I A' B' C') _ _ rfl), q2⟩
/-- a slip that reverses journal r -/
theorem j_tryro {r : Nat} (hA : rA d I L (va_up J 40 n) K) (hJ : rJ d I (va_up J 40 n) K) (hD : RD d.day d.cl (I 1) (L 27) n (K 41)) (h60 : d.nJ < 60) (hr : r < d.nJ) (h6 : n 6 = nI 1) (h7 : n 1264 = 7) (h8 : n 1270 = nI r) (hs : RS d.nA d.nP k ac (I 24) (I 25) (I 26) n (K 41)) : (2 ≤ k ∧ (∃ A B C, A 0 = 0 ∧ zEv X mt_X0_tryToPost 0 [.ref 1, .ref 24, .int (nI r)] [] (zSH im tl, I, L) (some (.int (nI d.nJ)), (zSH im tl, caddo (cz I A B C) d.nJ d.day k (nI r) (upd (upd (I 13) d.nJ (-5)) r (nI d.nJ)), L))) ∧ ∀ J : zI, zEv X mt_X11_isHindered 0 [.ref 39] [] (zSH im tl, va_up J 40 n, K) (some (.int 0), (zSH im tl, va_up J 40 n, K))) ∨ ∃ nC' A' B' C' n', 0 < nC' ∧ RC nC' A' B' C' n' ∧ (∀ x, x ≠ 6 → x < 1264 → n' x = n x) ∧ zEv X mt_X0_tryToPost 0 [.ref 1, .ref 24, .int (nI r)] [] (zSH im tl, I, L) (some (.int (-17)), (zSH im tl, cz I A' B' C', L)) ∧ ∀ J : zI, zEv X mt_X11_isHindered 0 [.ref 39] [] (zSH im tl, va_up J 40 n, K) (some (.int 1), (zSH im tl, va_up J 40 n', K)) := by
  have hC0 : RC 0 (upd (I 21) 0 0) (I 22) (I 23) (upd n 6 0) := RC.mk (by omega) rfl pk_us (fun i hi => by omega) (fun i hi => by omega)
  have hC : RC 1 (upd (upd (I 21) 0 0) 0 (nI 1)) (upd (I 22) 0 7) (upd (I 23) 0 (nI r)) n := by
    refine RC.mk (by omega) rfl h6 (fun i hi => ?_) (fun i hi => ?_)
    · obtain rfl : i = 0 := by omega
      exact h7
    · obtain rfl : i = 0 := by omega
      exact h8
  have ca := c_addCause (X := X) (im := im) (tl := tl) (I := I) (L := L) hC0 (by omega) 7 (nI r)
  have hn5 : ¬ nI r = -5 := n5 (by have := hJ.j60; omega)
  rcases j_cano (X := X) (im := im) (tl := tl) hA hJ hD hC (by omega) hs with ⟨k2, q1, q2⟩ | ⟨nC', A', B', C', n', w1, w2, w3, w4, q1, q2⟩
  · refine Or.inl ⟨k2, ⟨upd (upd (upd (I 21) 0 0) 0 (nI 1)) 0 0, upd (I 22) 0 7, upd (I 23) 0 (nI r), rfl, ?_⟩, q2⟩
    refine sg_X0_tryToPosto_0_1 _ hn5 (by rw [cz_ofo]; exact ca) (sg_X0_tryToPosto_24_0 _ q1 (sg_X0_tryToPosto_29_1 _ _ (by decide) ?_ (sg_X0_tryToPosto_66_0 _ _)))
    rw [cz_21]
    have := c_addro (X := X) (im := im) (tl := tl) (L := L) (I := cz I (upd (upd (upd (I 21) 0 0) 0 (nI 1)) 0 0) (upd (I 22) 0 7) (upd (I 23) 0 (nI r))) (day := d.day) hJ.c h60 hs.2.2.1 hs.1 hr
    rw [show cz I (upd (upd (I 21) 0 0) 0 (nI 1)) (upd (I 22) 0 7) (upd (I 23) 0 (nI r)) 1 6 = nI d.day from hD.bd]
    exact this
  · refine Or.inr ⟨nC', A', B', C', n', by omega, w2, w3, sg_X0_tryToPosto_0_1 _ hn5 (by rw [cz_ofo]; exact ca) (sg_X0_tryToPosto_24_0 _ q1 (ev_r (sg_X0_tryToPosto_29_0 _ _ rfl) ?_)), q2⟩
    have e : cz I A' B' C' 22 0 = 7 := w4.1 (by omega)
    rw [e]
    rfl
end TPo
section TPd
variable {X : zSc} {im : Option Nat} {tl : List zS} {I J : zI} {L K : zL} {d : zD} {k nC : Nat} {ac : Nat → Nat} {A B C n : Nat → Int32}
def caddd (I : zI) (nJ day k : Nat) (rv : Int32) (W : Nat → Int32) : zI := va_up (va_up (va_up (va_up (va_up (va_up (va_up I 10 (upd (I 10) nJ (nI day))) 11 (upd (I 11) nJ (nI k))) 12 (upd (I 12) nJ rv)) 13 W) 14 (va_cpy (I 29) (I 14) 0 (10 * nJ) k)) 15 (va_cpy (I 30) (I 15) 0 (10 * nJ) k)) 9 (upd (I 9) 0 (nI (nJ + 1)))
theorem c_add0d {nJ day : Nat} (hJ : I 9 0 = nI nJ) (h60 : nJ < 60) (hk : I 28 0 = nI k) (k10 : k ≤ 10) : zEv X mt_X4_add 0 [.ref 9, .ref 28, .int (nI day), .int (-5), .null] [] (zSH im tl, I, L) (some (.int (nI nJ)), (zSH im tl, caddd I nJ day k (-5) (upd (I 13) nJ (-5)), L)) := by
  have ci : ¬ (I 9 0 < 0 ∨ 60 ≤ (I 9 0).toNatClampNeg) := k_in hJ h60 (by omega)
  have cc : (I 9 0).toNatClampNeg = nJ := by rw [hJ, kc (by omega)]
  refine sg_X4_addd_0_0 _ _ (cj_isFull hJ (by omega)) (sg_X4_addd_4_0 _ _ _ (by rw [decide_eq_false (by omega)]; rfl) ci ci ci ci (sg_X4_has_0_0 _ (by decide)) ?_)
  rw [cc, hJ]
  have em : (nI nJ * 10).toNatClampNeg = 10 * nJ := by rw [show (10 : Int32) = nI 10 from rfl, pk_mul, Nat.mul_comm, kc (by omega)]
  have e0 : (0 : Int32).toNatClampNeg = 0 := by decide +kernel
  have hg : ¬ ((0 : Int32) < 0 ∨ (nI nJ * 10) < 0 ∨ I 28 0 < 0 ∨ 10 < (0 : Int32).toNatClampNeg + (I 28 0).toNatClampNeg ∨ 600 < (nI nJ * 10).toNatClampNeg + (I 28 0).toNatClampNeg) := by
    rw [em, e0, hk, kc (by omega), show nI nJ * 10 = nI (nJ * 10) by rw [show (10 : Int32) = nI 10 from rfl, pk_mul]]
    rintro (h | h | h | h | h)
    · exact absurd h (by decide)
    · exact absurd h (nI_pos (by omega))
    · exact absurd h (nI_pos (by omega))
    · omega
    · omega
  refine ev_r (sg_X4_addd_57_0 _ _ _ _ rfl hg hg) ?_
  show (some (Value.int (nI nJ)), zSH im tl, va_up (va_up (va_up (va_up (va_up (va_up (va_up I 10 (upd (I 10) nJ (nI day))) 11 (upd (I 11) nJ (I 28 0))) 12 (upd (I 12) nJ (-5))) 13 (upd (I 13) nJ (-5))) 14 (va_cpy (I 29) (I 14) 0 (nI nJ * 10).toNatClampNeg (I 28 0).toNatClampNeg)) 15 (va_cpy (I 30) (I 15) 0 (nI nJ * 10).toNatClampNeg (I 28 0).toNatClampNeg)) 9 (upd (I 9) 0 (I 9 0 + 1)), L) = _
  rw [em, hk, hJ, kc (n := k) (by omega), nI_1]
  rfl
theorem c_addrd {nJ day r : Nat} (hJ : I 9 0 = nI nJ) (h60 : nJ < 60) (hk : I 28 0 = nI k) (k10 : k ≤ 10) (hr : r < nJ) : zEv X mt_X4_add 0 [.ref 9, .ref 28, .int (nI day), .int (nI r), .null] [] (zSH im tl, I, L) (some (.int (nI nJ)), (zSH im tl, caddd I nJ day k (nI r) (upd (upd (I 13) nJ (-5)) r (nI nJ)), L)) := by
  have ci : ¬ (I 9 0 < 0 ∨ 60 ≤ (I 9 0).toNatClampNeg) := k_in hJ h60 (by omega)
  have cc : (I 9 0).toNatClampNeg = nJ := by rw [hJ, kc (by omega)]
  refine sg_X4_addd_0_0 _ _ (cj_isFull hJ (by omega)) (sg_X4_addd_4_0 _ _ _ (by rw [decide_eq_false (by omega)]; rfl) ci ci ci ci (cj_has1 (nJ := nJ) (by exact hJ) hr (by omega)) ?_)
  rw [cc, hJ]
  have em : (nI nJ * 10).toNatClampNeg = 10 * nJ := by rw [show (10 : Int32) = nI 10 from rfl, pk_mul, Nat.mul_comm, kc (by omega)]
  have e0 : (0 : Int32).toNatClampNeg = 0 := by decide +kernel
  have hg : ¬ ((0 : Int32) < 0 ∨ (nI nJ * 10) < 0 ∨ I 28 0 < 0 ∨ 10 < (0 : Int32).toNatClampNeg + (I 28 0).toNatClampNeg ∨ 600 < (nI nJ * 10).toNatClampNeg + (I 28 0).toNatClampNeg) := by
    rw [em, e0, hk, kc (by omega), show nI nJ * 10 = nI (nJ * 10) by rw [show (10 : Int32) = nI 10 from rfl, pk_mul]]
    rintro (h | h | h | h | h)
    · exact absurd h (by decide)
    · exact absurd h (nI_pos (by omega))
    · exact absurd h (nI_pos (by omega))
    · omega
    · omega
  refine ev_r (sg_X4_addd_57_1 _ _ _ _ (by decide) (k_in rfl (by omega) (by omega)) hg hg) ?_
  show (some (Value.int (nI nJ)), zSH im tl, va_up (va_up (va_up (va_up (va_up (va_up (va_up (va_up I 10 (upd (I 10) nJ (nI day))) 11 (upd (I 11) nJ (I 28 0))) 12 (upd (I 12) nJ (nI r))) 13 (upd (I 13) nJ (-5))) 13 (upd (upd (I 13) nJ (-5)) (nI r).toNatClampNeg (nI nJ))) 14 (va_cpy (I 29) (I 14) 0 (nI nJ * 10).toNatClampNeg (I 28 0).toNatClampNeg)) 15 (va_cpy (I 30) (I 15) 0 (nI nJ * 10).toNatClampNeg (I 28 0).toNatClampNeg)) 9 (upd (I 9) 0 (I 9 0 + 1)), L) = _
  rw [em, hk, hJ, kc (n := k) (by omega), kc (n := r) (by omega), nI_1, va_up2]
  rfl
theorem cz_ofd (I : zI) (A : Nat → Int32) : va_up I 21 A = cz I A (I 22) (I 23) := by
  have := cz_21 I (I 21) (I 22) (I 23) A
  rw [cz_id] at this
  exact this
/-- a slip that reverses nothing -/
theorem j_try0d (hA : rA d I L (va_up J 40 n) K) (hJ : rJ d I (va_up J 40 n) K) (hD : RD d.day d.cl (I 1) (L 27) n (K 41)) (h60 : d.nJ < 60) (h6 : n 6 = 0) (hs : RS d.nA d.nP k ac (I 28) (I 29) (I 30) n (K 41)) : (2 ≤ k ∧ (∃ A, A 0 = 0 ∧ zEv X mt_X0_tryToPost 0 [.ref 1, .ref 28, .int (-5)] [] (zSH im tl, I, L) (some (.int (nI d.nJ)), (zSH im tl, caddd (cz I A (I 22) (I 23)) d.nJ d.day k (-5) (upd (I 13) d.nJ (-5)), L))) ∧ ∀ J : zI, zEv X mt_X11_isHindered 0 [.ref 39] [] (zSH im tl, va_up J 40 n, K) (some (.int 0), (zSH im tl, va_up J 40 n, K))) ∨ ∃ nC' A' B' C' n', 0 < nC' ∧ (B' 0 = 1 ∨ B' 0 = 2 ∨ B' 0 = 4) ∧ RC nC' A' B' C' n' ∧ (∀ x, x ≠ 6 → x < 1264 → n' x = n x) ∧ zEv X mt_X0_tryToPost 0 [.ref 1, .ref 28, .int (-5)] [] (zSH im tl, I, L) (some (.int (-10 - B' 0)), (zSH im tl, cz I A' B' C', L)) ∧ ∀ J : zI, zEv X mt_X11_isHindered 0 [.ref 39] [] (zSH im tl, va_up J 40 n, K) (some (.int 1), (zSH im tl, va_up J 40 n', K)) := by
  have hC : RC 0 (upd (I 21) 0 0) (I 22) (I 23) n := RC.mk (by omega) rfl h6 (fun i hi => by omega) (fun i hi => by omega)
  rcases j_cand (X := X) (im := im) (tl := tl) hA hJ hD hC (by omega) hs with ⟨k2, q1, q2⟩ | ⟨nC', A', B', C', n', w1, w2, w3, w4, q1, q2⟩
  · refine Or.inl ⟨k2, ⟨upd (upd (I 21) 0 0) 0 0, rfl, ?_⟩, q2⟩
    refine sg_X0_tryToPostd_0_0 _ rfl (by rw [cz_ofd]; exact q1) (sg_X0_tryToPostd_29_1 _ _ (by decide) ?_ (sg_X0_tryToPostd_66_0 _ _))
    rw [cz_21]
    have := c_add0d (X := X) (im := im) (tl := tl) (L := L) (I := cz I (upd (upd (I 21) 0 0) 0 0) (I 22) (I 23)) (day := d.day) hJ.c h60 hs.2.2.1 hs.1
    rw [show cz I (upd (I 21) 0 0) (I 22) (I 23) 1 6 = nI d.day from hD.bd]
    exact this
  · exact Or.inr ⟨nC', A', B', C', n', w1, w4.2 rfl, w2, w3, sg_X0_tryToPostd_0_0 _ rfl (by rw [cz_ofd]; exact q1) (sg_X0_tryToPostd_29_0 (I := cz I A' B' C') _ _ rfl), q2⟩
/-- a slip that reverses journal r -/
theorem j_tryrd {r : Nat} (hA : rA d I L (va_up J 40 n) K) (hJ : rJ d I (va_up J 40 n) K) (hD : RD d.day d.cl (I 1) (L 27) n (K 41)) (h60 : d.nJ < 60) (hr : r < d.nJ) (h6 : n 6 = nI 1) (h7 : n 1264 = 7) (h8 : n 1270 = nI r) (hs : RS d.nA d.nP k ac (I 28) (I 29) (I 30) n (K 41)) : (2 ≤ k ∧ (∃ A B C, A 0 = 0 ∧ zEv X mt_X0_tryToPost 0 [.ref 1, .ref 28, .int (nI r)] [] (zSH im tl, I, L) (some (.int (nI d.nJ)), (zSH im tl, caddd (cz I A B C) d.nJ d.day k (nI r) (upd (upd (I 13) d.nJ (-5)) r (nI d.nJ)), L))) ∧ ∀ J : zI, zEv X mt_X11_isHindered 0 [.ref 39] [] (zSH im tl, va_up J 40 n, K) (some (.int 0), (zSH im tl, va_up J 40 n, K))) ∨ ∃ nC' A' B' C' n', 0 < nC' ∧ RC nC' A' B' C' n' ∧ (∀ x, x ≠ 6 → x < 1264 → n' x = n x) ∧ zEv X mt_X0_tryToPost 0 [.ref 1, .ref 28, .int (nI r)] [] (zSH im tl, I, L) (some (.int (-17)), (zSH im tl, cz I A' B' C', L)) ∧ ∀ J : zI, zEv X mt_X11_isHindered 0 [.ref 39] [] (zSH im tl, va_up J 40 n, K) (some (.int 1), (zSH im tl, va_up J 40 n', K)) := by
  have hC0 : RC 0 (upd (I 21) 0 0) (I 22) (I 23) (upd n 6 0) := RC.mk (by omega) rfl pk_us (fun i hi => by omega) (fun i hi => by omega)
  have hC : RC 1 (upd (upd (I 21) 0 0) 0 (nI 1)) (upd (I 22) 0 7) (upd (I 23) 0 (nI r)) n := by
    refine RC.mk (by omega) rfl h6 (fun i hi => ?_) (fun i hi => ?_)
    · obtain rfl : i = 0 := by omega
      exact h7
    · obtain rfl : i = 0 := by omega
      exact h8
  have ca := c_addCause (X := X) (im := im) (tl := tl) (I := I) (L := L) hC0 (by omega) 7 (nI r)
  have hn5 : ¬ nI r = -5 := n5 (by have := hJ.j60; omega)
  rcases j_cand (X := X) (im := im) (tl := tl) hA hJ hD hC (by omega) hs with ⟨k2, q1, q2⟩ | ⟨nC', A', B', C', n', w1, w2, w3, w4, q1, q2⟩
  · refine Or.inl ⟨k2, ⟨upd (upd (upd (I 21) 0 0) 0 (nI 1)) 0 0, upd (I 22) 0 7, upd (I 23) 0 (nI r), rfl, ?_⟩, q2⟩
    refine sg_X0_tryToPostd_0_1 _ hn5 (by rw [cz_ofd]; exact ca) (sg_X0_tryToPostd_24_0 _ q1 (sg_X0_tryToPostd_29_1 _ _ (by decide) ?_ (sg_X0_tryToPostd_66_0 _ _)))
    rw [cz_21]
    have := c_addrd (X := X) (im := im) (tl := tl) (L := L) (I := cz I (upd (upd (upd (I 21) 0 0) 0 (nI 1)) 0 0) (upd (I 22) 0 7) (upd (I 23) 0 (nI r))) (day := d.day) hJ.c h60 hs.2.2.1 hs.1 hr
    rw [show cz I (upd (upd (I 21) 0 0) 0 (nI 1)) (upd (I 22) 0 7) (upd (I 23) 0 (nI r)) 1 6 = nI d.day from hD.bd]
    exact this
  · refine Or.inr ⟨nC', A', B', C', n', by omega, w2, w3, sg_X0_tryToPostd_0_1 _ hn5 (by rw [cz_ofd]; exact ca) (sg_X0_tryToPostd_24_0 _ q1 (ev_r (sg_X0_tryToPostd_29_0 _ _ rfl) ?_)), q2⟩
    have e : cz I A' B' C' 22 0 = 7 := w4.1 (by omega)
    rw [e]
    rfl
end TPd
