section PO
variable {X : zSc} {im : Option Nat} {tl : List zS} {I J : zI} {L K : zL} {d : zD} {n : Nat → Int32}
theorem m_posted {nJ nP k day : Nat} (h1 : n 1 = nI nJ) (h60 : nJ < 60) (h2 : n 2 = nI nP) (h3 : n 3 = nI k) (h4 : n 4 = nI day) {v : Int32} (hv : v < 0) : ∃ n', (∀ (J : zI) (K : zL), zEv X mt_X11_posted 0 [.ref 39, .int v, .null] [] (zSH im tl, va_up J 40 n, K) (some (.int (nI nJ)), (zSH im tl, va_up J 40 n', K))) ∧ n' 1 = nI (nJ + 1) ∧ n' 2 = nI (nP + k) ∧ n' 3 = -1 ∧ n' (100 + nJ) = nI day ∧ n' (160 + nJ) = nI nP ∧ n' (220 + nJ) = nI k ∧ n' (280 + nJ) = v ∧ n' (340 + nJ) = -1 ∧ (∀ x, x ≠ 1 → x ≠ 2 → x ≠ 3 → x ≠ 100 + nJ → x ≠ 160 + nJ → x ≠ 220 + nJ → x ≠ 280 + nJ → x ≠ 340 + nJ → n' x = n x) := by
  have c100 : ((100 : Int32) + nI nJ).toNatClampNeg = 100 + nJ := kx 100 (a := 100) rfl (by omega)
  have c160 : ((160 : Int32) + nI nJ).toNatClampNeg = 160 + nJ := kx 160 (a := 160) rfl (by omega)
  have c220 : ((220 : Int32) + nI nJ).toNatClampNeg = 220 + nJ := kx 220 (a := 220) rfl (by omega)
  have c280 : ((280 : Int32) + nI nJ).toNatClampNeg = 280 + nJ := kx 280 (a := 280) rfl (by omega)
  have c340 : ((340 : Int32) + nI nJ).toNatClampNeg = 340 + nJ := kx 340 (a := 340) rfl (by omega)
  have b2 : upd n (100 + nJ) (nI day) 2 = nI nP := by rw [pk_un (by omega), h2]
  refine ⟨?n', fun J K => ?ev, ?_, ?_, ?_, ?_, ?_, ?_, ?_, ?_, ?_⟩
  case ev =>
    have e1 : va_up J 40 n 40 1 = nI nJ := h1
    have e4 : va_up J 40 n 40 4 = nI day := h4
    have a0 : va_up (va_up J 40 n) 40 (upd (va_up J 40 n 40) ((100 : Int32) + va_up J 40 n 40 1).toNatClampNeg (va_up J 40 n 40 4)) = va_up J 40 (upd n (100 + nJ) (nI day)) := by rw [e1, e4, c100, va_up_self, va_up2]
    have hp : zEv X mt_X11_postings 0 [.ref 39] [] (zSH im tl, va_up (va_up J 40 n) 40 (upd (va_up J 40 n 40) ((100 : Int32) + va_up J 40 n 40 1).toNatClampNeg (va_up J 40 n 40 4)), K) (some (.int (nI nP)), (zSH im tl, va_up J 40 (upd n (100 + nJ) (nI day)), K)) := by
      rw [a0]
      exact ev_r sg_X11_postings_0_0 (by rw [show va_up J 40 (upd n (100 + nJ) (nI day)) 40 2 = nI nP from b2])
    have hq := sg_X11_posted_35_0 (X := X) (im := im) (tl := tl) (I := va_up J 40 (upd n (100 + nJ) (nI day))) (L := K) v (nI nJ) (nI nP) (160 + nI nJ) (k_in (nI_add 160 nJ) (by omega) (by omega)) (k_in (nI_add 220 nJ) (by omega) (by omega)) (k_in (nI_add 280 nJ) (by omega) (by omega)) (k_in (nI_add 340 nJ) (by omega) (by omega)) hv
    rw [c160, c220, c280, c340] at hq
    simp only [va_up_self, va_up2] at hq
    exact sg_X11_posted_0_0 _ (by rw [e1]; exact k_in (nI_add 100 nJ) (by omega) (by omega)) hp (by rw [e1]; exact hq)
  · repeat (first | rw [pk_us] | rw [pk_un (by omega)])
    rw [h1, nI_1]
  · repeat (first | rw [pk_us] | rw [pk_un (by omega)])
    rw [h2, h3, nI_add]
  · repeat (first | rw [pk_us] | rw [pk_un (by omega)])
  · repeat (first | rw [pk_us] | rw [pk_un (by omega)])
  · repeat (first | rw [pk_us] | rw [pk_un (by omega)])
  · repeat (first | rw [pk_us] | rw [pk_un (by omega)])
    exact h3
  · repeat (first | rw [pk_us] | rw [pk_un (by omega)])
  · repeat (first | rw [pk_us] | rw [pk_un (by omega)])
  · intro x x1 x2 x3 x4 x5 x6 x7 x8
    rw [pk_un x1, pk_un x3, pk_un x2, pk_un x8, pk_un x7, pk_un x6, pk_un x5, pk_un x4]
theorem m_posted2 {nJ nP k day r : Nat} (h1 : n 1 = nI nJ) (h60 : nJ < 60) (h2 : n 2 = nI nP) (h3 : n 3 = nI k) (h4 : n 4 = nI day) (hr : r < nJ) : ∃ n', (∀ (J : zI) (K : zL), zEv X mt_X11_posted 0 [.ref 39, .int (nI r), .null] [] (zSH im tl, va_up J 40 n, K) (some (.int (nI nJ)), (zSH im tl, va_up J 40 n', K))) ∧ n' 1 = nI (nJ + 1) ∧ n' 2 = nI (nP + k) ∧ n' 3 = -1 ∧ n' (100 + nJ) = nI day ∧ n' (160 + nJ) = nI nP ∧ n' (220 + nJ) = nI k ∧ n' (280 + nJ) = nI r ∧ n' (340 + nJ) = -1 ∧ n' (340 + r) = nI nJ ∧ (∀ x, x ≠ 1 → x ≠ 2 → x ≠ 3 → x ≠ 100 + nJ → x ≠ 160 + nJ → x ≠ 220 + nJ → x ≠ 280 + nJ → x ≠ 340 + nJ → x ≠ 340 + r → n' x = n x) := by
  have c100 : ((100 : Int32) + nI nJ).toNatClampNeg = 100 + nJ := kx 100 (a := 100) rfl (by omega)
  have c160 : ((160 : Int32) + nI nJ).toNatClampNeg = 160 + nJ := kx 160 (a := 160) rfl (by omega)
  have c220 : ((220 : Int32) + nI nJ).toNatClampNeg = 220 + nJ := kx 220 (a := 220) rfl (by omega)
  have c280 : ((280 : Int32) + nI nJ).toNatClampNeg = 280 + nJ := kx 280 (a := 280) rfl (by omega)
  have c340 : ((340 : Int32) + nI nJ).toNatClampNeg = 340 + nJ := kx 340 (a := 340) rfl (by omega)
  have c34r : ((340 : Int32) + nI r).toNatClampNeg = 340 + r := kx 340 (a := 340) rfl (by omega)
  have b2 : upd n (100 + nJ) (nI day) 2 = nI nP := by rw [pk_un (by omega), h2]
  refine ⟨?n', fun J K => ?ev, ?_, ?_, ?_, ?_, ?_, ?_, ?_, ?_, ?_, ?_⟩
  case ev =>
    have e1 : va_up J 40 n 40 1 = nI nJ := h1
    have e4 : va_up J 40 n 40 4 = nI day := h4
    have a0 : va_up (va_up J 40 n) 40 (upd (va_up J 40 n 40) ((100 : Int32) + va_up J 40 n 40 1).toNatClampNeg (va_up J 40 n 40 4)) = va_up J 40 (upd n (100 + nJ) (nI day)) := by rw [e1, e4, c100, va_up_self, va_up2]
    have hp : zEv X mt_X11_postings 0 [.ref 39] [] (zSH im tl, va_up (va_up J 40 n) 40 (upd (va_up J 40 n 40) ((100 : Int32) + va_up J 40 n 40 1).toNatClampNeg (va_up J 40 n 40 4)), K) (some (.int (nI nP)), (zSH im tl, va_up J 40 (upd n (100 + nJ) (nI day)), K)) := by
      rw [a0]
      exact ev_r sg_X11_postings_0_0 (by rw [show va_up J 40 (upd n (100 + nJ) (nI day)) 40 2 = nI nP from b2])
    have hq := sg_X11_posted_35_1 (X := X) (im := im) (tl := tl) (I := va_up J 40 (upd n (100 + nJ) (nI day))) (L := K) (nI r) (nI nJ) (nI nP) (160 + nI nJ) (k_in (nI_add 160 nJ) (by omega) (by omega)) (k_in (nI_add 220 nJ) (by omega) (by omega)) (k_in (nI_add 280 nJ) (by omega) (by omega)) (k_in (nI_add 340 nJ) (by omega) (by omega)) (nI_pos (by omega)) (k_in (nI_add 340 r) (by omega) (by omega))
    rw [c160, c220, c280, c340, c34r] at hq
    simp only [va_up_self, va_up2] at hq
    exact sg_X11_posted_0_0 _ (by rw [e1]; exact k_in (nI_add 100 nJ) (by omega) (by omega)) hp (by rw [e1]; exact hq)
  · repeat (first | rw [pk_us] | rw [pk_un (by omega)])
    rw [h1, nI_1]
  · repeat (first | rw [pk_us] | rw [pk_un (by omega)])
    rw [h2, h3, nI_add]
  · repeat (first | rw [pk_us] | rw [pk_un (by omega)])
  · repeat (first | rw [pk_us] | rw [pk_un (by omega)])
  · repeat (first | rw [pk_us] | rw [pk_un (by omega)])
  · repeat (first | rw [pk_us] | rw [pk_un (by omega)])
    exact h3
  · repeat (first | rw [pk_us] | rw [pk_un (by omega)])
  · repeat (first | rw [pk_us] | rw [pk_un (by omega)])
  · repeat (first | rw [pk_us] | rw [pk_un (by omega)])
  · intro x x1 x2 x3 x4 x5 x6 x7 x8 x9
    rw [pk_un x1, pk_un x3, pk_un x2, pk_un x9, pk_un x8, pk_un x7, pk_un x6, pk_un x5, pk_un x4]
theorem rj_post {nA nJ nP day k : Nat} {sz fs dy : Nat → Nat} {C D Z V W A M S T : Nat → Int32} {n' : Nat → Int32} {l : Nat → Int64} {rv : Int32} {W' : Nat → Int32} (h : RJ nA nJ nP day sz fs dy C D Z V W A M n l) (h60 : nJ < 60) (k2 : 2 ≤ k) (k10 : k ≤ 10) (hS : ∀ i, i < k → (∃ a, a < nA ∧ S i = nI a) ∧ n (400 + (nP + i)) = S i) (hT : ∀ i, i < k → (-1000000 ≤ (T i).toInt ∧ (T i).toInt ≤ 1000000) ∧ l (60 + (nP + i)) = (T i).toInt64) (n1 : n' 1 = nI (nJ + 1)) (n2 : n' 2 = nI (nP + k)) (n100 : n' (100 + nJ) = nI day) (n160 : n' (160 + nJ) = nI nP) (n220 : n' (220 + nJ) = nI k) (hv : (rv = -5 ∧ n' (280 + nJ) = -1) ∨ ∃ r, r < nJ ∧ rv = nI r ∧ n' (280 + nJ) = nI r) (hw : ∀ j, j < nJ + 1 → (W' j = -5 ∧ n' (340 + j) = -1) ∨ ∃ x, x < nJ + 1 ∧ W' j = nI x ∧ n' (340 + j) = nI x) (hf : ∀ x, 100 ≤ x ∧ x < 340 ∨ 400 ≤ x → x ≠ 100 + nJ → x ≠ 160 + nJ → x ≠ 220 + nJ → x ≠ 280 + nJ → n' x = n x) : RJ nA (nJ + 1) (nP + k) day (fun j => if j = nJ then k else sz j) (fun j => if j = nJ + 1 then nP + k else fs j) (fun j => if j = nJ then day else dy j) (upd C 0 (nI (nJ + 1))) (upd D nJ (nI day)) (upd Z nJ (nI k)) (upd V nJ rv) W' (va_cpy S A 0 (10 * nJ) k) (va_cpy T M 0 (10 * nJ) k) n' l := by
  have hfE := h.fE
  have ne : ∀ j, j < nJ → ¬ j = nJ := fun j hj => by omega
  refine RJ.mk (by omega) pk_us n1 n2 ?_ ?_ ?_ ?_ ?_ ?_ ?_ ?_ ?_ ?_ hw ?_ ?_
  · rw [if_neg (by omega)]; exact h.f0
  · intro j hj
    by_cases e : j = nJ
    · subst e; rw [if_pos rfl, if_neg (by omega), if_pos rfl, hfE]
    · rw [if_neg (by omega), if_neg (by omega), if_neg e]; exact h.fS j (by omega)
  · rw [if_pos rfl]
  · intro j hj
    by_cases e : j = nJ
    · subst e; rw [if_pos rfl, pk_us]; exact ⟨rfl, k10⟩
    · rw [if_neg e, pk_un e]; exact h.z j (by omega)
  · intro j hj
    by_cases e : j = nJ
    · subst e; rw [if_pos rfl]; exact k2
    · rw [if_neg e]; exact h.z2 j (by omega)
  · intro j hj
    by_cases e : j = nJ
    · subst e; rw [if_pos rfl]; exact n220
    · rw [if_neg e, hf _ (by omega) (by omega) (by omega) (by omega) (by omega)]; exact h.zm j (by omega)
  · intro j hj
    by_cases e : j = nJ
    · subst e; rw [if_neg (by omega), n160, hfE]
    · rw [if_neg (by omega), hf _ (by omega) (by omega) (by omega) (by omega) (by omega)]; exact h.fm j (by omega)
  · intro j hj
    by_cases e : j = nJ
    · subst e; rw [if_pos rfl, pk_us]; exact ⟨rfl, Nat.le_refl _⟩
    · rw [if_neg e, pk_un e]; exact h.d j (by omega)
  · intro j hj
    by_cases e : j = nJ
    · subst e; rw [pk_us, n100]
    · rw [pk_un e, hf _ (by omega) (by omega) (by omega) (by omega) (by omega)]; exact h.dm j (by omega)
  · intro j hj
    by_cases e : j = nJ
    · subst e
      rw [pk_us]
      rcases hv with q | ⟨r, r1, r2⟩
      · exact Or.inl q
      · exact Or.inr ⟨r, by omega, r2⟩
    · rw [pk_un e, hf _ (by omega) (by omega) (by omega) (by omega) (by omega)]
      rcases h.v j (by omega) with q | ⟨r, r1, r2⟩
      · exact Or.inl q
      · exact Or.inr ⟨r, by omega, r2⟩
  · intro j hj i hi
    by_cases e : j = nJ
    · subst e
      rw [if_pos rfl] at hi
      rw [if_neg (by omega), hfE, pk_cpy_in (by omega) (by omega), show 0 + (10 * j + i - 10 * j) = i by omega, hf _ (by omega) (by omega) (by omega) (by omega) (by omega)]
      exact hS i hi
    · rw [if_neg e] at hi
      have := h.fz (j := j) (by omega)
      have hz := (h.z j (by omega)).2
      rw [if_neg (by omega), pk_cpy_out (by omega), hf _ (by omega) (by omega) (by omega) (by omega) (by omega)]
      exact h.a j (by omega) i hi
  · intro j hj i hi
    by_cases e : j = nJ
    · subst e
      rw [if_pos rfl] at hi
      rw [if_neg (by omega), hfE, pk_cpy_in (by omega) (by omega), show 0 + (10 * j + i - 10 * j) = i by omega]
      exact hT i hi
    · rw [if_neg e] at hi
      have := h.fz (j := j) (by omega)
      have hz := (h.z j (by omega)).2
      rw [if_neg (by omega), pk_cpy_out (by omega)]
      exact h.x j (by omega) i hi
end PO
