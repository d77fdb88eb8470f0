section RV
variable {X : zSc} {im : Option Nat} {tl : List zS} {I J : zI} {L K : zL} {d : zD} {n : Nat → Int32}
/-- the class's memory with another draft -/
def dz (I : zI) (O S T : Nat → Int32) : zI := va_up (va_up (va_up I 28 O) 29 S) 30 T
theorem dz_add (I : zI) (O S T O' S' T' : Nat → Int32) : va_up (va_up (va_up (dz I O S T) 29 S') 30 T') 28 O' = dz I O' S' T' := by
  funext j
  unfold dz va_up
  by_cases h1 : j = 28
  · subst h1; rfl
  · by_cases h2 : j = 29
    · subst h2; rfl
    · by_cases h3 : j = 30
      · subst h3; rfl
      · simp [h1, h2, h3]
theorem dz_28 (I : zI) (O S T O' : Nat → Int32) : va_up (dz I O S T) 28 O' = dz I O' S T := by
  funext j
  unfold dz va_up
  by_cases h1 : j = 28
  · subst h1; rfl
  · by_cases h2 : j = 29
    · subst h2; rfl
    · by_cases h3 : j = 30
      · subst h3; rfl
      · simp [h1, h2, h3]
theorem dz_id (I : zI) : dz I (I 28) (I 29) (I 30) = I := by
  funext j
  unfold dz va_up
  by_cases h1 : j = 28
  · subst h1; rfl
  · by_cases h2 : j = 29
    · subst h2; rfl
    · by_cases h3 : j = 30
      · subst h3; rfl
      · simp [h1, h2, h3]
theorem c_draftAdd {O S T : Nat → Int32} {i : Nat} (h : O 0 = nI i) (hi : i < 10) (a v : Int32) : zEv X mt_X8_add 0 [.ref 28, .int a, .int v] [] (zSH im tl, dz I O S T, L) (none, (zSH im tl, dz I (upd O 0 (nI (i + 1))) (upd S i a) (upd T i v), L)) := by
  have h' : dz I O S T 28 0 = nI i := h
  refine ev_r (sg_X8_addd_0_1 _ _ (k_nle (a := 10) rfl h' hi (by omega)) (k_in h' hi (by omega)) (k_in h' hi (by omega))) ?_
  rw [dz_add, h', kc (by omega), nI_1]
  rfl
theorem c_writeReversal (hJ : rJ d I J K) {r : Nat} (hr : r < d.nJ) : ∃ O S T, O 0 = nI (d.sz r) ∧ (∀ i, i < d.sz r → S i = I 14 (10 * r + i) ∧ T i = -(I 15 (10 * r + i))) ∧ zEv X mt_X4_writeReversal 0 [.ref 9, .int (nI r), .ref 28, .null, .null] [] (zSH im tl, I, L) (none, (zSH im tl, dz I O S T, L)) := by
  have h60 := hJ.j60
  obtain ⟨hz, hz10⟩ := hJ.z r hr
  have cr : (nI r).toNatClampNeg = r := kc (by omega)
  have ci := k_in (x := nI r) (n := 60) rfl (by omega) (by omega)
  have loop : ∀ (f i : Nat) (O S T : Nat → Int32), i + f = d.sz r → O 0 = nI i → (∀ q, q < i → S q = I 14 (10 * r + q) ∧ T q = -(I 15 (10 * r + q))) → ∃ O' S' T', O' 0 = nI (d.sz r) ∧ (∀ q, q < d.sz r → S' q = I 14 (10 * r + q) ∧ T' q = -(I 15 (10 * r + q))) ∧ zEv X mt_X4_writeReversal 7 [.ref 9, .int (nI r), .ref 28, .int (nI i), .null] [] (zSH im tl, dz I O S T, L) (none, (zSH im tl, dz I O' S' T', L)) := by
    intro f
    induction f with
    | zero =>
      intro i O S T hi h0 hq
      have : i = d.sz r := by omega
      subst this
      refine ⟨O, S, T, h0, hq, sg_X4_writeReversal_7_0 _ _ ci ?_⟩
      rw [cr, show dz I O S T 11 r = nI (d.sz r) from hz]
      exact Int32.le_refl _
    | succ f ih =>
      intro i O S T hi h0 hq
      obtain ⟨O', S', T', w1, w2, w3⟩ := ih (i + 1) (upd O 0 (nI (i + 1))) (upd S i (I 14 (10 * r + i))) (upd T i (-(I 15 (10 * r + i)))) (by omega) pk_us (fun q hq' => by
        by_cases e : q = i
        · subst e; rw [pk_us, pk_us]; exact ⟨rfl, rfl⟩
        · rw [pk_un e, pk_un e]; exact hq q (by omega))
      refine ⟨O', S', T', w1, w2, ?_⟩
      have ck := kmi (j := r) (i := i) (n := 600) (by omega) (by omega)
      have kk : ((nI r * 10) + nI i).toNatClampNeg = 10 * r + i := kmx (by omega)
      refine sg_X4_writeReversal_7_1 _ _ ci ?_ ck ck ?_ (sg_X4_writeReversal_44_0 _ _ _ (by rw [nI_1]; exact w3))
      · rw [cr, show dz I O S T 11 r = nI (d.sz r) from hz]
        exact nI_ge (by omega) (by omega)
      · rw [kk]
        exact c_draftAdd h0 (by omega) _ _
  obtain ⟨O', S', T', w1, w2, w3⟩ := loop (d.sz r) 0 (upd (I 28) 0 0) (I 29) (I 30) (by omega) pk_us (fun q hq => by omega)
  refine ⟨O', S', T', w1, w2, sg_X4_writeReversal_0_0 _ ?_⟩
  have e : va_up I 28 (upd (I 28) 0 0) = dz I (upd (I 28) 0 0) (I 29) (I 30) := by
    have := dz_28 I (I 28) (I 29) (I 30) (upd (I 28) 0 0)
    rw [dz_id] at this
    exact this
  rw [e]
  exact w3
/-- the model lays the postings that reverse a journal -/
theorem m_revloop (hJ : RJ d.nA d.nJ d.nP d.day d.sz d.fs d.dy (I 9) (I 10) (I 11) (I 12) (I 13) (I 14) (I 15) n (L 41)) (h60 : d.nJ < 60) {r : Nat} (hr : r < d.nJ) : ∀ (f i : Nat) (m : Nat → Int32) (l : Nat → Int64), i + f = d.sz r → m 3 = nI i → (∀ x, x ≠ 3 → (x < 400 + d.nP ∨ 1010 ≤ x) → m x = n x) → (∀ q, q < i → m (400 + (d.nP + q)) = I 14 (10 * r + q)) → (∀ x, x < 60 + d.nP ∨ 670 ≤ x → l x = L 41 x) → (∀ q, q < i → l (60 + (d.nP + q)) = -(I 15 (10 * r + q)).toInt64) → ∃ (m' : Nat → Int32) (l' : Nat → Int64), m' 3 = nI (d.sz r) ∧ (∀ x, x ≠ 3 → (x < 400 + d.nP ∨ 1010 ≤ x) → m' x = n x) ∧ (∀ q, q < d.sz r → m' (400 + (d.nP + q)) = I 14 (10 * r + q)) ∧ (∀ x, x < 60 + d.nP ∨ 670 ≤ x → l' x = L 41 x) ∧ (∀ q, q < d.sz r → l' (60 + (d.nP + q)) = -(I 15 (10 * r + q)).toInt64) ∧ ∀ (J : zI) (K : zL) (res : Option Value × zM), zEv X mt_X11_reversed 18 [.ref 39, .int (nI r), .int (nI (d.fs r + d.sz r))] [] (zSH im tl, va_up J 40 m', va_up K 41 l') res → zEv X mt_X11_reversed 18 [.ref 39, .int (nI r), .int (nI (d.fs r + i))] [] (zSH im tl, va_up J 40 m, va_up K 41 l) res := by
  have hfz := hJ.fz hr
  have hz := (hJ.z r hr).2
  have hP : d.nP ≤ 10 * d.nJ := rj_p (I := I) (J := va_up I 40 n) (K := L) hJ
  intro f
  induction f with
  | zero =>
    intro i m l hi h3 hm ha hl hx
    have : i = d.sz r := by omega
    subst this
    exact ⟨m, l, h3, hm, ha, hl, hx, fun J K res h => h⟩
  | succ f ih =>
    intro i m l hi h3 hm ha hl hx
    have hA := (hJ.a r hr i (by omega)).2
    have hX := (hJ.x r hr i (by omega)).2
    obtain ⟨m', l', w1, w2, w3, w4, w5, w6⟩ := ih (i + 1) (upd (upd m (400 + (d.nP + i)) (I 14 (10 * r + i))) 3 (nI (i + 1))) (vp_updL l (60 + (d.nP + i)) (-(I 15 (10 * r + i)).toInt64)) (by omega) pk_us (fun x x1 x2 => by rw [pk_un x1, pk_un (by omega)]; exact hm x x1 x2) (fun q hq => by
        rw [pk_un (by omega)]
        by_cases e : q = i
        · subst e; rw [pk_us]
        · rw [pk_un (by omega)]; exact ha q (by omega)) (fun x x1 => by rw [pk_uLn (by omega)]; exact hl x x1) (fun q hq => by
        by_cases e : q = i
        · subst e; rw [pk_uLs]
        · rw [pk_uLn (by omega)]; exact hx q (by omega))
    refine ⟨m', l', w1, w2, w3, w4, w5, fun J K res h => ?_⟩
    have h4 := w6 J K res h
    have e1 : va_up J 40 m 40 ((400 : Int32) + nI (d.fs r + i)).toNatClampNeg = I 14 (10 * r + i) := by rw [kx 400 (a := 400) rfl (by omega), va_up_self, hm _ (by omega) (by omega), hA]
    have e2 : va_up K 41 l 41 ((60 : Int32) + nI (d.fs r + i)).toNatClampNeg = (I 15 (10 * r + i)).toInt64 := by rw [kx 60 (a := 60) rfl (by omega), va_up_self, hl _ (by omega), hX]
    have e3 : va_up J 40 m 40 ((160 : Int32) + nI r).toNatClampNeg = nI (d.fs r) := by rw [kx 160 (a := 160) rfl (by omega), va_up_self, hm _ (by omega) (by omega), hJ.fm r hr]
    have e4 : va_up J 40 m 40 ((220 : Int32) + nI r).toNatClampNeg = nI (d.sz r) := by rw [kx 220 (a := 220) rfl (by omega), va_up_self, hm _ (by omega) (by omega), hJ.zm r hr]
    refine sg_X11_reversed_18_1 _ _ (k_in (nI_add 160 r) (by omega) (by omega)) (k_in (nI_add 220 r) (by omega) (by omega)) (by rw [e3, e4, nI_add]; exact nI_ge (by omega) (by omega)) (k_in (nI_add 400 _) (by omega) (by omega)) (k_in (nI_add 60 _) (by omega) (by omega)) (by rw [e1, e2]; exact m_lay (by rw [hm 2 (by omega) (by omega)]; exact hJ.mp) h3 (by omega) _ _) (sg_X11_reversed_67_0 _ _ ?_)
    rw [nI_1]
    exact h4
end RV
