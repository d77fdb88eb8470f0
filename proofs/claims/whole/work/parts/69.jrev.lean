section JR
variable {X : zSc} {im : Option Nat} {tl : List zS} {I J : zI} {L K : zL} {d : zD} {n : Nat → Int32}
/-- the class's memory with other journals and causes -/
def jz (I : zI) (r9 r10 r11 r12 r13 r14 r15 A B C : Nat → Int32) : zI := va_up (va_up (va_up (va_up (va_up (va_up (va_up (cz I A B C) 10 r10) 11 r11) 12 r12) 13 r13) 14 r14) 15 r15) 9 r9
theorem jz_cz (I : zI) (A B C : Nat → Int32) : cz I A B C = jz I (I 9) (I 10) (I 11) (I 12) (I 13) (I 14) (I 15) A B C := by
  unfold jz
  rw [show va_up (cz I A B C) 10 (I 10) = cz I A B C from va_upid (cz I A B C) 10, show va_up (cz I A B C) 11 (I 11) = cz I A B C from va_upid (cz I A B C) 11, show va_up (cz I A B C) 12 (I 12) = cz I A B C from va_upid (cz I A B C) 12, show va_up (cz I A B C) 13 (I 13) = cz I A B C from va_upid (cz I A B C) 13, show va_up (cz I A B C) 14 (I 14) = cz I A B C from va_upid (cz I A B C) 14, show va_up (cz I A B C) 15 (I 15) = cz I A B C from va_upid (cz I A B C) 15, show va_up (cz I A B C) 9 (I 9) = cz I A B C from va_upid (cz I A B C) 9]
theorem i_neg {x : Int32} (h : -1000000 ≤ x.toInt ∧ x.toInt ≤ 1000000) : (-1000000 ≤ (-x).toInt ∧ (-x).toInt ≤ 1000000) ∧ -x.toInt64 = (-x).toInt64 := by
  have e : (-x).toInt = -x.toInt := by
    rw [Int32.toInt_neg]
    exact Int.bmod_eq_of_le (by omega) (by omega)
  refine ⟨by omega, ?_⟩
  apply Int64.toInt_inj.mp
  rw [Int32.toInt_toInt64, e, Int64.toInt_neg, Int32.toInt_toInt64]
  exact Int.bmod_eq_of_le (by omega) (by omega)
theorem j_reversed {r : Nat} (hA : rA d I L I K) (hJ : rJ d I I K) (hD : RD d.day d.cl (I 1) (L 27) (I 40) (K 41)) (hRR : RR d.cnt (I 17) (I 18) (I 19) (I 20) (I 40)) (hB : I 1 5 = 0) (h60 : d.nJ < 60) (hr : r < d.nJ) (hO : I 28 0 = nI (d.sz r)) (hS : ∀ i, i < d.sz r → I 29 i = I 14 (10 * r + i) ∧ I 30 i = -(I 15 (10 * r + i))) : ∃ (v : Int32) (r9 r10 r11 r12 r13 r14 r15 A B C n' : Nat → Int32) (l' : Nat → Int64) (d' : zD), zEv X mt_X0_tryToPost 0 [.ref 1, .ref 28, .int (nI r)] [] (zSH im tl, I, L) (some (.int v), (zSH im tl, jz I r9 r10 r11 r12 r13 r14 r15 A B C, L)) ∧ (∀ J : zI, J 40 = I 40 → zEv X mt_X11_reversed 0 [.ref 39, .int (nI r), .null] [] (zSH im tl, J, K) (some (.int v), (zSH im tl, va_up J 40 n', va_up K 41 l'))) ∧ RB d' (I 1) (I 2) (I 3) (I 4) (I 5) r9 r10 r11 r12 r13 r14 r15 (I 17) (I 18) (I 19) (I 20) A B C (I 24) (I 25) (I 26) (L 6) (L 7) (L 8) (L 27) n' l' := by
  have hP := rj_p hJ
  have hfz := rj_fz hJ hr
  have hz := (hJ.z r hr).2
  have h30 := hA.n30
  obtain ⟨m, l, w1, w2, w3, w4, w5, w6⟩ := m_revloop (X := X) (im := im) (tl := tl) (I := I) (L := K) (d := d) (n := I 40) hJ h60 hr (d.sz r) 0 (upd (I 40) 3 0) (K 41) (by omega) pk_us (fun x x1 _ => pk_un x1) (fun q hq => by omega) (fun _ _ => rfl) (fun q hq => by omega)
  have hC0 : RC 0 (fun _ => 0) (fun _ => 0) (fun _ => 0) (upd m 6 0) := RC.mk (by omega) rfl pk_us (fun i hi => by omega) (fun i hi => by omega)
  -- the row with the first cause
  obtain ⟨n1, hn1⟩ : ∃ n1, n1 = upd (upd (upd (upd m 6 0) (1264 + 0) 7) (1270 + 0) (nI r)) 6 (nI (0 + 1)) := ⟨_, rfl⟩
  have g1 : ∀ x, x ≠ 6 → x ≠ 1264 → x ≠ 1270 → n1 x = m x := fun x x1 x2 x3 => by rw [hn1, pk_un x1, pk_un (by omega), pk_un (by omega), pk_un x1]
  have g2 : ∀ x, x ≠ 3 → x ≠ 6 → x ≠ 1264 → x ≠ 1270 → (x < 400 + d.nP ∨ 1010 ≤ x) → n1 x = I 40 x := fun x x1 x2 x3 x4 x5 => (g1 x x2 x3 x4).trans (w2 x x1 x5)
  have g6 : n1 6 = nI 1 := by rw [hn1]; exact pk_us
  have g7 : n1 1264 = 7 := by rw [hn1, pk_un (by omega), pk_un (by omega)]; exact pk_us
  have g8 : n1 1270 = nI r := by rw [hn1, pk_un (by omega)]; exact pk_us
  have hA1 : rA d I L (va_up I 40 n1) (va_up K 41 l) := RA.cg hA (fun x hx => g2 x (by omega) (by omega) (by omega) (by omega) (by omega)) (fun x hx => w4 x (by omega))
  have hJ1 : rJ d I (va_up I 40 n1) (va_up K 41 l) := RJ.cg (nP := d.nP) hJ (fun x hx => g2 x (by omega) (by omega) (by omega) (by omega) (by omega)) (fun x hx => w4 x (by omega))
  have hD1 : RD d.day d.cl (I 1) (L 27) n1 l := RD.cg hD (fun x hx => g2 x (by omega) (by omega) (by omega) (by omega) (by omega)) (fun x hx => w4 x (by omega))
  have hs : RS d.nA d.nP (d.sz r) (fun i => (I 29 i).toNatClampNeg) (I 28) (I 29) (I 30) n1 l := by
    refine ⟨hz, by omega, hO, (g1 3 (by omega) (by omega) (by omega)).trans w1, (g2 2 (by omega) (by omega) (by omega) (by omega) (by omega)).trans hJ.mp, fun i hi => ?_, fun i hi => ?_⟩
    · obtain ⟨⟨a, a1, a2⟩, a3⟩ := hJ.a r hr i hi
      have e := (hS i hi).1
      refine ⟨?_, ?_, ?_⟩
      · show (I 29 i).toNatClampNeg < d.nA
        rw [e, a2, kc (by omega)]; exact a1
      · show I 29 i = nI (I 29 i).toNatClampNeg
        rw [e, a2, kc (by omega)]
      · rw [g1 _ (by omega) (by omega) (by omega), w3 i hi, e]
    · obtain ⟨b1, b2⟩ := i_neg (hJ.x r hr i hi).1
      rw [(hS i hi).2, w5 i hi]
      exact ⟨b1, b2⟩
  -- the model up to the judgement
  have mstart : ∀ (J : zI) (res : Option Value × zM), J 40 = I 40 → zEv X mt_X11_reversed 88 [.ref 39, .int (nI r), .int (nI (d.fs r + d.sz r))] [] (zSH im tl, va_up J 40 n1, va_up K 41 l) res → zEv X mt_X11_reversed 0 [.ref 39, .int (nI r), .null] [] (zSH im tl, J, K) res := by
    intro J res hJ40 q
    have e3 : ∀ m', (∀ x, x ≠ 3 → (x < 400 + d.nP ∨ 1010 ≤ x) → m' x = I 40 x) → va_up J 40 m' 40 ((160 : Int32) + nI r).toNatClampNeg = nI (d.fs r) := fun m' hm => by rw [kx 160 (a := 160) rfl (by omega), va_up_self, hm _ (by omega) (by omega), hJ.fm r hr]
    have e4 : va_up J 40 m 40 ((220 : Int32) + nI r).toNatClampNeg = nI (d.sz r) := by rw [kx 220 (a := 220) rfl (by omega), va_up_self, w2 _ (by omega) (by omega), hJ.zm r hr]
    refine sg_X11_reversed_0_0 _ (k_in (nI_add 160 r) (by omega) (by omega)) ?_
    have e5 : upd (J 40) 3 0 ((160 : Int32) + nI r).toNatClampNeg = nI (d.fs r) := by rw [kx 160 (a := 160) rfl (by omega), pk_un (by omega), hJ40, hJ.fm r hr]
    rw [e5, hJ40]
    have h5 := w6 J K res (sg_X11_reversed_18_0 _ _ (k_in (nI_add 160 r) (by omega) (by omega)) (k_in (nI_add 220 r) (by omega) (by omega)) (by rw [e3 m w2, e4, nI_add]; exact Int32.le_refl _) (by
      rw [va_up_self, va_up2]
      exact m_addCause hC0 (by omega) 7 (nI r)) (by rw [← hn1]; exact q))
    rw [va_upid, Nat.add_zero] at h5
    exact h5
  rcases j_tryrd (X := X) (im := im) (tl := tl) hA1 hJ1 hD1 h60 hr g6 g7 g8 hs with ⟨k2, ⟨A, B, C, hA0, q1⟩, q2⟩ | ⟨nC', A', B', C', n', v1, v2, v3, q1, q2⟩
  · obtain ⟨n', p1, n1', n2, n3, n100, n160, n220, n280, n340, n34r, hf⟩ := m_posted2 (X := X) (im := im) (tl := tl) (n := upd n1 6 0) (r := r) ((pk_un (by omega)).trans ((g2 1 (by omega) (by omega) (by omega) (by omega) (by omega)).trans hJ.m)) h60 ((pk_un (by omega)).trans hs.2.2.2.2.1) ((pk_un (by omega)).trans hs.2.2.2.1) ((pk_un (by omega)).trans hD1.md) hr
    have hf1 : ∀ x, x ≠ 1 → x ≠ 2 → x ≠ 3 → x ≠ 6 → x ≠ 100 + d.nJ → x ≠ 160 + d.nJ → x ≠ 220 + d.nJ → x ≠ 280 + d.nJ → x ≠ 340 + d.nJ → x ≠ 340 + r → n' x = n1 x := fun x y1 y2 y3 y6 y4 y5 y7 y8 y9 y10 => (hf x y1 y2 y3 y4 y5 y7 y8 y9 y10).trans (pk_un y6)
    have hf2 : ∀ x, x ≠ 1 → x ≠ 2 → x ≠ 3 → x ≠ 6 → x ≠ 100 + d.nJ → x ≠ 160 + d.nJ → x ≠ 220 + d.nJ → x ≠ 280 + d.nJ → x ≠ 340 + d.nJ → x ≠ 340 + r → x ≠ 1264 → x ≠ 1270 → (x < 400 + d.nP ∨ 1010 ≤ x) → n' x = I 40 x := fun x y1 y2 y3 y6 y4 y5 y7 y8 y9 y10 y11 y12 y13 => (hf1 x y1 y2 y3 y6 y4 y5 y7 y8 y9 y10).trans (g2 x y3 y6 y11 y12 y13)
    refine ⟨nI d.nJ, upd (I 9) 0 (nI (d.nJ + 1)), upd (I 10) d.nJ (nI d.day), upd (I 11) d.nJ (nI (d.sz r)), upd (I 12) d.nJ (nI r), upd (upd (I 13) d.nJ (-5)) r (nI d.nJ), va_cpy (I 29) (I 14) 0 (10 * d.nJ) (d.sz r), va_cpy (I 30) (I 15) 0 (10 * d.nJ) (d.sz r), A, B, C, n', l, (d.nA, d.nJ + 1, d.nP + d.sz r, d.day, d.cl, 0, d.p, (fun j => if j = d.nJ then d.sz r else d.sz j), (fun j => if j = d.nJ + 1 then d.nP + d.sz r else d.fs j), (fun j => if j = d.nJ then d.day else d.dy j), d.cnt, none), q1, fun J hJ40 => mstart J _ hJ40 (sg_X11_reversed_88_0 _ _ (q2 J) (sg_X11_reversed_92_0 _ _ _ rfl ?_ (sg_X11_reversed_118_0 _ _ _))), RB.mk ?_ ?_ ?_ ?_ ?_ ?_⟩
    · have := p1 J (va_up K 41 l)
      rw [va_up_self, va_up2]
      exact this
    · exact RA.cg hA (fun x hx => hf2 x (by omega) (by omega) (by omega) (by omega) (by omega) (by omega) (by omega) (by omega) (by omega) (by omega) (by omega) (by omega) (by omega)) (fun x hx => w4 x (by omega))
    · refine rj_post (n := n1) (S := I 29) (T := I 30) hJ1 h60 k2 hz (fun i hi => ?_) (fun i hi => hs.2.2.2.2.2.2 i hi) n1' n2 n100 n160 n220 (Or.inr ⟨r, hr, rfl, n280⟩) (fun j hj => ?_) (fun x hx x1 x2 x3 x4 => hf1 x (by omega) (by omega) (by omega) (by omega) x1 x2 x3 x4 (by omega) (by omega))
      · obtain ⟨s1, s2, s3⟩ := hs.2.2.2.2.2.1 i hi
        exact ⟨⟨_, s1, s2⟩, s3⟩
      · by_cases e : j = r
        · subst e; exact Or.inr ⟨d.nJ, by omega, pk_us, n34r⟩
        · by_cases e2 : j = d.nJ
          · subst e2; exact Or.inl ⟨(pk_un e).trans pk_us, n340⟩
          · rw [pk_un e, pk_un e2, hf2 _ (by omega) (by omega) (by omega) (by omega) (by omega) (by omega) (by omega) (by omega) (by omega) (by omega) (by omega) (by omega) (by omega)]
            rcases hJ.w j (by omega) with q | ⟨x, x1, x2⟩
            · exact Or.inl q
            · exact Or.inr ⟨x, by omega, x2⟩
    · refine RO.mk (fun _ => ⟨hB, n3⟩) (fun q e => ?_) (fun q e i hi => ?_) (fun q e i hi => ?_)
      · exact absurd (show (none : Option Nat) = some q from e) (by simp)
      · exact absurd (show (none : Option Nat) = some q from e) (by simp)
      · exact absurd (show (none : Option Nat) = some q from e) (by simp)
    · refine RD.cg hD (fun x hx => hf2 x (by omega) (by omega) (by omega) (by omega) (by omega) (by omega) (by omega) (by omega) (by omega) (by omega) (by omega) (by omega) (by omega)) (fun x hx => w4 x (by omega))
    · exact RC.mk (by show 0 ≤ 3; omega) hA0 ((hf 6 (by omega) (by omega) (by omega) (by omega) (by omega) (by omega) (by omega) (by omega) (by omega)).trans pk_us) (fun i (hi : i < 0) => by omega) (fun i (hi : i < 0) => by omega)
    · exact RR.cg hRR (fun x hx => hf2 x (by omega) (by omega) (by omega) (by omega) (by omega) (by omega) (by omega) (by omega) (by omega) (by omega) (by omega) (by omega) (by omega))
  · have hf2 : ∀ x, x ≠ 3 → x ≠ 6 → x < 1264 → (x < 400 + d.nP ∨ 1010 ≤ x) → n' x = I 40 x := fun x y1 y2 y3 y4 => (v3 x y2 y3).trans (g2 x y1 y2 (by omega) (by omega) y4)
    have hf3 : ∀ x, x ≠ 3 → x ≠ 6 → x < 1264 → (x < 400 + d.nP ∨ 1010 ≤ x) → upd n' 3 (-1) x = I 40 x := fun x y1 y2 y3 y4 => (pk_un y1).trans (hf2 x y1 y2 y3 y4)
    refine ⟨-17, I 9, I 10, I 11, I 12, I 13, I 14, I 15, A', B', C', upd n' 3 (-1), l, (d.nA, d.nJ, d.nP, d.day, d.cl, nC', d.p, d.sz, d.fs, d.dy, d.cnt, none), by rw [← jz_cz]; exact q1, fun J hJ40 => mstart J _ hJ40 (sg_X11_reversed_88_0 _ _ (q2 J) (ev_r (sg_X11_reversed_92_1 _ _ _ (by decide)) ?_)), RB.mk ?_ ?_ ?_ ?_ ?_ ?_⟩
    · rw [va_up_self, va_up2]
    · exact RA.cg hA (fun x hx => hf3 x (by omega) (by omega) (by omega) (by omega)) (fun x hx => w4 x (by omega))
    · exact RJ.cg (nP := d.nP) hJ (fun x hx => hf3 x (by omega) (by omega) (by omega) (by omega)) (fun x hx => w4 x (by omega))
    · refine RO.mk (fun _ => ⟨hB, pk_us⟩) (fun q e => ?_) (fun q e i hi => ?_) (fun q e i hi => ?_)
      · exact absurd (show (none : Option Nat) = some q from e) (by simp)
      · exact absurd (show (none : Option Nat) = some q from e) (by simp)
      · exact absurd (show (none : Option Nat) = some q from e) (by simp)
    · exact RD.cg hD (fun x hx => hf3 x (by omega) (by omega) (by omega) (by omega)) (fun x hx => w4 x (by omega))
    · exact RC.cg v2 (fun x hx => pk_un (by omega))
    · exact RR.cg hRR (fun x hx => hf3 x (by omega) (by omega) (by omega) (by omega))
end JR
