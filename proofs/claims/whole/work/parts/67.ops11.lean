section OB
variable {X : zSc} {im : Option Nat} {tl : List zS} {I J : zI} {L K : zL} {d : zD} {n : Nat → Int32}
/-- the journals after one that reverses nothing -/
theorem rj_post0 {k : Nat} {n' S T : Nat → Int32} (hJ : RJ d.nA d.nJ d.nP d.day d.sz d.fs d.dy (I 9) (I 10) (I 11) (I 12) (I 13) (I 14) (I 15) n (K 41)) (h60 : d.nJ < 60) (k2 : 2 ≤ k) (k10 : k ≤ 10) (hS : ∀ i, i < k → (∃ a, a < d.nA ∧ S i = nI a) ∧ n (400 + (d.nP + i)) = S i) (hT : ∀ i, i < k → (-1000000 ≤ (T i).toInt ∧ (T i).toInt ≤ 1000000) ∧ K 41 (60 + (d.nP + i)) = (T i).toInt64) (n1 : n' 1 = nI (d.nJ + 1)) (n2 : n' 2 = nI (d.nP + k)) (n100 : n' (100 + d.nJ) = nI d.day) (n160 : n' (160 + d.nJ) = nI d.nP) (n220 : n' (220 + d.nJ) = nI k) (n280 : n' (280 + d.nJ) = -1) (n340 : n' (340 + d.nJ) = -1) (hf : ∀ x, x ≠ 1 → x ≠ 2 → x ≠ 3 → x ≠ 100 + d.nJ → x ≠ 160 + d.nJ → x ≠ 220 + d.nJ → x ≠ 280 + d.nJ → x ≠ 340 + d.nJ → n' x = n x) : RJ d.nA (d.nJ + 1) (d.nP + k) d.day (fun j => if j = d.nJ then k else d.sz j) (fun j => if j = d.nJ + 1 then d.nP + k else d.fs j) (fun j => if j = d.nJ then d.day else d.dy j) (upd (I 9) 0 (nI (d.nJ + 1))) (upd (I 10) d.nJ (nI d.day)) (upd (I 11) d.nJ (nI k)) (upd (I 12) d.nJ (-5)) (upd (I 13) d.nJ (-5)) (va_cpy S (I 14) 0 (10 * d.nJ) k) (va_cpy T (I 15) 0 (10 * d.nJ) k) n' (K 41) := by
  refine rj_post hJ h60 k2 k10 hS hT n1 n2 n100 n160 n220 (Or.inl ⟨rfl, n280⟩) (fun j hj => ?_) (fun x hx x1 x2 x3 x4 => hf x (by omega) (by omega) (by omega) x1 x2 x3 x4 (by omega))
  by_cases e : j = d.nJ
  · subst e; exact Or.inl ⟨pk_us, n340⟩
  · rw [pk_un e, hf _ (by omega) (by omega) (by omega) (by omega) (by omega) (by omega) (by omega) (by omega)]
    rcases hJ.w j (by omega) with q | ⟨x, x1, x2⟩
    · exact Or.inl q
    · exact Or.inr ⟨x, by omega, x2⟩
theorem op_post (hR : rAll d im tl I L) : zOpI X im tl I L mt_X10_post mt_X11_post [.ref 0, .null] [.ref 39] := by
  have hA := hR.1.ra
  have hO := hR.1.ro
  have hJ := hR.1.rj
  have hD := hR.1.rd
  have hP := rj_p hJ
  cases hop : d.op with
  | none =>
    obtain ⟨e1, e2⟩ := hO.no hop
    exact op_roI hR _ (sg_X10_post_0_0 e1) (sg_X11_post_0_1 (by rw [e2]; decide))
  | some k =>
    obtain ⟨k10, j60, e1, e2, e3⟩ := hO.yes k hop
    have o1 : ¬ I 1 5 = 0 := by rw [e1]; decide
    have o2 : (0 : Int32) ≤ I 40 3 := by rw [e3]; exact nI_pos' (by omega)
    have hA' : rA d I L (va_up I 40 (upd (I 40) 6 0)) L := RA.cg hA (fun x hx => pk_un (by omega)) (fun _ _ => rfl)
    have hJ' : rJ d I (va_up I 40 (upd (I 40) 6 0)) L := RJ.cg (nP := d.nP) hJ (fun x hx => pk_un (by omega)) (fun _ _ => rfl)
    have hD' : RD d.day d.cl (I 1) (L 27) (upd (I 40) 6 0) (L 41) := RD.cg hD (fun x hx => pk_un (by omega)) (fun _ _ => rfl)
    have hs : RS d.nA d.nP k (fun i => (I 25 i).toNatClampNeg) (I 24) (I 25) (I 26) (upd (I 40) 6 0) (L 41) := by
      refine ⟨k10, by omega, e2, (pk_un (by omega)).trans e3, (pk_un (by omega)).trans hJ.mp, fun i hi => ?_, fun i hi => hO.x k hop i hi⟩
      obtain ⟨⟨a, a1, a2⟩, a3⟩ := hO.a k hop i hi
      have h30 := hA.n30
      refine ⟨?_, ?_, (pk_un (by omega)).trans a3⟩
      · show (I 25 i).toNatClampNeg < d.nA
        rw [a2, kc (by omega)]; exact a1
      · show I 25 i = nI (I 25 i).toNatClampNeg
        rw [a2, kc (by omega)]
    rcases j_try0o (X := X) (im := im) (tl := tl) hA' hJ' hD' j60 pk_us hs with ⟨k2, ⟨A, hA0, q1⟩, q2⟩ | ⟨nC', A', B', C', n', w1, wB, w2, w3, q1, q2⟩
    · obtain ⟨n', p1, n1, n2, n3, n100, n160, n220, n280, n340, hf⟩ := m_posted (X := X) (im := im) (tl := tl) (n := upd (I 40) 6 0) (v := -1) ((pk_un (by omega)).trans hJ.m) j60 ((pk_un (by omega)).trans hJ.mp) ((pk_un (by omega)).trans e3) ((pk_un (by omega)).trans hD.md) (by decide)
      have hf2 : ∀ x, x ≠ 1 → x ≠ 2 → x ≠ 3 → x ≠ 6 → x ≠ 100 + d.nJ → x ≠ 160 + d.nJ → x ≠ 220 + d.nJ → x ≠ 280 + d.nJ → x ≠ 340 + d.nJ → n' x = I 40 x := fun x y1 y2 y3 y6 y4 y5 y7 y8 y9 => (hf x y1 y2 y3 y4 y5 y7 y8 y9).trans (pk_un y6)
      refine ⟨nI d.nJ, va_up (caddo (cz I A (I 22) (I 23)) d.nJ d.day k (-5) (upd (I 13) d.nJ (-5))) 1 (upd (I 1) 5 0), L, va_up (va_up (caddo (cz I A (I 22) (I 23)) d.nJ d.day k (-5) (upd (I 13) d.nJ (-5))) 1 (upd (I 1) 5 0)) 40 n', L, (d.nA, d.nJ + 1, d.nP + k, d.day, d.cl, 0, d.p, (fun j => if j = d.nJ then k else d.sz j), (fun j => if j = d.nJ + 1 then d.nP + k else d.fs j), (fun j => if j = d.nJ then d.day else d.dy j), d.cnt, none), sg_X10_post_0_1 o1 q1 (sg_X10_post_29_1 _ (nI_pos (by omega))), sg_X11_post_0_0 o2 (q2 (va_up (caddo (cz I A (I 22) (I 23)) d.nJ d.day k (-5) (upd (I 13) d.nJ (-5))) 1 (upd (I 1) 5 0))) (sg_X11_post_24_0 _ rfl (p1 _ _) (sg_X11_post_46_0 _)), RB.mk ?_ ?_ ?_ ?_ ?_ ?_, hR.2⟩
      · exact RA.cg hA (fun x hx => hf2 x (by omega) (by omega) (by omega) (by omega) (by omega) (by omega) (by omega) (by omega) (by omega)) (fun _ _ => rfl)
      · exact rj_post0 (K := L) hJ' j60 k2 k10 (fun i hi => ⟨(hO.a k hop i hi).1, (pk_un (by omega)).trans (hO.a k hop i hi).2⟩) (fun i hi => hO.x k hop i hi) n1 n2 n100 n160 n220 n280 n340 hf
      · refine RO.mk (fun _ => ⟨rfl, n3⟩) (fun q e => ?_) (fun q e i hi => ?_) (fun q e i hi => ?_)
        · exact absurd (show (none : Option Nat) = some q from e) (by simp)
        · exact absurd (show (none : Option Nat) = some q from e) (by simp)
        · exact absurd (show (none : Option Nat) = some q from e) (by simp)
      · exact RD.mk hD.d hD.c hD.bd ((hf2 4 (by omega) (by omega) (by omega) (by omega) (by omega) (by omega) (by omega) (by omega) (by omega)).trans hD.md) hD.bc ((hf2 5 (by omega) (by omega) (by omega) (by omega) (by omega) (by omega) (by omega) (by omega) (by omega)).trans hD.mc) hD.e
      · exact RC.mk (by show 0 ≤ 3; omega) hA0 ((hf 6 (by omega) (by omega) (by omega) (by omega) (by omega) (by omega) (by omega) (by omega)).trans pk_us) (fun i (hi : i < 0) => by omega) (fun i (hi : i < 0) => by omega)
      · exact RR.cg hR.1.rr (fun x hx => hf2 x (by omega) (by omega) (by omega) (by omega) (by omega) (by omega) (by omega) (by omega) (by omega))
    · have hneg : -10 - B' 0 < 0 := by
        rcases wB with h | h | h <;> rw [h] <;> decide
      have hw3 : ∀ x, x ≠ 6 → x < 1264 → n' x = I 40 x := fun x y1 y2 => (w3 x y1 y2).trans (pk_un y1)
      refine ⟨-10 - B' 0, cz I A' B' C', L, va_up (cz I A' B' C') 40 n', L, (d.nA, d.nJ, d.nP, d.day, d.cl, nC', d.p, d.sz, d.fs, d.dy, d.cnt, some k), sg_X10_post_0_1 o1 q1 (sg_X10_post_29_0 _ hneg), sg_X11_post_0_0 o2 (q2 (cz I A' B' C')) (ev_r (sg_X11_post_24_1 _ (by decide)) ?_), RB.mk ?_ ?_ ?_ ?_ ?_ ?_, hR.2⟩
      · rw [show va_up (cz I A' B' C') 40 n' 40 1264 = B' 0 from w2.w 0 w1]
      · exact RA.cg hA (fun x hx => hw3 x (by omega) (by omega)) (fun _ _ => rfl)
      · exact RJ.cg (nP := d.nP) hJ (fun x hx => hw3 x (by omega) (by omega)) (fun _ _ => rfl)
      · have := RO.cg (nP := d.nP) hO (n' := n') (l' := L 41) (fun x hx => hw3 x (by omega) (by omega)) (fun _ _ => rfl)
        rw [hop] at this
        exact this
      · exact RD.cg hD (fun x hx => hw3 x (by omega) (by omega)) (fun _ _ => rfl)
      · exact w2
      · exact RR.cg hR.1.rr (fun x hx => hw3 x (by omega) (by omega))
end OB
