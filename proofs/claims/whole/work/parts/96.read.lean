theorem ev_det {X : zSc} {m : zMt} {pc : Nat} {ls st : List Value} {M : zM} {r r' : Option Value × zM} (h : zEv X m pc ls st M r) (h' : zEv X m pc ls st M r') : r = r' := by
  obtain ⟨f, hf⟩ := h
  obtain ⟨g, hg⟩ := h'
  have a := zrun_mono X (Nat.le_add_right f g) hf
  have b := zrun_mono X (Nat.le_add_left g f) hg
  rw [a] at b
  injection b
/-- accounts and amounts that can be -/
def gd (nA : Nat) (acc : List (Nat × Int32)) : Prop := ∀ i, i < acc.length → (acc.getD i (0, 0)).1 < nA ∧ (-1000000 ≤ (acc.getD i (0, 0)).2.toInt ∧ (acc.getD i (0, 0)).2.toInt ≤ 1000000)
theorem gd_snoc {nA a m : Nat} {neg : Bool} {acc : List (Nat × Int32)} (h : gd nA acc) (ha : a < nA) (hm : m ≤ 1000000) : gd nA (acc ++ [(a, sgn neg m)]) := by
  intro i hi
  rw [List.length_append, List.length_singleton] at hi
  by_cases e : i = acc.length
  · subst e
    rw [gD_r]
    refine ⟨ha, ?_⟩
    have h1 : (nI m).toInt = (m : Int) := nI_toInt (by omega)
    cases neg with
    | false => show -1000000 ≤ (nI m).toInt ∧ (nI m).toInt ≤ 1000000; omega
    | true => exact (i_neg (x := nI m) (by omega)).1
  · rw [gD_l acc _ _ (by omega)]
    exact h i (by omega)
theorem pz_ok {H : Nat → Nat} {nA tn : Nat} (h : hh H tn) : ∀ (f p : Nat) (acc acc' : List (Nat × Int32)) (r : Option Nat), p ≤ tn → gd nA acc → pz H nA tn f p acc = .inr (acc', r) → gd nA acc' ∧ 2 ≤ acc'.length ∧ acc'.length ≤ acc.length + f ∧ ∀ x, r = some x → x < 100
  | 0, p, acc, acc', r, hp, hg, e => by rw [pz] at e; cases e
  | f + 1, p, acc, acc', r, hp, hg, e => by
    cases he : tp H nA p with
    | inl q => rw [pz_l he] at e; cases e
    | inr x =>
      obtain ⟨a, neg, m, p'⟩ := x
      obtain ⟨t1, t2, t3, t4, t5⟩ := tp_r h hp he
      have hg' := gd_snoc (neg := neg) hg t1 t3
      rw [pz_r he] at e
      unfold pr at e
      split at e
      · rename_i c1
        have := pz_ok h f (p' + 1) _ acc' r (hh_lt h (by omega)) hg' e
        rw [List.length_append, List.length_singleton] at this
        refine ⟨this.1, this.2.1, by omega, this.2.2.2⟩
      · split at e
        · split at e
          · rename_i c3
            cases e
            refine ⟨hg', c3, ?_, fun x hx => by cases hx⟩
            rw [List.length_append, List.length_singleton]; omega
          · cases e
        · split at e
          · rename_i c3
            split at e
            · cases e
            · rename_i r' he2
              cases e
              refine ⟨hg', c3.2, ?_, fun x hx => ?_⟩
              · rw [List.length_append, List.length_singleton]; omega
              · cases hx
                exact tr_r he2
          · cases e
section RD2
variable {X : zSc} {im : Option Nat} {tl : List zS} {I J : zI} {L K : zL} {d : zD} {acc : List (Nat × Int32)}
/-- the model's rows with so many parts laid -/
def lm (n : Nat → Int32) (nP : Nat) (acc : List (Nat × Int32)) : Nat → Nat → Int32
  | 0 => upd n 3 0
  | i + 1 => upd (upd (lm n nP acc i) (400 + (nP + i)) (nI (acc.getD i (0, 0)).1)) 3 (nI (i + 1))
def ll (l : Nat → Int64) (nP : Nat) (acc : List (Nat × Int32)) : Nat → Nat → Int64
  | 0 => l
  | i + 1 => vp_updL (ll l nP acc i) (60 + (nP + i)) (acc.getD i (0, 0)).2.toInt64
theorem lm_3 (n : Nat → Int32) (nP : Nat) (acc : List (Nat × Int32)) : ∀ i, lm n nP acc i 3 = nI i
  | 0 => pk_us
  | i + 1 => pk_us
theorem lm_o (n : Nat → Int32) (nP : Nat) (acc : List (Nat × Int32)) : ∀ i x, x ≠ 3 → (x < 400 + nP ∨ 400 + (nP + i) ≤ x) → lm n nP acc i x = n x
  | 0, x, h1, _ => pk_un h1
  | i + 1, x, h1, h2 => by
    rw [lm, pk_un h1, pk_un (by omega)]
    exact lm_o n nP acc i x h1 (by omega)
theorem lm_i (n : Nat → Int32) (nP : Nat) (acc : List (Nat × Int32)) : ∀ i q, q < i → lm n nP acc i (400 + (nP + q)) = nI (acc.getD q (0, 0)).1
  | 0, q, h => by omega
  | i + 1, q, h => by
    rw [lm, pk_un (by omega)]
    by_cases e : q = i
    · subst e; rw [pk_us]
    · rw [pk_un (by omega)]; exact lm_i n nP acc i q (by omega)
theorem ll_o (l : Nat → Int64) (nP : Nat) (acc : List (Nat × Int32)) : ∀ i x, (x < 60 + nP ∨ 60 + (nP + i) ≤ x) → ll l nP acc i x = l x
  | 0, x, _ => rfl
  | i + 1, x, h2 => by
    rw [ll, pk_uLn (by omega)]
    exact ll_o l nP acc i x (by omega)
theorem ll_i (l : Nat → Int64) (nP : Nat) (acc : List (Nat × Int32)) : ∀ i q, q < i → ll l nP acc i (60 + (nP + q)) = (acc.getD q (0, 0)).2.toInt64
  | 0, q, h => by omega
  | i + 1, q, h => by
    rw [ll]
    by_cases e : q = i
    · subst e; rw [pk_uLs]
    · rw [pk_uLn (by omega)]; exact ll_i l nP acc i q (by omega)
theorem m_layall {nP : Nat} {res : Option Value × zM} {n : Nat → Int32} {l : Nat → Int64} (h2 : n 2 = nI nP) (hP : nP + acc.length < 620) (hk : acc.length ≤ 10) (h12 : J 39 12 = nI acc.length) (h45 : ∀ i, i < acc.length → J 45 i = nI (acc.getD i (0, 0)).1) (h46 : ∀ i, i < acc.length → K 46 i = (acc.getD i (0, 0)).2.toInt64) (k : zEv X mt_X11_read 122 [.ref 39, .int (nI acc.length)] [] (zSH im tl, va_up J 40 (lm n nP acc acc.length), va_up K 41 (ll l nP acc acc.length)) res) : ∀ (f i : Nat), i + f = acc.length → zEv X mt_X11_read 122 [.ref 39, .int (nI i)] [] (zSH im tl, va_up J 40 (lm n nP acc i), va_up K 41 (ll l nP acc i)) res := by
  intro f
  induction f with
  | zero =>
    intro i hi
    have : i = acc.length := by omega
    subst this
    exact k
  | succ f ih =>
    intro i hi
    have h := ih (i + 1) (by omega)
    have hn : ¬ va_up J 40 (lm n nP acc i) 39 12 ≤ nI i := by
      show ¬ J 39 12 ≤ nI i
      rw [h12]; exact nI_ge (by omega) (by omega)
    have hi50 := k_in (x := nI i) (n := 50) rfl (by omega) (by omega)
    have e45 : va_up J 40 (lm n nP acc i) 45 (nI i).toNatClampNeg = nI (acc.getD i (0, 0)).1 := by
      show J 45 (nI i).toNatClampNeg = _
      rw [kc (by omega)]; exact h45 i (by omega)
    have e46 : va_up K 41 (ll l nP acc i) 46 (nI i).toNatClampNeg = (acc.getD i (0, 0)).2.toInt64 := by
      show K 46 (nI i).toNatClampNeg = _
      rw [kc (by omega)]; exact h46 i (by omega)
    have hl := m_lay (X := X) (im := im) (tl := tl) (J := J) (K := K) (n := lm n nP acc i) (nP := nP) (k := i) (l := ll l nP acc i) ((lm_o n nP acc i 2 (by omega) (by omega)).trans h2) (lm_3 n nP acc i) (by omega) (nI (acc.getD i (0, 0)).1) (acc.getD i (0, 0)).2.toInt64
    refine sg_X11_read_122_1 _ hn hi50 hi50 (by rw [e45, e46]; exact hl) (sg_X11_read_146_0 _ ?_)
    rw [nI_1]
    exact h
theorem j_none (hA : rA d I L I K) (hJ : rJ d I I K) (hD : RD d.day d.cl (I 1) (L 27) (I 40) (K 41)) (hRR : RR d.cnt (I 17) (I 18) (I 19) (I 20) (I 40)) (hB : I 1 5 = 0) (h60 : d.nJ < 60) (hd : dP acc (I 28) (I 29) (I 30)) (hk : acc.length ≤ 10) (hg : gd d.nA acc) (hQ : ∀ i, i < acc.length → K 46 i = (acc.getD i (0, 0)).2.toInt64) : ∃ (v : Int32) (r9 r10 r11 r12 r13 r14 r15 A B C n' : Nat → Int32) (l' : Nat → Int64) (d' : zD), zEv X mt_X0_tryToPost 0 [.ref 1, .ref 28, .int (-5)] [] (zSH im tl, I, L) (some (.int v), (zSH im tl, jz I r9 r10 r11 r12 r13 r14 r15 A B C, L)) ∧ (∀ J : zI, J 40 = I 40 → J 39 12 = nI acc.length → (∀ i, i < acc.length → J 45 i = nI (acc.getD i (0, 0)).1) → zEv X mt_X11_read 122 [.ref 39, .int 0] [] (zSH im tl, va_up J 40 (upd (J 40) 3 0), K) (some (.int v), (zSH im tl, va_up J 40 n', va_up K 41 l'))) ∧ RB d' (I 1) (I 2) (I 3) (I 4) (I 5) r9 r10 r11 r12 r13 r14 r15 (I 17) (I 18) (I 19) (I 20) A B C (I 24) (I 25) (I 26) (L 6) (L 7) (L 8) (L 27) n' l' := by
  have hP := rj_p hJ
  have h30 := hA.n30
  obtain ⟨d0, d1⟩ := hd
  rw [show min acc.length 10 = acc.length by omega] at d0
  -- the model's row at the judgement
  obtain ⟨n1, hn1⟩ : ∃ n1, n1 = upd (lm (I 40) d.nP acc acc.length) 6 0 := ⟨_, rfl⟩
  have g3 : n1 3 = nI acc.length := by rw [hn1, pk_un (by omega)]; exact lm_3 _ _ _ _
  have g6 : n1 6 = 0 := by rw [hn1]; exact pk_us
  have g2 : ∀ x, x ≠ 3 → x ≠ 6 → (x < 400 + d.nP ∨ 1010 ≤ x) → n1 x = I 40 x := fun x x1 x2 x3 => by rw [hn1, pk_un x2]; exact lm_o _ _ _ _ x x1 (by omega)
  have gi : ∀ i, i < acc.length → n1 (400 + (d.nP + i)) = nI (acc.getD i (0, 0)).1 := fun i hi => by rw [hn1, pk_un (by omega)]; exact lm_i _ _ _ _ i hi
  obtain ⟨l1, hl1⟩ : ∃ l1, l1 = ll (K 41) d.nP acc acc.length := ⟨_, rfl⟩
  have l2 : ∀ x, x < 60 + d.nP ∨ 670 ≤ x → l1 x = K 41 x := fun x x1 => by rw [hl1]; exact ll_o _ _ _ _ x (by omega)
  have li : ∀ i, i < acc.length → l1 (60 + (d.nP + i)) = (acc.getD i (0, 0)).2.toInt64 := fun i hi => by rw [hl1]; exact ll_i _ _ _ _ i hi
  have hA1 : rA d I L (va_up I 40 n1) (va_up K 41 l1) := RA.cg hA (fun x hx => g2 x (by omega) (by omega) (by omega)) (fun x hx => l2 x (by omega))
  have hJ1 : rJ d I (va_up I 40 n1) (va_up K 41 l1) := RJ.cg (nP := d.nP) hJ (fun x hx => g2 x (by omega) (by omega) (by omega)) (fun x hx => l2 x (by omega))
  have hD1 : RD d.day d.cl (I 1) (L 27) n1 l1 := RD.cg hD (fun x hx => g2 x (by omega) (by omega) (by omega)) (fun x hx => l2 x (by omega))
  have hs : RS d.nA d.nP acc.length (fun i => (acc.getD i (0, 0)).1) (I 28) (I 29) (I 30) n1 l1 := by
    refine ⟨hk, by omega, d0, g3, (g2 2 (by omega) (by omega) (by omega)).trans hJ.mp, fun i hi => ?_, fun i hi => ?_⟩
    · obtain ⟨e1, e2⟩ := d1 i hi (by omega)
      exact ⟨(hg i hi).1, e1, by rw [gi i hi, e1]⟩
    · obtain ⟨e1, e2⟩ := d1 i hi (by omega)
      rw [e2, li i hi]
      exact ⟨(hg i hi).2, rfl⟩
  -- the model up to the judgement
  have mstart : ∀ (J : zI) (s0 : Int32) (n2 : Nat → Int32) (v : Int32) (M2 : zM), J 40 = I 40 → J 39 12 = nI acc.length → (∀ i, i < acc.length → J 45 i = nI (acc.getD i (0, 0)).1) → zEv X mt_X11_isHindered 0 [.ref 39] [] (zSH im tl, va_up J 40 n1, va_up K 41 l1) (some (.int s0), (zSH im tl, va_up J 40 n2, va_up K 41 l1)) → (∀ n3, zEv X mt_X11_post 24 [.ref 39] [.int s0] (zSH im tl, va_up J 40 n2, va_up K 41 l1) (some (.int v), (zSH im tl, va_up J 40 n3, va_up K 41 l1)) → M2 = (zSH im tl, va_up J 40 (upd n3 3 (-1)), va_up K 41 l1) → zEv X mt_X11_read 122 [.ref 39, .int 0] [] (zSH im tl, va_up J 40 (upd (J 40) 3 0), K) (some (.int v), M2)) := by
    intro J s0 n2 v M2 j40 j12 j45 q1 n3 q2 hM2
    have hfin : zEv X mt_X11_read 122 [.ref 39, .int (nI acc.length)] [] (zSH im tl, va_up J 40 (lm (I 40) d.nP acc acc.length), va_up K 41 (ll (K 41) d.nP acc acc.length)) (some (.int v), M2) := by
      rw [← hl1]
      refine sg_X11_read_122_0 _ (show J 39 12 ≤ nI acc.length by rw [j12]; exact Int32.le_refl _) (sg_X11_post_0_0 (show (0 : Int32) ≤ lm (I 40) d.nP acc acc.length 3 by rw [lm_3]; exact nI_pos' (by omega)) (by rw [va_up_self, va_up2, ← hn1]; exact q1) q2) (ev_r (sg_X11_read_156_0 _ _) ?_)
      rw [va_up_self, va_up2, hM2]
    have h0 := m_layall (X := X) (im := im) (tl := tl) (J := J) (K := K) (n := I 40) (l := K 41) (nP := d.nP) hJ.mp (by omega) hk j12 j45 hQ hfin acc.length 0 (by omega)
    rw [j40]
    rw [show ll (K 41) d.nP acc 0 = K 41 from rfl, va_upid] at h0
    exact h0
  rcases j_try0d (X := X) (im := im) (tl := tl) hA1 hJ1 hD1 h60 g6 hs with ⟨k2, ⟨A, hA0, q1⟩, q2⟩ | ⟨nC', A', B', C', n', w1, wB, w2, w3, q1, q2⟩
  · obtain ⟨n', p1, m1, m2, m3, m100, m160, m220, m280, m340, hf⟩ := m_posted (X := X) (im := im) (tl := tl) (n := n1) (v := -1) ((g2 1 (by omega) (by omega) (by omega)).trans hJ.m) h60 ((g2 2 (by omega) (by omega) (by omega)).trans hJ.mp) g3 ((g2 4 (by omega) (by omega) (by omega)).trans hD.md) (by decide)
    have hf1 : ∀ x, x ≠ 1 → x ≠ 2 → x ≠ 3 → x ≠ 100 + d.nJ → x ≠ 160 + d.nJ → x ≠ 220 + d.nJ → x ≠ 280 + d.nJ → x ≠ 340 + d.nJ → upd n' 3 (-1) x = n1 x := fun x y1 y2 y3 y4 y5 y7 y8 y9 => (pk_un y3).trans (hf x y1 y2 y3 y4 y5 y7 y8 y9)
    have hf2 : ∀ x, x ≠ 1 → x ≠ 2 → x ≠ 3 → x ≠ 6 → x ≠ 100 + d.nJ → x ≠ 160 + d.nJ → x ≠ 220 + d.nJ → x ≠ 280 + d.nJ → x ≠ 340 + d.nJ → (x < 400 + d.nP ∨ 1010 ≤ x) → upd n' 3 (-1) x = I 40 x := fun x y1 y2 y3 y6 y4 y5 y7 y8 y9 y10 => (hf1 x y1 y2 y3 y4 y5 y7 y8 y9).trans (g2 x y3 y6 y10)
    refine ⟨nI d.nJ, upd (I 9) 0 (nI (d.nJ + 1)), upd (I 10) d.nJ (nI d.day), upd (I 11) d.nJ (nI acc.length), upd (I 12) d.nJ (-5), upd (I 13) d.nJ (-5), va_cpy (I 29) (I 14) 0 (10 * d.nJ) acc.length, va_cpy (I 30) (I 15) 0 (10 * d.nJ) acc.length, A, I 22, I 23, upd n' 3 (-1), l1, (d.nA, d.nJ + 1, d.nP + acc.length, d.day, d.cl, 0, d.p, (fun j => if j = d.nJ then acc.length else d.sz j), (fun j => if j = d.nJ + 1 then d.nP + acc.length else d.fs j), (fun j => if j = d.nJ then d.day else d.dy j), d.cnt, none), q1, fun J j40 j12 j45 => mstart J 0 n1 _ _ j40 j12 j45 (q2 J) n' (sg_X11_post_24_0 _ rfl (p1 _ _) (sg_X11_post_46_0 _)) rfl, RB.mk ?_ ?_ ?_ ?_ ?_ ?_⟩
    · exact RA.cg hA (fun x hx => hf2 x (by omega) (by omega) (by omega) (by omega) (by omega) (by omega) (by omega) (by omega) (by omega) (by omega)) (fun x hx => l2 x (by omega))
    · refine rj_post0 (K := va_up K 41 l1) (n := n1) (S := I 29) (T := I 30) hJ1 h60 k2 hk (fun i hi => ?_) (fun i hi => hs.2.2.2.2.2.2 i hi) ((pk_un (by omega)).trans m1) ((pk_un (by omega)).trans m2) ((pk_un (by omega)).trans m100) ((pk_un (by omega)).trans m160) ((pk_un (by omega)).trans m220) ((pk_un (by omega)).trans m280) ((pk_un (by omega)).trans m340) hf1
      obtain ⟨s1, s2, s3⟩ := hs.2.2.2.2.2.1 i hi
      exact ⟨⟨_, s1, s2⟩, s3⟩
    · refine RO.mk (fun _ => ⟨hB, pk_us⟩) (fun q e => ?_) (fun q e i hi => ?_) (fun q e i hi => ?_)
      · exact absurd (show (none : Option Nat) = some q from e) (by simp)
      · exact absurd (show (none : Option Nat) = some q from e) (by simp)
      · exact absurd (show (none : Option Nat) = some q from e) (by simp)
    · exact RD.cg hD (fun x hx => hf2 x (by omega) (by omega) (by omega) (by omega) (by omega) (by omega) (by omega) (by omega) (by omega) (by omega)) (fun x hx => l2 x (by omega))
    · exact RC.mk (by show 0 ≤ 3; omega) hA0 ((hf1 6 (by omega) (by omega) (by omega) (by omega) (by omega) (by omega) (by omega) (by omega)).trans g6) (fun i (hi : i < 0) => by omega) (fun i (hi : i < 0) => by omega)
    · exact RR.cg hRR (fun x hx => hf2 x (by omega) (by omega) (by omega) (by omega) (by omega) (by omega) (by omega) (by omega) (by omega) (by omega))
  · have hf2 : ∀ x, x ≠ 3 → x ≠ 6 → x < 1264 → (x < 400 + d.nP ∨ 1010 ≤ x) → upd n' 3 (-1) x = I 40 x := fun x y1 y2 y3 y4 => (pk_un y1).trans ((w3 x y2 y3).trans (g2 x y1 y2 y4))
    refine ⟨-10 - B' 0, I 9, I 10, I 11, I 12, I 13, I 14, I 15, A', B', C', upd n' 3 (-1), l1, (d.nA, d.nJ, d.nP, d.day, d.cl, nC', d.p, d.sz, d.fs, d.dy, d.cnt, none), by rw [← jz_cz]; exact q1, fun J j40 j12 j45 => mstart J 1 n' _ _ j40 j12 j45 (q2 J) n' (ev_r (sg_X11_post_24_1 _ (by decide)) ?_) rfl, RB.mk ?_ ?_ ?_ ?_ ?_ ?_⟩
    · rw [show va_up J 40 n' 40 1264 = B' 0 from w2.w 0 w1]
    · exact RA.cg hA (fun x hx => hf2 x (by omega) (by omega) (by omega) (by omega)) (fun x hx => l2 x (by omega))
    · exact RJ.cg (nP := d.nP) hJ (fun x hx => hf2 x (by omega) (by omega) (by omega) (by omega)) (fun x hx => l2 x (by omega))
    · refine RO.mk (fun _ => ⟨hB, pk_us⟩) (fun q e => ?_) (fun q e i hi => ?_) (fun q e i hi => ?_)
      · exact absurd (show (none : Option Nat) = some q from e) (by simp)
      · exact absurd (show (none : Option Nat) = some q from e) (by simp)
      · exact absurd (show (none : Option Nat) = some q from e) (by simp)
    · exact RD.cg hD (fun x hx => hf2 x (by omega) (by omega) (by omega) (by omega)) (fun x hx => l2 x (by omega))
    · have n3 := w2.n3
      exact RC.cg w2 (fun x hx => pk_un (by omega))
    · exact RR.cg hRR (fun x hx => hf2 x (by omega) (by omega) (by omega) (by omega))
end RD2
