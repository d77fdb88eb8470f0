theorem cp0 {α : Type} {f g : Nat → α} {n j : Nat} (h : j < n) : va_cpy f g 0 0 n j = f j := by
  rw [pk_cpy_in (Nat.zero_le _) (by omega), Nat.zero_add, Nat.sub_zero]
theorem RA.cc {nA : Nat} {p : Nat → Nat} {C P U S C' P' U' S' : Nat → Int32} {F G B F' G' B' : Nat → Int64} {n : Nat → Int32} {l : Nat → Int64} (h : RA nA p C P U S F G B n l) (hC : C' 0 = C 0) (hP : ∀ k, k < 30 → P' k = P k) (hU : ∀ k, k < 30 → U' k = U k) (hS : ∀ k, k < 30 → S' k = S k) (hF : ∀ k, k < 30 → F' k = F k) (hG : ∀ k, k < 30 → G' k = G k) (hB : ∀ k, k < 300 → B' k = B k) : RA nA p C' P' U' S' F' G' B' n l := by
  have h30 := h.n30
  refine RA.mk h.n1 h.n30 (by rw [hC]; exact h.c) h.m ?_ h.pm (by rw [hP 0 (by omega)]; exact h.p0) h.pm0 ?_ ?_ (by rw [hS 0 (by omega)]; exact h.so0) ?_ ?_ ?_ ?_
  · intro k h1 h2; rw [hP k (by omega)]; exact h.pp k h1 h2
  · intro k h1; rw [hU k (by omega)]; exact h.cu k h1
  · intro k h1 h2; rw [hS k (by omega)]; exact h.so k h1 h2
  · intro k h1; rw [hF k (by omega)]; exact h.fl k h1
  · intro k h1; rw [hG k (by omega)]; exact h.ce k h1
  · intro k h1 h2; rw [hF k h2, hG k h2]; exact h.fr k h1 h2
  · intro k h1; rw [hB k h1]; exact h.bu k h1
theorem RJ.cc {nA nJ nP day : Nat} {sz fs dy : Nat → Nat} {C D Z V W A M C' D' Z' V' W' A' M' : Nat → Int32} {n : Nat → Int32} {l : Nat → Int64} (h : RJ nA nJ nP day sz fs dy C D Z V W A M n l) (hC : C' 0 = C 0) (hD : ∀ k, k < 60 → D' k = D k) (hZ : ∀ k, k < 60 → Z' k = Z k) (hV : ∀ k, k < 60 → V' k = V k) (hW : ∀ k, k < 60 → W' k = W k) (hA : ∀ k, k < 600 → A' k = A k) (hM : ∀ k, k < 600 → M' k = M k) : RJ nA nJ nP day sz fs dy C' D' Z' V' W' A' M' n l := by
  have h60 := h.j60
  refine RJ.mk h60 (by rw [hC]; exact h.c) h.m h.mp h.f0 h.fS h.fE ?_ h.z2 h.zm h.fm ?_ ?_ ?_ ?_ ?_ ?_
  · intro j hj; rw [hZ j (by omega)]; exact h.z j hj
  · intro j hj; rw [hD j (by omega)]; exact h.d j hj
  · intro j hj; rw [hD j (by omega)]; exact h.dm j hj
  · intro j hj; rw [hV j (by omega)]; exact h.v j hj
  · intro j hj; rw [hW j (by omega)]; exact h.w j hj
  · intro j hj i hi
    have := (h.z j hj).2
    rw [hA _ (by omega)]; exact h.a j hj i hi
  · intro j hj i hi
    have := (h.z j hj).2
    rw [hM _ (by omega)]; exact h.x j hj i hi
theorem RO.cc {nA nJ nP : Nat} {op : Option Nat} {B O A M B' O' A' M' : Nat → Int32} {n : Nat → Int32} {l : Nat → Int64} (h : RO nA nJ nP op B O A M n l) (hB : B' 5 = B 5) (hO : O' 0 = O 0) (hA : ∀ k, k < 10 → A' k = A k) (hM : ∀ k, k < 10 → M' k = M k) : RO nA nJ nP op B' O' A' M' n l := by
  refine RO.mk ?_ ?_ ?_ ?_
  · intro e; rw [hB]; exact h.no e
  · intro k e; rw [hB, hO]; exact h.yes k e
  · intro k e i hi
    have := (h.yes k e).1
    rw [hA _ (by omega)]; exact h.a k e i hi
  · intro k e i hi
    have := (h.yes k e).1
    rw [hM _ (by omega)]; exact h.x k e i hi
theorem RD.cc {day cl : Nat} {B B' : Nat → Int32} {E E' : Nat → Int64} {n : Nat → Int32} {l : Nat → Int64} (h : RD day cl B E n l) (h6 : B' 6 = B 6) (h7 : B' 7 = B 7) (hE : ∀ k, k < 10 → E' k = E k) : RD day cl B' E' n l := by
  have h1 := h.d
  have h2 := h.c
  refine RD.mk h.d h.c (by rw [h6]; exact h.bd) h.md (by rw [h7]; exact h.bc) h.mc ?_
  intro k hk; rw [hE k (by omega)]; exact h.e k hk
theorem RC.cc {nC : Nat} {C W H C' W' H' : Nat → Int32} {n : Nat → Int32} (h : RC nC C W H n) (hC : C' 0 = C 0) (hW : ∀ k, k < 3 → W' k = W k) (hH : ∀ k, k < 3 → H' k = H k) : RC nC C' W' H' n := by
  have h1 := h.n3
  refine RC.mk h.n3 (by rw [hC]; exact h.c) h.m ?_ ?_
  · intro k hk; rw [hW k (by omega)]; exact h.w k hk
  · intro k hk; rw [hH k (by omega)]; exact h.h k hk
theorem RR.cc {cnt : Nat → Nat} {K D A B K' D' A' B' : Nat → Int32} {n : Nat → Int32} (h : RR cnt K D A B n) (hK : ∀ k, k < 4 → K' k = K k) (hD : ∀ k, k < 80 → D' k = D k) (hA : ∀ k, k < 80 → A' k = A k) (hB : ∀ k, k < 80 → B' k = B k) : RR cnt K' D' A' B' n := by
  refine RR.mk ?_ h.m ?_ ?_ ?_ h.z
  · intro c hc; rw [hK c hc]; exact h.t c hc
  · intro c hc k hk
    have := (h.t c hc).1
    rw [hD _ (by omega)]; exact h.d c hc k hk
  · intro c hc k hk
    have := (h.t c hc).1
    rw [hA _ (by omega)]; exact h.a c hc k hk
  · intro c hc k hk
    have := (h.t c hc).1
    rw [hB _ (by omega)]; exact h.b c hc k hk
theorem RJ.p {nA nJ nP day : Nat} {sz fs dy : Nat → Nat} {C D Z V W A M : Nat → Int32} {n : Nat → Int32} {l : Nat → Int64} (h : RJ nA nJ nP day sz fs dy C D Z V W A M n l) : nP ≤ 10 * nJ := by
  have q : ∀ j, j ≤ nJ → fs j ≤ 10 * j := by
    intro j
    induction j with
    | zero => intro _; rw [h.f0]; omega
    | succ j ih =>
      intro hj
      have h1 := ih (by omega)
      have h2 := (h.z j (by omega)).2
      rw [h.fS j (by omega)]
      omega
  have := q nJ (Nat.le_refl _)
  rw [h.fE] at this
  exact this
theorem RB.cg {d : zD} {B C P U S J Jd Jz Jv Jw Ja Jm Rc Rd Ra Rb Cc Cw Ch Oz Oa Om : Nat → Int32} {F G T E : Nat → Int64} {n n' : Nat → Int32} {l l' : Nat → Int64} (h : RB d B C P U S J Jd Jz Jv Jw Ja Jm Rc Rd Ra Rb Cc Cw Ch Oz Oa Om F G T E n l) (hn : ∀ k, k < 1280 → n' k = n k) (hl : ∀ k, k < 1000 → l' k = l k) : RB d B C P U S J Jd Jz Jv Jw Ja Jm Rc Rd Ra Rb Cc Cw Ch Oz Oa Om F G T E n' l' := by
  have hP := h.rj.p
  have h60 := h.rj.j60
  exact RB.mk (RA.cg h.ra (fun k hk => hn k (by omega)) (fun k hk => hl k (by omega))) (RJ.cg h.rj (fun k hk => hn k (by omega)) (fun k hk => hl k (by omega))) (RO.cg h.ro (fun k hk => hn k (by omega)) (fun k hk => hl k (by omega))) (RD.cg h.rd (fun k hk => hn k (by omega)) (fun k hk => hl k (by omega))) (RC.cg h.rc (fun k hk => hn k (by omega))) (RR.cg h.rr (fun k hk => hn k (by omega)))
section IM
variable {X : zSc} {im : Option Nat} {tl : List zS} {I J : zI} {L K : zL} {d : zD}
/-- the model's copying -/
def lcp {α : Type} (S R : Nat → α) (m : Nat) : Nat → α := fun k => if k < m then S k else R k
theorem lcp_0 {α : Type} (S R : Nat → α) : lcp S R 0 = R := by
  funext k
  show (if k < 0 then S k else R k) = R k
  rw [if_neg (by omega)]
theorem lcp_u (S R : Nat → Int32) (m : Nat) : upd (lcp S R m) m (S m) = lcp S R (m + 1) := by
  funext k
  show (if k = m then S m else if k < m then S k else R k) = (if k < m + 1 then S k else R k)
  by_cases e : k = m
  · subst e; rw [if_pos rfl, if_pos (by omega)]
  · rw [if_neg e]
    by_cases h : k < m
    · rw [if_pos h, if_pos (by omega)]
    · rw [if_neg h, if_neg (by omega)]
theorem lcp_l (S R : Nat → Int64) (m : Nat) : vp_updL (lcp S R m) m (S m) = lcp S R (m + 1) := by
  funext k
  show (if k = m then S m else if k < m then S k else R k) = (if k < m + 1 then S k else R k)
  by_cases e : k = m
  · subst e; rw [if_pos rfl, if_pos (by omega)]
  · rw [if_neg e]
    by_cases h : k < m
    · rw [if_pos h, if_pos (by omega)]
    · rw [if_neg h, if_neg (by omega)]
theorem m_copy0 : zEv X mt_X11_copy 0 [.ref 39, .int 0, .null] [] (zSH im tl, J, K) (none, (zSH im tl, va_up J 42 (lcp (J 40) (J 42) 1280), va_up K 43 (lcp (K 41) (K 43) 1000))) := by
  refine sg_X11_copy_0_0 _ ?_
  have l2 : ∀ (f k : Nat) (J : zI), k + f = 1000 → zEv X mt_X11_copy 48 [.ref 39, .int 0, .int (nI k)] [] (zSH im tl, J, va_up K 43 (lcp (K 41) (K 43) k)) (none, (zSH im tl, J, va_up K 43 (lcp (K 41) (K 43) 1000))) := by
    intro f
    induction f with
    | zero =>
      intro k J hk
      have : k = 1000 := by omega
      subst this
      exact sg_X11_copy_48_0 _ _ (by decide)
    | succ f ih =>
      intro k J hk
      have hi := k_in (x := nI k) (n := 1000) rfl (by omega) (by omega)
      refine sg_X11_copy_48_1 _ _ (k_nle (a := 1000) rfl rfl (by omega) (by omega)) rfl hi hi ?_
      rw [kc (by omega), nI_1, va_up_self, va_up2]
      have h2 := ih (k + 1) J (by omega)
      rw [← lcp_l] at h2
      exact h2
  have l1 : ∀ (f k : Nat), k + f = 1280 → zEv X mt_X11_copy 2 [.ref 39, .int 0, .int (nI k)] [] (zSH im tl, va_up J 42 (lcp (J 40) (J 42) k), K) (none, (zSH im tl, va_up J 42 (lcp (J 40) (J 42) 1280), va_up K 43 (lcp (K 41) (K 43) 1000))) := by
    intro f
    induction f with
    | zero =>
      intro k hk
      have : k = 1280 := by omega
      subst this
      have h3 := l2 1000 0 (va_up J 42 (lcp (J 40) (J 42) 1280)) rfl
      rw [lcp_0, va_up_id (f := K) (k := 43) rfl] at h3
      exact sg_X11_copy_2_0 _ _ (by decide) h3
    | succ f ih =>
      intro k hk
      have hi := k_in (x := nI k) (n := 1280) rfl (by omega) (by omega)
      refine sg_X11_copy_2_1 _ _ (k_nle (a := 1280) rfl rfl (by omega) (by omega)) rfl hi hi ?_
      rw [kc (by omega), nI_1, va_up_self, va_up2]
      have h2 := ih (k + 1) (by omega)
      rw [← lcp_u] at h2
      exact h2
  have h1 := l1 1280 0 rfl
  rw [lcp_0, va_up_id (f := J) (k := 42) rfl] at h1
  exact h1
theorem m_copy1 : zEv X mt_X11_copy 0 [.ref 39, .int 1, .null] [] (zSH im tl, J, K) (none, (zSH im tl, va_up J 40 (lcp (J 42) (J 40) 1280), va_up K 41 (lcp (K 43) (K 41) 1000))) := by
  refine sg_X11_copy_0_0 _ ?_
  have l2 : ∀ (f k : Nat) (J : zI), k + f = 1000 → zEv X mt_X11_copy 48 [.ref 39, .int 1, .int (nI k)] [] (zSH im tl, J, va_up K 41 (lcp (K 43) (K 41) k)) (none, (zSH im tl, J, va_up K 41 (lcp (K 43) (K 41) 1000))) := by
    intro f
    induction f with
    | zero =>
      intro k J hk
      have : k = 1000 := by omega
      subst this
      exact sg_X11_copy_48_0 _ _ (by decide)
    | succ f ih =>
      intro k J hk
      have hi := k_in (x := nI k) (n := 1000) rfl (by omega) (by omega)
      refine sg_X11_copy_48_2 _ _ (k_nle (a := 1000) rfl rfl (by omega) (by omega)) (by decide) hi hi ?_
      rw [kc (by omega), nI_1, va_up_self, va_up2]
      have h2 := ih (k + 1) J (by omega)
      rw [← lcp_l] at h2
      exact h2
  have l1 : ∀ (f k : Nat), k + f = 1280 → zEv X mt_X11_copy 2 [.ref 39, .int 1, .int (nI k)] [] (zSH im tl, va_up J 40 (lcp (J 42) (J 40) k), K) (none, (zSH im tl, va_up J 40 (lcp (J 42) (J 40) 1280), va_up K 41 (lcp (K 43) (K 41) 1000))) := by
    intro f
    induction f with
    | zero =>
      intro k hk
      have : k = 1280 := by omega
      subst this
      have h3 := l2 1000 0 (va_up J 40 (lcp (J 42) (J 40) 1280)) rfl
      rw [lcp_0, va_up_id (f := K) (k := 41) rfl] at h3
      exact sg_X11_copy_2_0 _ _ (by decide) h3
    | succ f ih =>
      intro k hk
      have hi := k_in (x := nI k) (n := 1280) rfl (by omega) (by omega)
      refine sg_X11_copy_2_2 _ _ (k_nle (a := 1280) rfl rfl (by omega) (by omega)) (by decide) hi hi ?_
      rw [kc (by omega), nI_1, va_up_self, va_up2]
      have h2 := ih (k + 1) (by omega)
      rw [← lcp_u] at h2
      exact h2
  have h1 := l1 1280 0 rfl
  rw [lcp_0, va_up_id (f := J) (k := 40) rfl] at h1
  exact h1
theorem lcp_in {α : Type} {S R : Nat → α} {m k : Nat} (h : k < m) : lcp S R m k = S k := if_pos h
/-- any call: the shape may have grown -/
def zOpG (X : zSc) (im : Option Nat) (tl : List zS) (I : zI) (L : zL) (mc mm : zMt) (lc lm : List Value) : Prop := ∃ (v : Int32) (im' : Option Nat) (tl' : List zS) (I1 : zI) (L1 : zL) (I2 : zI) (L2 : zL) (d : zD), zEv X mc 0 lc [] (zSH im tl, I, L) (some (.int v), (zSH im' tl', I1, L1)) ∧ zEv X mm 0 lm [] (zSH im' tl', I1, L1) (some (.int v), (zSH im' tl', I2, L2)) ∧ rAll d im' tl' I2 L2
theorem ro_5 (hR : rBook d I L J K) : I 1 5 = 0 ∨ I 1 5 = 1 := by
  have h := hR.ro
  cases e : d.op with
  | none => exact Or.inl (h.no e).1
  | some k => exact Or.inr (h.yes k e).2.2.1
/-- after the class's copying and the model's: the image is the book -/
theorem j_imaged (hB : rBook d I L I L) (hT : ∃ tn, RT tn (I 31) (I 32) (I 39) (I 44)) (hP : ∃ pn, RP pn (I 33) (I 34) (I 39) (I 47)) (hL : RL (I 36) (I 48) (I 49) (L 37) (L 50)) (hlc : True) : ∃ (v : Int32) (I1 : zI) (L1 : zL) (I2 : zI) (L2 : zL), zEv X mt_X10_image 18 [.ref 0] [] (zSH (some 51) zTL, I, L) (some (.int v), (zSH (some 51) zTL, I1, L1)) ∧ zEv X mt_X11_image 0 [.ref 39] [] (zSH (some 51) zTL, I1, L1) (some (.int v), (zSH (some 51) zTL, I2, L2)) ∧ rAll d (some 51) zTL I2 L2 := by
  obtain ⟨tn, hT⟩ := hT
  obtain ⟨pn, hP⟩ := hP
  have hc := m_copy0 (X := X) (im := some 51) (tl := zTL) (J := va_up (qBa I) 39 (upd (I 39) 3 1)) (K := qBaL L)
  refine ⟨I 9 0, qBa I, qBaL L, va_up (va_up (qBa I) 39 (upd (I 39) 3 1)) 42 (lcp (I 40) (I 42) 1280), va_up (qBaL L) 43 (lcp (L 41) (L 43) 1000), q_img2 (ro_5 hB), sg_X11_image_0_0 hc (ev_r sg_X11_image_10_0 ?_), hB, ⟨tn, RT.mk hT.t90 hT.c hT.m hT.b⟩, ⟨pn, RP.mk hP.p125 hP.c hP.m hP.b⟩, hL, Or.inr ⟨rfl, rfl, rfl, d, ?_⟩⟩
  · show (some (Value.int (I 40 1)), _) = (some (Value.int (I 9 0)), _)
    rw [hB.rj.m, hB.rj.c]
    rfl
  · refine RB.cg (n := I 40) (l := L 41) (RB.mk (RA.cc hB.ra rfl (fun k hk => cp0 hk) (fun k hk => cp0 hk) (fun k hk => cp0 hk) (fun k hk => cp0 hk) (fun k hk => cp0 hk) (fun k hk => cp0 hk)) (RJ.cc hB.rj rfl (fun k hk => cp0 hk) (fun k hk => cp0 hk) (fun k hk => cp0 hk) (fun k hk => cp0 hk) (fun k hk => cp0 hk) (fun k hk => cp0 hk)) (RO.cc hB.ro rfl rfl (fun k hk => cp0 hk) (fun k hk => cp0 hk)) (RD.cc hB.rd rfl rfl (fun k hk => cp0 hk)) (RC.cc hB.rc rfl (fun k hk => cp0 hk) (fun k hk => cp0 hk)) (RR.cc hB.rr (fun k hk => cp0 hk) (fun k hk => cp0 hk) (fun k hk => cp0 hk) (fun k hk => cp0 hk))) (fun k hk => lcp_in hk) (fun k hk => lcp_in hk)
theorem op_image (hR : rAll d im tl I L) : zOpG X im tl I L mt_X10_image mt_X11_image [.ref 0] [.ref 39] := by
  rcases hR.2.i with ⟨rfl, rfl, -⟩ | ⟨rfl, rfl, -, -⟩
  · have hB : rBook d (icI (va_up I 51 (fun _ => 0))) (icL (va_up L 51 (fun _ => 0))) (icI (va_up I 51 (fun _ => 0))) (icL (va_up L 51 (fun _ => 0))) := hR.1
    obtain ⟨v, I1, L1, I2, L2, h1, h2, h3⟩ := j_imaged (X := X) hB hR.2.t hR.2.p hR.2.l trivial
    exact ⟨v, some 51, zTL, I1, L1, I2, L2, d, q_new h1, h2, h3⟩
  · obtain ⟨v, I1, L1, I2, L2, h1, h2, h3⟩ := j_imaged (X := X) hR.1 hR.2.t hR.2.p hR.2.l trivial
    exact ⟨v, some 51, zTL, I1, L1, I2, L2, d, q_img h1, h2, h3⟩
theorem op_undo (hR : rAll d im tl I L) : zOpI X im tl I L mt_X10_undo mt_X11_undo [.ref 0] [.ref 39] := by
  rcases hR.2.i with ⟨rfl, rfl, h0⟩ | ⟨rfl, rfl, h0, d', hK⟩
  · exact op_roI hR _ q_und0 (sg_X11_undo_0_0 h0)
  · obtain ⟨tn, hT⟩ := hR.2.t
    obtain ⟨pn, hP⟩ := hR.2.p
    have h5 : I 51 5 = 0 ∨ I 51 5 = 1 := by
      have h := hK.ro
      cases e : d'.op with
      | none => exact Or.inl (h.no e).1
      | some k => exact Or.inr (h.yes k e).2.2.1
    have hc := m_copy1 (X := X) (im := some 51) (tl := zTL) (J := qBb I) (K := qBbL L)
    refine ⟨I 59 0, qBb I, qBbL L, va_up (qBb I) 40 (lcp (I 42) (I 40) 1280), va_up (qBbL L) 41 (lcp (L 43) (L 41) 1000), d', q_und1 h5, sg_X11_undo_0_1 (show ¬ I 39 3 = 0 by rw [h0]; decide) hc (ev_r sg_X11_undo_15_0 ?_), ?_, ⟨tn, RT.mk hT.t90 hT.c hT.m hT.b⟩, ⟨pn, RP.mk hP.p125 hP.c hP.m hP.b⟩, hR.2.l, Or.inr ⟨rfl, rfl, h0, d', hK⟩⟩
    · show (some (Value.int (lcp (I 42) (I 40) 1280 1)), _) = (some (Value.int (I 59 0)), _)
      rw [lcp_in (by omega), hK.rj.m, hK.rj.c]
      rfl
    · refine RB.cg (n := I 42) (l := L 43) (RB.mk (RA.cc hK.ra rfl (fun k hk => cp0 hk) (fun k hk => cp0 hk) (fun k hk => cp0 hk) (fun k hk => cp0 hk) (fun k hk => cp0 hk) (fun k hk => cp0 hk)) (RJ.cc hK.rj rfl (fun k hk => cp0 hk) (fun k hk => cp0 hk) (fun k hk => cp0 hk) (fun k hk => cp0 hk) (fun k hk => cp0 hk) (fun k hk => cp0 hk)) (RO.cc hK.ro rfl rfl (fun k hk => cp0 hk) (fun k hk => cp0 hk)) (RD.cc hK.rd rfl rfl (fun k hk => cp0 hk)) (RC.cc hK.rc rfl (fun k hk => cp0 hk) (fun k hk => cp0 hk)) (RR.cc hK.rr (fun k hk => cp0 hk) (fun k hk => cp0 hk) (fun k hk => cp0 hk) (fun k hk => cp0 hk))) (fun k hk => lcp_in hk) (fun k hk => lcp_in hk)
end IM
