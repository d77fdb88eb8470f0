section HKo
variable {X : zSc} {im : Option Nat} {tl : List zS} {I J : zI} {L K : zL} {d : zD} {k nC : Nat} {ac : Nat → Nat} {A B C n : Nat → Int32}
/-- what comes of it: nothing is in the way and nothing has changed, or something is and it is told alike -/
def hOuto (X : zSc) (im : Option Nat) (tl : List zS) (I : zI) (L : zL) (K : zL) (nC : Nat) (A B C n : Nat → Int32) (mc mm : zMt) (pc pm : Nat) (lc lm : List Value) (yes no : Int32) : Prop := (zEv X mc pc lc [] (zSH im tl, cz I A B C, L) (some (.int yes), (zSH im tl, cz I A B C, L)) ∧ ∀ J : zI, zEv X mm pm lm [] (zSH im tl, va_up J 40 n, K) (some (.int 0), (zSH im tl, va_up J 40 n, K))) ∨ ∃ nC' A' B' C' n' z, nC < nC' ∧ RC nC' A' B' C' n' ∧ (∀ x, x ≠ 6 → x < 1264 → n' x = n x) ∧ ((0 < nC → B' 0 = B 0) ∧ (nC = 0 → B' 0 = 1 ∨ B' 0 = 2 ∨ B' 0 = 4)) ∧ (no = 1 → z ≠ -5) ∧ (no = 0 → z = 0) ∧ zEv X mc pc lc [] (zSH im tl, cz I A B C, L) (some (.int z), (zSH im tl, cz I A' B' C', L)) ∧ ∀ J : zI, zEv X mm pm lm [] (zSH im tl, va_up J 40 n, K) (some (.int 1), (zSH im tl, va_up J 40 n', K))
theorem j_limo (hA : rA d I L (va_up J 40 n) K) (hJ : rJ d I (va_up J 40 n) K) (hD : RD d.day d.cl (I 1) (L 27) n (K 41)) (hC : RC nC A B C n) (h1 : nC ≤ 1) (hs : RS d.nA d.nP k ac (I 24) (I 25) (I 26) n (K 41)) : hOuto X im tl I L K nC A B C n mt_X0_keepsLimits mt_X11_isBeyond 0 0 [.ref 1, .ref 24, .null, .null, .null, .null, .null] [.ref 39, .null, .null, .null, .null] 1 0 := by
  have h30 := hA.n30
  have hs' := hs
  obtain ⟨h10, h600, hO, h3, h2p, hac, hx⟩ := hs
  have hO' : cz I A B C 24 0 = nI k := hO
  have e2 : ∀ J : zI, va_up J 40 n 40 2 = nI d.nP := fun J => h2p
  have e3 : ∀ J : zI, va_up J 40 n 40 3 = nI k := fun J => h3
  have ep : ∀ J : zI, zEv X mt_X11_postings 0 [.ref 39] [] (zSH im tl, va_up J 40 n, K) (some (.int (nI d.nP)), (zSH im tl, va_up J 40 n, K)) := fun J => ev_r sg_X11_postings_0_0 (by rw [e2])
  have key : ∀ (f i : Nat), i + f = k → hOuto X im tl I L K nC A B C n mt_X0_keepsLimits mt_X11_isBeyond 2 5 [.ref 1, .ref 24, .int (nI i), .null, .null, .null, .null] [.ref 39, .int (nI (d.nP + i)), .null, .null, .null] 1 0 := by
    intro f
    induction f with
    | zero =>
      intro i hi
      have : i = k := by omega
      subst this
      refine Or.inl ⟨sg_X0_keepsLimitso_2_0 _ (k_le hO' rfl (Nat.le_refl _) (by omega)), fun J => sg_X11_isBeyond_5_0 _ (ep J) (sg_X11_isBeyond_10_0 _ _ _ ?_)⟩
      rw [e3, nI_add]; exact Int32.le_refl _
    | succ f ih =>
      intro i hi
      obtain ⟨a1, a2, a3⟩ := hac i (by omega)
      have cc : (nI i).toNatClampNeg = i := kc (by omega)
      have ci := k_in (x := nI i) (n := 10) rfl (by omega) (by omega)
      have hn := k_nle hO' (rfl : nI i = nI i) (by omega) (by omega)
      have hle : ∀ J : zI, ¬ nI d.nP + va_up J 40 n 40 3 ≤ nI (d.nP + i) := fun J => by rw [e3, nI_add]; exact nI_ge (by omega) (by omega)
      have i4 := k_in (x := 400 + nI (d.nP + i)) (n := 1280) (nI_add 400 _) (by omega) (by omega)
      have c4 : ∀ J : zI, va_up J 40 n 40 ((400 : Int32) + nI (d.nP + i)).toNatClampNeg = nI (ac i) := fun J => by rw [kx 400 (a := 400) rfl (by omega), va_up_self, a3, a2]
      have c3 : cz I A B C 25 (nI i).toNatClampNeg = nI (ac i) := by rw [cc]; exact a2
      have ca := k_in (x := nI (ac i)) (n := 30) rfl (by omega) (by omega)
      have cac : (nI (ac i)).toNatClampNeg = ac i := kc (by omega)
      have m0 := k_in (x := 0 + nI (ac i)) (n := 1000) (nI_add 0 _) (by omega) (by omega)
      have m30 := k_in (x := 30 + nI (ac i)) (n := 1000) (nI_add 30 _) (by omega) (by omega)
      have f0 : K 41 ((0 : Int32) + nI (ac i)).toNatClampNeg = L 6 (ac i) := by rw [kx 0 (a := 0) rfl (by omega), Nat.zero_add, hA.fl _ a1]
      have f30 : K 41 ((30 : Int32) + nI (ac i)).toNatClampNeg = L 7 (ac i) := by rw [kx 30 (a := 30) rfl (by omega), hA.ce _ a1]
      have cs := c_sumByNow (X := X) (im := im) (tl := tl) (L := L) (I := cz I A B C) (J := va_up J 40 n) (K := K) (d := d) (by exact hJ) hD.d hD.bd (nI (ac i))
      have cs2 := c_sumo (X := X) (im := im) (tl := tl) (L := L) (A := A) (B := B) (C := C) hs' (nI (ac i))
      have ms := fun J' : zI => m_behind (X := X) (im := im) (tl := tl) (J := J') (I := I) (d := d) (by exact hJ) hD.d hs' (nI (ac i))
      have eS : cSum (cz I A B C) d.sz d.nJ (nI (ac i)) 0 999 = cSum I d.sz d.nJ (nI (ac i)) 0 999 := rfl
      rw [eS] at cs
      generalize hv : cSum I d.sz d.nJ (nI (ac i)) 0 999 + sS (fun i_1 => decide (I 25 i_1 = nI (ac i))) (I 26) k = v at ms
      -- the two starts
      have start : ∀ (r : Option Value × zM) (r' : zI → Option Value × zM), zEv X mt_X0_keepsLimits 27 [.ref 1, .ref 24, .int (nI i), .int (nI (ac i)), .null, .null, .null] [.long (sS (fun i_1 => decide (I 25 i_1 = nI (ac i))) (I 26) k), .long (cSum I d.sz d.nJ (nI (ac i)) 0 999)] (zSH im tl, cz I A B C, L) r → (∀ J : zI, zEv X mt_X11_isBeyond 36 [.ref 39, .int (nI (d.nP + i)), .int (nI (ac i)), .null, .null] [.long v] (zSH im tl, va_up J 40 n, K) (r' J)) → zEv X mt_X0_keepsLimits 2 [.ref 1, .ref 24, .int (nI i), .null, .null, .null, .null] [] (zSH im tl, cz I A B C, L) r ∧ (∀ J : zI, zEv X mt_X11_isBeyond 5 [.ref 39, .int (nI (d.nP + i)), .null, .null, .null] [] (zSH im tl, va_up J 40 n, K) (r' J)) := by
        intro r r' q1 q2
        refine ⟨sg_X0_keepsLimitso_2_1 _ hn ci (by rw [c3]; exact cs) ?_, fun J => sg_X11_isBeyond_5_0 _ (ep J) (sg_X11_isBeyond_10_1 _ _ _ (hle J) i4 (by rw [c4]; exact ms J) ?_)⟩
        · rw [c3]; exact sg_X0_keepsLimitso_22_0 _ _ _ cs2 q1
        · rw [c4]; exact q2 J
      have c6 : L 6 (nI (ac i)).toNatClampNeg = L 6 (ac i) := by rw [cac]
      have c7 : L 7 (nI (ac i)).toNatClampNeg = L 7 (ac i) := by rw [cac]
      by_cases hlo : v < L 6 (ac i)
      · -- below its floor
        have r1 := rc_add hC (by omega) 4 (nI (ac i))
        have r2 := rc_add r1 (by omega) 5 (nI (ac i))
        obtain ⟨q1, q2⟩ := start _ _ (sg_X0_keepsLimitso_27_2 _ _ _ _ ca (by rw [hv, c6]; exact fun y => absurd ((lg_cmp_ge _ _).mp y) (Int64.not_le.mpr hlo)) (c_addCause hC (by omega) 4 (nI (ac i))) (sg_X0_keepsLimitso_81_1 _ _ _ _ (by decide) (c_addCause r1 (by omega) 5 (nI (ac i))) (sg_X0_keepsLimitso_100_0 _ _ _ _))) (fun J => sg_X11_isBeyond_36_0 _ _ _ m0 (by rw [f0]; exact (lg_cmp_lt _ _).mpr hlo) (m_addCause hC (by omega) 4 (nI (ac i))) (sg_X11_isBeyond_73_1 _ _ _ m0 (by rw [f0]; exact fun y => absurd ((lg_cmp_ge _ _).mp y) (Int64.not_le.mpr hlo)) (m_causedAs r1 (by omega) 5 (nI (ac i))) (sg_X11_isBeyond_97_0 _ _ _ _ (Or.inr rfl))))
        refine Or.inr ⟨_, _, _, _, _, 0, by omega, r2, fun x x1 x2 => ?_, ⟨fun h => ?_, fun h => ?_⟩, by decide, fun _ => rfl, q1, q2⟩
        · rw [pk_un x1, pk_un (by omega), pk_un (by omega), pk_un x1, pk_un (by omega), pk_un (by omega)]
        · rw [pk_un (by omega), pk_un (by omega)]
        · refine Or.inr (Or.inr ?_)
          rw [pk_un (by omega), h]; exact pk_us
      · have nlo : ¬ lg_cmp v (L 6 (ac i)) < 0 := fun y => hlo ((lg_cmp_lt _ _).mp y)
        have ylo : 0 ≤ lg_cmp v (L 6 (ac i)) := (lg_cmp_ge _ _).mpr (Int64.not_lt.mp hlo)
        by_cases hhi : L 7 (ac i) < v
        · have r1 := rc_add hC (by omega) 4 (nI (ac i))
          have r2 := rc_add r1 (by omega) 6 (nI (ac i))
          obtain ⟨q1, q2⟩ := start _ _ (sg_X0_keepsLimitso_27_1 _ _ _ _ ca (by rw [hv, c6]; exact ylo) ca (by rw [hv, c7]; exact fun y => absurd ((lg_cmp_le _ _).mp y) (Int64.not_le.mpr hhi)) (c_addCause hC (by omega) 4 (nI (ac i))) (sg_X0_keepsLimitso_81_0 _ _ _ _ rfl (c_addCause r1 (by omega) 6 (nI (ac i))) (sg_X0_keepsLimitso_100_0 _ _ _ _))) (fun J => sg_X11_isBeyond_36_1 _ _ _ m0 (by rw [f0]; exact nlo) m30 (by rw [f30]; exact (lg_cmp_gt _ _).mpr hhi) (m_addCause hC (by omega) 4 (nI (ac i))) (sg_X11_isBeyond_73_0 _ _ _ m0 (by rw [f0]; exact ylo) (m_causedAs r1 (by omega) 6 (nI (ac i))) (sg_X11_isBeyond_97_0 _ _ _ _ (Or.inr rfl))))
          refine Or.inr ⟨_, _, _, _, _, 0, by omega, r2, fun x x1 x2 => ?_, ⟨fun h => ?_, fun h => ?_⟩, by decide, fun _ => rfl, q1, q2⟩
          · rw [pk_un x1, pk_un (by omega), pk_un (by omega), pk_un x1, pk_un (by omega), pk_un (by omega)]
          · rw [pk_un (by omega), pk_un (by omega)]
          · refine Or.inr (Or.inr ?_)
            rw [pk_un (by omega), h]; exact pk_us
        · have yhi : lg_cmp v (L 7 (ac i)) ≤ 0 := (lg_cmp_le _ _).mpr (Int64.not_lt.mp hhi)
          have nhi : ¬ 0 < lg_cmp v (L 7 (ac i)) := fun y => hhi ((lg_cmp_gt _ _).mp y)
          have go : ∀ (r : Option Value × zM) (r' : zI → Option Value × zM), zEv X mt_X0_keepsLimits 2 [.ref 1, .ref 24, .int (nI (i + 1)), .null, .null, .null, .null] [] (zSH im tl, cz I A B C, L) r → (∀ J : zI, zEv X mt_X11_isBeyond 5 [.ref 39, .int (nI (d.nP + (i + 1))), .null, .null, .null] [] (zSH im tl, va_up J 40 n, K) (r' J)) → zEv X mt_X0_keepsLimits 2 [.ref 1, .ref 24, .int (nI i), .null, .null, .null, .null] [] (zSH im tl, cz I A B C, L) r ∧ (∀ J : zI, zEv X mt_X11_isBeyond 5 [.ref 39, .int (nI (d.nP + i)), .null, .null, .null] [] (zSH im tl, va_up J 40 n, K) (r' J)) := by
            intro r r' q1 q2
            refine start r r' (sg_X0_keepsLimitso_27_0 _ _ _ _ ca (by rw [hv, c6]; exact ylo) ca (by rw [hv, c7]; exact yhi) (by rw [nI_1]; exact q1)) (fun J => sg_X11_isBeyond_36_2 _ _ _ m0 (by rw [f0]; exact nlo) m30 (by rw [f30]; exact nhi) (by rw [nI_1]; exact q2 J))
          rcases ih (i + 1) (by omega) with ⟨q1, q2⟩ | ⟨nC', A', B', C', n', z, w1, w2, w3, w4, w5, w6, q1, q2⟩
          · exact Or.inl (go _ _ q1 q2)
          · exact Or.inr ⟨nC', A', B', C', n', z, w1, w2, w3, w4, w5, w6, go _ _ q1 q2⟩
  rcases key k 0 (by omega) with ⟨q1, q2⟩ | ⟨nC', A', B', C', n', z, w1, w2, w3, w4, w5, w6, q1, q2⟩
  · exact Or.inl ⟨sg_X0_keepsLimitso_0_0 q1, fun J => sg_X11_isBeyond_0_0 (ep J) (sg_X11_isBeyond_4_0 _ (q2 J))⟩
  · exact Or.inr ⟨nC', A', B', C', n', z, w1, w2, w3, w4, w5, w6, sg_X0_keepsLimitso_0_0 q1, fun J => sg_X11_isBeyond_0_0 (ep J) (sg_X11_isBeyond_4_0 _ (q2 J))⟩
theorem j_unbo (h30 : d.nA ≤ 30) (hcu : ∀ a, a < d.nA → n (40 + a) = I 4 a) (hC : RC nC A B C n) (h1 : nC ≤ 1) (hs : RS d.nA d.nP k ac (I 24) (I 25) (I 26) n (K 41)) : (zEv X mt_X0_findUnbalanced 0 [.ref 1, .ref 24, .null, .null, .null, .null] [] (zSH im tl, cz I A B C, L) (some (.int (-5)), (zSH im tl, cz I A B C, L)) ∧ ∀ J : zI, zEv X mt_X11_isUnbalanced 0 [.ref 39, .null, .null, .null, .null] [] (zSH im tl, va_up J 40 n, K) (some (.int 0), (zSH im tl, va_up J 40 n, K))) ∨ ∃ c, c < 4 ∧ zEv X mt_X0_findUnbalanced 0 [.ref 1, .ref 24, .null, .null, .null, .null] [] (zSH im tl, cz I A B C, L) (some (.int (nI c)), (zSH im tl, cz I A B C, L)) ∧ ∀ J : zI, zEv X mt_X11_isUnbalanced 0 [.ref 39, .null, .null, .null, .null] [] (zSH im tl, va_up J 40 n, K) (some (.int 1), (zSH im tl, va_up J 40 (upd (upd (upd n (1264 + nC) 1) (1270 + nC) (nI c)) 6 (nI (nC + 1))), K)) := by
  have key : ∀ (f c : Nat), c + f = 4 → (zEv X mt_X0_findUnbalanced 2 [.ref 1, .ref 24, .int (nI c), .null, .null, .null] [] (zSH im tl, cz I A B C, L) (some (.int (-5)), (zSH im tl, cz I A B C, L)) ∧ ∀ J : zI, zEv X mt_X11_isUnbalanced 2 [.ref 39, .int (nI c), .null, .null, .null] [] (zSH im tl, va_up J 40 n, K) (some (.int 0), (zSH im tl, va_up J 40 n, K))) ∨ ∃ x, x < 4 ∧ zEv X mt_X0_findUnbalanced 2 [.ref 1, .ref 24, .int (nI c), .null, .null, .null] [] (zSH im tl, cz I A B C, L) (some (.int (nI x)), (zSH im tl, cz I A B C, L)) ∧ ∀ J : zI, zEv X mt_X11_isUnbalanced 2 [.ref 39, .int (nI c), .null, .null, .null] [] (zSH im tl, va_up J 40 n, K) (some (.int 1), (zSH im tl, va_up J 40 (upd (upd (upd n (1264 + nC) 1) (1270 + nC) (nI x)) 6 (nI (nC + 1))), K)) := by
    intro f
    induction f with
    | zero =>
      intro c hc
      have : c = 4 := by omega
      subst this
      exact Or.inl ⟨sg_X0_findUnbalancedo_2_0 _ (by decide), fun J => sg_X11_isUnbalanced_2_0 _ (by decide)⟩
    | succ f ih =>
      intro c hc
      by_cases e : sS (fun i => decide (I 4 (ac i) = nI c)) (I 26) k = 0
      · rcases ih (c + 1) (by omega) with ⟨q1, q2⟩ | ⟨x, hx, q1, q2⟩
        · rw [← nI_1 c] at q1 q2
          exact Or.inl ⟨c_unbo h30 hs (by omega) (fun _ => q1) (fun h => absurd e h), fun J => m_unb h30 hcu hs (by omega) (fun _ => q2 J) (fun h => absurd e h)⟩
        · rw [← nI_1 c] at q1 q2
          exact Or.inr ⟨x, hx, c_unbo h30 hs (by omega) (fun _ => q1) (fun h => absurd e h), fun J => m_unb h30 hcu hs (by omega) (fun _ => q2 J) (fun h => absurd e h)⟩
      · exact Or.inr ⟨c, by omega, c_unbo h30 hs (by omega) (fun h => absurd h e) (fun _ => rfl), fun J => m_unb h30 hcu hs (by omega) (fun h => absurd h e) (fun _ => ⟨1, _, m_causedAs hC (by omega) 1 (nI c), Or.inr rfl, rfl⟩)⟩
  rcases key 4 0 (by omega) with ⟨q1, q2⟩ | ⟨x, hx, q1, q2⟩
  · exact Or.inl ⟨sg_X0_findUnbalancedo_0_0 q1, fun J => sg_X11_isUnbalanced_0_0 (q2 J)⟩
  · exact Or.inr ⟨x, hx, sg_X0_findUnbalancedo_0_0 q1, fun J => sg_X11_isUnbalanced_0_0 (q2 J)⟩
theorem j_cano (hA : rA d I L (va_up J 40 n) K) (hJ : rJ d I (va_up J 40 n) K) (hD : RD d.day d.cl (I 1) (L 27) n (K 41)) (hC : RC nC A B C n) (h1 : nC ≤ 1) (hs : RS d.nA d.nP k ac (I 24) (I 25) (I 26) n (K 41)) : (2 ≤ k ∧ zEv X mt_X0_canBePosted 0 [.ref 1, .ref 24, .null] [] (zSH im tl, cz I A B C, L) (some (.int 1), (zSH im tl, cz I A B C, L)) ∧ ∀ J : zI, zEv X mt_X11_isHindered 0 [.ref 39] [] (zSH im tl, va_up J 40 n, K) (some (.int 0), (zSH im tl, va_up J 40 n, K))) ∨ ∃ nC' A' B' C' n', nC < nC' ∧ RC nC' A' B' C' n' ∧ (∀ x, x ≠ 6 → x < 1264 → n' x = n x) ∧ ((0 < nC → B' 0 = B 0) ∧ (nC = 0 → B' 0 = 1 ∨ B' 0 = 2 ∨ B' 0 = 4)) ∧ zEv X mt_X0_canBePosted 0 [.ref 1, .ref 24, .null] [] (zSH im tl, cz I A B C, L) (some (.int 0), (zSH im tl, cz I A' B' C', L)) ∧ ∀ J : zI, zEv X mt_X11_isHindered 0 [.ref 39] [] (zSH im tl, va_up J 40 n, K) (some (.int 1), (zSH im tl, va_up J 40 n', K)) := by
  have h30 := hA.n30
  have hs' := hs
  obtain ⟨h10, h600, hO, h3, h2p, hac, hx⟩ := hs
  have hO' : cz I A B C 24 0 = nI k := hO
  have e3 : ∀ J : zI, va_up J 40 n 40 3 = nI k := fun J => h3
  by_cases hk : 2 ≤ k
  · have cl2 : (2 : Int32) ≤ cz I A B C 24 0 := k_le (a := 2) rfl hO' hk (by omega)
    have ml2 : ∀ J : zI, (2 : Int32) ≤ va_up J 40 n 40 3 := fun J => k_le (a := 2) rfl (e3 J) hk (by omega)
    rcases j_unbo (X := X) (im := im) (tl := tl) (L := L) h30 (fun a ha => hA.cu a ha) hC h1 hs' with ⟨q1, q2⟩ | ⟨c, hc, q1, q2⟩
    · have hd1 := hD.d
      have hd2 := hD.c
      have dd : nI d.day / 100 = nI (d.day / 100) := pk_div (a := d.day) (d := 100) (by omega) (by omega) (by omega)
      have cc1 : cz I A B C 1 7 ≤ cz I A B C 1 6 / 100 := by
        rw [show cz I A B C 1 7 = nI d.cl from hD.bc, show cz I A B C 1 6 = nI d.day from hD.bd, dd]
        exact nI_le (by omega) (by omega)
      have mm1 : ∀ J : zI, va_up J 40 n 40 5 ≤ va_up J 40 n 40 4 / 100 := fun J => by
        rw [show va_up J 40 n 40 5 = nI d.cl from hD.mc, show va_up J 40 n 40 4 = nI d.day from hD.md, dd]
        exact nI_le (by omega) (by omega)
      rcases j_limo (X := X) (im := im) (tl := tl) hA hJ hD hC h1 hs' with ⟨r1, r2⟩ | ⟨nC', A', B', C', n', z, w1, w2, w3, w4, w5, w6, r1, r2⟩
      · exact Or.inl ⟨hk, sg_X0_canBePostedo_0_0 cl2 q1 (sg_X0_canBePostedo_27_0 _ rfl (sg_X0_isClosedOn_0_0 _ cc1) (sg_X0_canBePostedo_53_0 _ _ rfl r1 (sg_X0_canBePostedo_78_0 _ _ (Or.inr rfl)))), fun J => sg_X11_isHindered_0_0 (ml2 J) (q2 J) (sg_X11_isHindered_26_0 _ rfl (mm1 J) (r2 J) (sg_X11_isHindered_68_0 _ (Or.inl rfl)))⟩
      · have hz := w6 rfl
        subst hz
        exact Or.inr ⟨nC', A', B', C', n', w1, w2, w3, w4, sg_X0_canBePostedo_0_0 cl2 q1 (sg_X0_canBePostedo_27_0 _ rfl (sg_X0_isClosedOn_0_0 _ cc1) (sg_X0_canBePostedo_53_0 _ _ rfl r1 (sg_X0_canBePostedo_78_0 _ _ (Or.inl rfl)))), fun J => sg_X11_isHindered_0_0 (ml2 J) (q2 J) (sg_X11_isHindered_26_0 _ rfl (mm1 J) (r2 J) (sg_X11_isHindered_68_0 _ (Or.inr rfl)))⟩
    · refine Or.inr ⟨_, _, _, _, _, Nat.lt_succ_self _, rc_add hC (by omega) 1 (nI c), fun x x1 x2 => ?_, ⟨fun h => pk_un (by omega), fun h => Or.inl (by rw [h]; exact pk_us)⟩, sg_X0_canBePostedo_0_0 cl2 q1 (sg_X0_canBePostedo_27_1 _ (n5 (by omega)) (c_addCause hC (by omega) 1 (nI c)) (sg_X0_canBePostedo_43_0 _)), fun J => sg_X11_isHindered_0_0 (ml2 J) (q2 J) (sg_X11_isHindered_26_2 _ (by decide))⟩
      rw [pk_un x1, pk_un (by omega), pk_un (by omega)]
  · refine Or.inr ⟨_, _, _, _, _, Nat.lt_succ_self _, rc_add hC (by omega) 2 (nI k), fun x x1 x2 => ?_, ⟨fun h => pk_un (by omega), fun h => Or.inr (Or.inl (by rw [h]; exact pk_us))⟩, sg_X0_canBePostedo_0_1 (k_nle (a := 2) rfl hO' (by omega) (by omega)) (by rw [hO']; exact c_addCause hC (by omega) 2 (nI k)) sg_X0_canBePostedo_20_0, fun J => sg_X11_isHindered_0_1 (k_nle (a := 2) rfl (e3 J) (by omega) (by omega)) (by rw [e3]; exact m_causedAs hC (by omega) 2 (nI k)) (sg_X11_isHindered_21_0 _ (Or.inr rfl))⟩
    rw [pk_un x1, pk_un (by omega), pk_un (by omega)]
end HKo
section HKd
variable {X : zSc} {im : Option Nat} {tl : List zS} {I J : zI} {L K : zL} {d : zD} {k nC : Nat} {ac : Nat → Nat} {A B C n : Nat → Int32}
/-- what comes of it: nothing is in the way and nothing has changed, or something is and it is told alike -/
def hOutd (X : zSc) (im : Option Nat) (tl : List zS) (I : zI) (L : zL) (K : zL) (nC : Nat) (A B C n : Nat → Int32) (mc mm : zMt) (pc pm : Nat) (lc lm : List Value) (yes no : Int32) : Prop := (zEv X mc pc lc [] (zSH im tl, cz I A B C, L) (some (.int yes), (zSH im tl, cz I A B C, L)) ∧ ∀ J : zI, zEv X mm pm lm [] (zSH im tl, va_up J 40 n, K) (some (.int 0), (zSH im tl, va_up J 40 n, K))) ∨ ∃ nC' A' B' C' n' z, nC < nC' ∧ RC nC' A' B' C' n' ∧ (∀ x, x ≠ 6 → x < 1264 → n' x = n x) ∧ ((0 < nC → B' 0 = B 0) ∧ (nC = 0 → B' 0 = 1 ∨ B' 0 = 2 ∨ B' 0 = 4)) ∧ (no = 1 → z ≠ -5) ∧ (no = 0 → z = 0) ∧ zEv X mc pc lc [] (zSH im tl, cz I A B C, L) (some (.int z), (zSH im tl, cz I A' B' C', L)) ∧ ∀ J : zI, zEv X mm pm lm [] (zSH im tl, va_up J 40 n, K) (some (.int 1), (zSH im tl, va_up J 40 n', K))
theorem j_limd (hA : rA d I L (va_up J 40 n) K) (hJ : rJ d I (va_up J 40 n) K) (hD : RD d.day d.cl (I 1) (L 27) n (K 41)) (hC : RC nC A B C n) (h1 : nC ≤ 1) (hs : RS d.nA d.nP k ac (I 28) (I 29) (I 30) n (K 41)) : hOutd X im tl I L K nC A B C n mt_X0_keepsLimits mt_X11_isBeyond 0 0 [.ref 1, .ref 28, .null, .null, .null, .null, .null] [.ref 39, .null, .null, .null, .null] 1 0 := by
  have h30 := hA.n30
  have hs' := hs
  obtain ⟨h10, h600, hO, h3, h2p, hac, hx⟩ := hs
  have hO' : cz I A B C 28 0 = nI k := hO
  have e2 : ∀ J : zI, va_up J 40 n 40 2 = nI d.nP := fun J => h2p
  have e3 : ∀ J : zI, va_up J 40 n 40 3 = nI k := fun J => h3
  have ep : ∀ J : zI, zEv X mt_X11_postings 0 [.ref 39] [] (zSH im tl, va_up J 40 n, K) (some (.int (nI d.nP)), (zSH im tl, va_up J 40 n, K)) := fun J => ev_r sg_X11_postings_0_0 (by rw [e2])
  have key : ∀ (f i : Nat), i + f = k → hOutd X im tl I L K nC A B C n mt_X0_keepsLimits mt_X11_isBeyond 2 5 [.ref 1, .ref 28, .int (nI i), .null, .null, .null, .null] [.ref 39, .int (nI (d.nP + i)), .null, .null, .null] 1 0 := by
    intro f
    induction f with
    | zero =>
      intro i hi
      have : i = k := by omega
      subst this
      refine Or.inl ⟨sg_X0_keepsLimitsd_2_0 _ (k_le hO' rfl (Nat.le_refl _) (by omega)), fun J => sg_X11_isBeyond_5_0 _ (ep J) (sg_X11_isBeyond_10_0 _ _ _ ?_)⟩
      rw [e3, nI_add]; exact Int32.le_refl _
    | succ f ih =>
      intro i hi
      obtain ⟨a1, a2, a3⟩ := hac i (by omega)
      have cc : (nI i).toNatClampNeg = i := kc (by omega)
      have ci := k_in (x := nI i) (n := 10) rfl (by omega) (by omega)
      have hn := k_nle hO' (rfl : nI i = nI i) (by omega) (by omega)
      have hle : ∀ J : zI, ¬ nI d.nP + va_up J 40 n 40 3 ≤ nI (d.nP + i) := fun J => by rw [e3, nI_add]; exact nI_ge (by omega) (by omega)
      have i4 := k_in (x := 400 + nI (d.nP + i)) (n := 1280) (nI_add 400 _) (by omega) (by omega)
      have c4 : ∀ J : zI, va_up J 40 n 40 ((400 : Int32) + nI (d.nP + i)).toNatClampNeg = nI (ac i) := fun J => by rw [kx 400 (a := 400) rfl (by omega), va_up_self, a3, a2]
      have c3 : cz I A B C 29 (nI i).toNatClampNeg = nI (ac i) := by rw [cc]; exact a2
      have ca := k_in (x := nI (ac i)) (n := 30) rfl (by omega) (by omega)
      have cac : (nI (ac i)).toNatClampNeg = ac i := kc (by omega)
      have m0 := k_in (x := 0 + nI (ac i)) (n := 1000) (nI_add 0 _) (by omega) (by omega)
      have m30 := k_in (x := 30 + nI (ac i)) (n := 1000) (nI_add 30 _) (by omega) (by omega)
      have f0 : K 41 ((0 : Int32) + nI (ac i)).toNatClampNeg = L 6 (ac i) := by rw [kx 0 (a := 0) rfl (by omega), Nat.zero_add, hA.fl _ a1]
      have f30 : K 41 ((30 : Int32) + nI (ac i)).toNatClampNeg = L 7 (ac i) := by rw [kx 30 (a := 30) rfl (by omega), hA.ce _ a1]
      have cs := c_sumByNow (X := X) (im := im) (tl := tl) (L := L) (I := cz I A B C) (J := va_up J 40 n) (K := K) (d := d) (by exact hJ) hD.d hD.bd (nI (ac i))
      have cs2 := c_sumd (X := X) (im := im) (tl := tl) (L := L) (A := A) (B := B) (C := C) hs' (nI (ac i))
      have ms := fun J' : zI => m_behind (X := X) (im := im) (tl := tl) (J := J') (I := I) (d := d) (by exact hJ) hD.d hs' (nI (ac i))
      have eS : cSum (cz I A B C) d.sz d.nJ (nI (ac i)) 0 999 = cSum I d.sz d.nJ (nI (ac i)) 0 999 := rfl
      rw [eS] at cs
      generalize hv : cSum I d.sz d.nJ (nI (ac i)) 0 999 + sS (fun i_1 => decide (I 29 i_1 = nI (ac i))) (I 30) k = v at ms
      -- the two starts
      have start : ∀ (r : Option Value × zM) (r' : zI → Option Value × zM), zEv X mt_X0_keepsLimits 27 [.ref 1, .ref 28, .int (nI i), .int (nI (ac i)), .null, .null, .null] [.long (sS (fun i_1 => decide (I 29 i_1 = nI (ac i))) (I 30) k), .long (cSum I d.sz d.nJ (nI (ac i)) 0 999)] (zSH im tl, cz I A B C, L) r → (∀ J : zI, zEv X mt_X11_isBeyond 36 [.ref 39, .int (nI (d.nP + i)), .int (nI (ac i)), .null, .null] [.long v] (zSH im tl, va_up J 40 n, K) (r' J)) → zEv X mt_X0_keepsLimits 2 [.ref 1, .ref 28, .int (nI i), .null, .null, .null, .null] [] (zSH im tl, cz I A B C, L) r ∧ (∀ J : zI, zEv X mt_X11_isBeyond 5 [.ref 39, .int (nI (d.nP + i)), .null, .null, .null] [] (zSH im tl, va_up J 40 n, K) (r' J)) := by
        intro r r' q1 q2
        refine ⟨sg_X0_keepsLimitsd_2_1 _ hn ci (by rw [c3]; exact cs) ?_, fun J => sg_X11_isBeyond_5_0 _ (ep J) (sg_X11_isBeyond_10_1 _ _ _ (hle J) i4 (by rw [c4]; exact ms J) ?_)⟩
        · rw [c3]; exact sg_X0_keepsLimitsd_22_0 _ _ _ cs2 q1
        · rw [c4]; exact q2 J
      have c6 : L 6 (nI (ac i)).toNatClampNeg = L 6 (ac i) := by rw [cac]
      have c7 : L 7 (nI (ac i)).toNatClampNeg = L 7 (ac i) := by rw [cac]
      by_cases hlo : v < L 6 (ac i)
      · -- below its floor
        have r1 := rc_add hC (by omega) 4 (nI (ac i))
        have r2 := rc_add r1 (by omega) 5 (nI (ac i))
        obtain ⟨q1, q2⟩ := start _ _ (sg_X0_keepsLimitsd_27_2 _ _ _ _ ca (by rw [hv, c6]; exact fun y => absurd ((lg_cmp_ge _ _).mp y) (Int64.not_le.mpr hlo)) (c_addCause hC (by omega) 4 (nI (ac i))) (sg_X0_keepsLimitsd_81_1 _ _ _ _ (by decide) (c_addCause r1 (by omega) 5 (nI (ac i))) (sg_X0_keepsLimitsd_100_0 _ _ _ _))) (fun J => sg_X11_isBeyond_36_0 _ _ _ m0 (by rw [f0]; exact (lg_cmp_lt _ _).mpr hlo) (m_addCause hC (by omega) 4 (nI (ac i))) (sg_X11_isBeyond_73_1 _ _ _ m0 (by rw [f0]; exact fun y => absurd ((lg_cmp_ge _ _).mp y) (Int64.not_le.mpr hlo)) (m_causedAs r1 (by omega) 5 (nI (ac i))) (sg_X11_isBeyond_97_0 _ _ _ _ (Or.inr rfl))))
        refine Or.inr ⟨_, _, _, _, _, 0, by omega, r2, fun x x1 x2 => ?_, ⟨fun h => ?_, fun h => ?_⟩, by decide, fun _ => rfl, q1, q2⟩
        · rw [pk_un x1, pk_un (by omega), pk_un (by omega), pk_un x1, pk_un (by omega), pk_un (by omega)]
        · rw [pk_un (by omega), pk_un (by omega)]
        · refine Or.inr (Or.inr ?_)
          rw [pk_un (by omega), h]; exact pk_us
      · have nlo : ¬ lg_cmp v (L 6 (ac i)) < 0 := fun y => hlo ((lg_cmp_lt _ _).mp y)
        have ylo : 0 ≤ lg_cmp v (L 6 (ac i)) := (lg_cmp_ge _ _).mpr (Int64.not_lt.mp hlo)
        by_cases hhi : L 7 (ac i) < v
        · have r1 := rc_add hC (by omega) 4 (nI (ac i))
          have r2 := rc_add r1 (by omega) 6 (nI (ac i))
          obtain ⟨q1, q2⟩ := start _ _ (sg_X0_keepsLimitsd_27_1 _ _ _ _ ca (by rw [hv, c6]; exact ylo) ca (by rw [hv, c7]; exact fun y => absurd ((lg_cmp_le _ _).mp y) (Int64.not_le.mpr hhi)) (c_addCause hC (by omega) 4 (nI (ac i))) (sg_X0_keepsLimitsd_81_0 _ _ _ _ rfl (c_addCause r1 (by omega) 6 (nI (ac i))) (sg_X0_keepsLimitsd_100_0 _ _ _ _))) (fun J => sg_X11_isBeyond_36_1 _ _ _ m0 (by rw [f0]; exact nlo) m30 (by rw [f30]; exact (lg_cmp_gt _ _).mpr hhi) (m_addCause hC (by omega) 4 (nI (ac i))) (sg_X11_isBeyond_73_0 _ _ _ m0 (by rw [f0]; exact ylo) (m_causedAs r1 (by omega) 6 (nI (ac i))) (sg_X11_isBeyond_97_0 _ _ _ _ (Or.inr rfl))))
          refine Or.inr ⟨_, _, _, _, _, 0, by omega, r2, fun x x1 x2 => ?_, ⟨fun h => ?_, fun h => ?_⟩, by decide, fun _ => rfl, q1, q2⟩
          · rw [pk_un x1, pk_un (by omega), pk_un (by omega), pk_un x1, pk_un (by omega), pk_un (by omega)]
          · rw [pk_un (by omega), pk_un (by omega)]
          · refine Or.inr (Or.inr ?_)
            rw [pk_un (by omega), h]; exact pk_us
        · have yhi : lg_cmp v (L 7 (ac i)) ≤ 0 := (lg_cmp_le _ _).mpr (Int64.not_lt.mp hhi)
          have nhi : ¬ 0 < lg_cmp v (L 7 (ac i)) := fun y => hhi ((lg_cmp_gt _ _).mp y)
          have go : ∀ (r : Option Value × zM) (r' : zI → Option Value × zM), zEv X mt_X0_keepsLimits 2 [.ref 1, .ref 28, .int (nI (i + 1)), .null, .null, .null, .null] [] (zSH im tl, cz I A B C, L) r → (∀ J : zI, zEv X mt_X11_isBeyond 5 [.ref 39, .int (nI (d.nP + (i + 1))), .null, .null, .null] [] (zSH im tl, va_up J 40 n, K) (r' J)) → zEv X mt_X0_keepsLimits 2 [.ref 1, .ref 28, .int (nI i), .null, .null, .null, .null] [] (zSH im tl, cz I A B C, L) r ∧ (∀ J : zI, zEv X mt_X11_isBeyond 5 [.ref 39, .int (nI (d.nP + i)), .null, .null, .null] [] (zSH im tl, va_up J 40 n, K) (r' J)) := by
            intro r r' q1 q2
            refine start r r' (sg_X0_keepsLimitsd_27_0 _ _ _ _ ca (by rw [hv, c6]; exact ylo) ca (by rw [hv, c7]; exact yhi) (by rw [nI_1]; exact q1)) (fun J => sg_X11_isBeyond_36_2 _ _ _ m0 (by rw [f0]; exact nlo) m30 (by rw [f30]; exact nhi) (by rw [nI_1]; exact q2 J))
          rcases ih (i + 1) (by omega) with ⟨q1, q2⟩ | ⟨nC', A', B', C', n', z, w1, w2, w3, w4, w5, w6, q1, q2⟩
          · exact Or.inl (go _ _ q1 q2)
          · exact Or.inr ⟨nC', A', B', C', n', z, w1, w2, w3, w4, w5, w6, go _ _ q1 q2⟩
  rcases key k 0 (by omega) with ⟨q1, q2⟩ | ⟨nC', A', B', C', n', z, w1, w2, w3, w4, w5, w6, q1, q2⟩
  · exact Or.inl ⟨sg_X0_keepsLimitsd_0_0 q1, fun J => sg_X11_isBeyond_0_0 (ep J) (sg_X11_isBeyond_4_0 _ (q2 J))⟩
  · exact Or.inr ⟨nC', A', B', C', n', z, w1, w2, w3, w4, w5, w6, sg_X0_keepsLimitsd_0_0 q1, fun J => sg_X11_isBeyond_0_0 (ep J) (sg_X11_isBeyond_4_0 _ (q2 J))⟩
theorem j_unbd (h30 : d.nA ≤ 30) (hcu : ∀ a, a < d.nA → n (40 + a) = I 4 a) (hC : RC nC A B C n) (h1 : nC ≤ 1) (hs : RS d.nA d.nP k ac (I 28) (I 29) (I 30) n (K 41)) : (zEv X mt_X0_findUnbalanced 0 [.ref 1, .ref 28, .null, .null, .null, .null] [] (zSH im tl, cz I A B C, L) (some (.int (-5)), (zSH im tl, cz I A B C, L)) ∧ ∀ J : zI, zEv X mt_X11_isUnbalanced 0 [.ref 39, .null, .null, .null, .null] [] (zSH im tl, va_up J 40 n, K) (some (.int 0), (zSH im tl, va_up J 40 n, K))) ∨ ∃ c, c < 4 ∧ zEv X mt_X0_findUnbalanced 0 [.ref 1, .ref 28, .null, .null, .null, .null] [] (zSH im tl, cz I A B C, L) (some (.int (nI c)), (zSH im tl, cz I A B C, L)) ∧ ∀ J : zI, zEv X mt_X11_isUnbalanced 0 [.ref 39, .null, .null, .null, .null] [] (zSH im tl, va_up J 40 n, K) (some (.int 1), (zSH im tl, va_up J 40 (upd (upd (upd n (1264 + nC) 1) (1270 + nC) (nI c)) 6 (nI (nC + 1))), K)) := by
  have key : ∀ (f c : Nat), c + f = 4 → (zEv X mt_X0_findUnbalanced 2 [.ref 1, .ref 28, .int (nI c), .null, .null, .null] [] (zSH im tl, cz I A B C, L) (some (.int (-5)), (zSH im tl, cz I A B C, L)) ∧ ∀ J : zI, zEv X mt_X11_isUnbalanced 2 [.ref 39, .int (nI c), .null, .null, .null] [] (zSH im tl, va_up J 40 n, K) (some (.int 0), (zSH im tl, va_up J 40 n, K))) ∨ ∃ x, x < 4 ∧ zEv X mt_X0_findUnbalanced 2 [.ref 1, .ref 28, .int (nI c), .null, .null, .null] [] (zSH im tl, cz I A B C, L) (some (.int (nI x)), (zSH im tl, cz I A B C, L)) ∧ ∀ J : zI, zEv X mt_X11_isUnbalanced 2 [.ref 39, .int (nI c), .null, .null, .null] [] (zSH im tl, va_up J 40 n, K) (some (.int 1), (zSH im tl, va_up J 40 (upd (upd (upd n (1264 + nC) 1) (1270 + nC) (nI x)) 6 (nI (nC + 1))), K)) := by
    intro f
    induction f with
    | zero =>
      intro c hc
      have : c = 4 := by omega
      subst this
      exact Or.inl ⟨sg_X0_findUnbalancedd_2_0 _ (by decide), fun J => sg_X11_isUnbalanced_2_0 _ (by decide)⟩
    | succ f ih =>
      intro c hc
      by_cases e : sS (fun i => decide (I 4 (ac i) = nI c)) (I 30) k = 0
      · rcases ih (c + 1) (by omega) with ⟨q1, q2⟩ | ⟨x, hx, q1, q2⟩
        · rw [← nI_1 c] at q1 q2
          exact Or.inl ⟨c_unbd h30 hs (by omega) (fun _ => q1) (fun h => absurd e h), fun J => m_unb h30 hcu hs (by omega) (fun _ => q2 J) (fun h => absurd e h)⟩
        · rw [← nI_1 c] at q1 q2
          exact Or.inr ⟨x, hx, c_unbd h30 hs (by omega) (fun _ => q1) (fun h => absurd e h), fun J => m_unb h30 hcu hs (by omega) (fun _ => q2 J) (fun h => absurd e h)⟩
      · exact Or.inr ⟨c, by omega, c_unbd h30 hs (by omega) (fun h => absurd h e) (fun _ => rfl), fun J => m_unb h30 hcu hs (by omega) (fun h => absurd h e) (fun _ => ⟨1, _, m_causedAs hC (by omega) 1 (nI c), Or.inr rfl, rfl⟩)⟩
  rcases key 4 0 (by omega) with ⟨q1, q2⟩ | ⟨x, hx, q1, q2⟩
  · exact Or.inl ⟨sg_X0_findUnbalancedd_0_0 q1, fun J => sg_X11_isUnbalanced_0_0 (q2 J)⟩
  · exact Or.inr ⟨x, hx, sg_X0_findUnbalancedd_0_0 q1, fun J => sg_X11_isUnbalanced_0_0 (q2 J)⟩
theorem j_cand (hA : rA d I L (va_up J 40 n) K) (hJ : rJ d I (va_up J 40 n) K) (hD : RD d.day d.cl (I 1) (L 27) n (K 41)) (hC : RC nC A B C n) (h1 : nC ≤ 1) (hs : RS d.nA d.nP k ac (I 28) (I 29) (I 30) n (K 41)) : (2 ≤ k ∧ zEv X mt_X0_canBePosted 0 [.ref 1, .ref 28, .null] [] (zSH im tl, cz I A B C, L) (some (.int 1), (zSH im tl, cz I A B C, L)) ∧ ∀ J : zI, zEv X mt_X11_isHindered 0 [.ref 39] [] (zSH im tl, va_up J 40 n, K) (some (.int 0), (zSH im tl, va_up J 40 n, K))) ∨ ∃ nC' A' B' C' n', nC < nC' ∧ RC nC' A' B' C' n' ∧ (∀ x, x ≠ 6 → x < 1264 → n' x = n x) ∧ ((0 < nC → B' 0 = B 0) ∧ (nC = 0 → B' 0 = 1 ∨ B' 0 = 2 ∨ B' 0 = 4)) ∧ zEv X mt_X0_canBePosted 0 [.ref 1, .ref 28, .null] [] (zSH im tl, cz I A B C, L) (some (.int 0), (zSH im tl, cz I A' B' C', L)) ∧ ∀ J : zI, zEv X mt_X11_isHindered 0 [.ref 39] [] (zSH im tl, va_up J 40 n, K) (some (.int 1), (zSH im tl, va_up J 40 n', K)) := by
  have h30 := hA.n30
  have hs' := hs
  obtain ⟨h10, h600, hO, h3, h2p, hac, hx⟩ := hs
  have hO' : cz I A B C 28 0 = nI k := hO
  have e3 : ∀ J : zI, va_up J 40 n 40 3 = nI k := fun J => h3
  by_cases hk : 2 ≤ k
  · have cl2 : (2 : Int32) ≤ cz I A B C 28 0 := k_le (a := 2) rfl hO' hk (by omega)
    have ml2 : ∀ J : zI, (2 : Int32) ≤ va_up J 40 n 40 3 := fun J => k_le (a := 2) rfl (e3 J) hk (by omega)
    rcases j_unbd (X := X) (im := im) (tl := tl) (L := L) h30 (fun a ha => hA.cu a ha) hC h1 hs' with ⟨q1, q2⟩ | ⟨c, hc, q1, q2⟩
    · have hd1 := hD.d
      have hd2 := hD.c
      have dd : nI d.day / 100 = nI (d.day / 100) := pk_div (a := d.day) (d := 100) (by omega) (by omega) (by omega)
      have cc1 : cz I A B C 1 7 ≤ cz I A B C 1 6 / 100 := by
        rw [show cz I A B C 1 7 = nI d.cl from hD.bc, show cz I A B C 1 6 = nI d.day from hD.bd, dd]
        exact nI_le (by omega) (by omega)
      have mm1 : ∀ J : zI, va_up J 40 n 40 5 ≤ va_up J 40 n 40 4 / 100 := fun J => by
        rw [show va_up J 40 n 40 5 = nI d.cl from hD.mc, show va_up J 40 n 40 4 = nI d.day from hD.md, dd]
        exact nI_le (by omega) (by omega)
      rcases j_limd (X := X) (im := im) (tl := tl) hA hJ hD hC h1 hs' with ⟨r1, r2⟩ | ⟨nC', A', B', C', n', z, w1, w2, w3, w4, w5, w6, r1, r2⟩
      · exact Or.inl ⟨hk, sg_X0_canBePostedd_0_0 cl2 q1 (sg_X0_canBePostedd_27_0 _ rfl (sg_X0_isClosedOn_0_0 _ cc1) (sg_X0_canBePostedd_53_0 _ _ rfl r1 (sg_X0_canBePostedd_78_0 _ _ (Or.inr rfl)))), fun J => sg_X11_isHindered_0_0 (ml2 J) (q2 J) (sg_X11_isHindered_26_0 _ rfl (mm1 J) (r2 J) (sg_X11_isHindered_68_0 _ (Or.inl rfl)))⟩
      · have hz := w6 rfl
        subst hz
        exact Or.inr ⟨nC', A', B', C', n', w1, w2, w3, w4, sg_X0_canBePostedd_0_0 cl2 q1 (sg_X0_canBePostedd_27_0 _ rfl (sg_X0_isClosedOn_0_0 _ cc1) (sg_X0_canBePostedd_53_0 _ _ rfl r1 (sg_X0_canBePostedd_78_0 _ _ (Or.inl rfl)))), fun J => sg_X11_isHindered_0_0 (ml2 J) (q2 J) (sg_X11_isHindered_26_0 _ rfl (mm1 J) (r2 J) (sg_X11_isHindered_68_0 _ (Or.inr rfl)))⟩
    · refine Or.inr ⟨_, _, _, _, _, Nat.lt_succ_self _, rc_add hC (by omega) 1 (nI c), fun x x1 x2 => ?_, ⟨fun h => pk_un (by omega), fun h => Or.inl (by rw [h]; exact pk_us)⟩, sg_X0_canBePostedd_0_0 cl2 q1 (sg_X0_canBePostedd_27_1 _ (n5 (by omega)) (c_addCause hC (by omega) 1 (nI c)) (sg_X0_canBePostedd_43_0 _)), fun J => sg_X11_isHindered_0_0 (ml2 J) (q2 J) (sg_X11_isHindered_26_2 _ (by decide))⟩
      rw [pk_un x1, pk_un (by omega), pk_un (by omega)]
  · refine Or.inr ⟨_, _, _, _, _, Nat.lt_succ_self _, rc_add hC (by omega) 2 (nI k), fun x x1 x2 => ?_, ⟨fun h => pk_un (by omega), fun h => Or.inr (Or.inl (by rw [h]; exact pk_us))⟩, sg_X0_canBePostedd_0_1 (k_nle (a := 2) rfl hO' (by omega) (by omega)) (by rw [hO']; exact c_addCause hC (by omega) 2 (nI k)) sg_X0_canBePostedd_20_0, fun J => sg_X11_isHindered_0_1 (k_nle (a := 2) rfl (e3 J) (by omega) (by omega)) (by rw [e3]; exact m_causedAs hC (by omega) 2 (nI k)) (sg_X11_isHindered_21_0 _ (Or.inr rfl))⟩
    rw [pk_un x1, pk_un (by omega), pk_un (by omega)]
end HKd
