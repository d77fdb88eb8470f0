section CP
variable {X : zSc} {im : Option Nat} {tl : List zS} {I J : zI} {L K : zL} {d : zD} {W O S T : Nat → Int32} {H : Nat → Nat} {nA tn k p : Nat} {rv : Int32} {acc : List (Nat × Int32)}
/-- the class's memory after one more letter -/
theorem cM_inc (I : zI) (W O S T : Nat → Int32) (tn k : Nat) (rv : Int32) (p : Nat) : va_up (cM I (tz W tn k rv p) O S T) 31 (upd (cM I (tz W tn k rv p) O S T 31) 3 (cM I (tz W tn k rv p) O S T 31 3 + 1)) = cM I (tz W tn k rv (p + 1)) O S T := by
  rw [show cM I (tz W tn k rv p) O S T 31 3 = nI p from rfl, show cM I (tz W tn k rv p) O S T 31 = tz W tn k rv p from rfl, nI_1, tz_3, cM_31]
/-- behind the amount's figures -/
theorem c_102l {a m p3 p4 : Nat} {b : Int32} (hp3 : p3 < 2 ^ 31) (hp4 : p4 < 2 ^ 31) (hm : m < 2 ^ 31) (h : p4 = p3 ∨ (m < 1 ∨ 1000000 < m)) : zEv X mt_X9_takePart 102 [.ref 31, .ref 2, .ref 28, .int (nI p3), .int (nI a), .int b, .null] [.int (nI m)] (zSH im tl, cM I (tz W tn k rv p4) O S T, L) (some (.int (nI p3)), (zSH im tl, cM I (tz W tn k rv p4) O S T, L)) := by
  have e3 : cM I (tz W tn k rv p4) O S T 31 3 = nI p4 := rfl
  by_cases he : p4 = p3
  · refine ev_r (sg_X9_takePart_102_0 _ _ _ _ (by rw [e3, he])) ?_
    rw [e3, he]
  · have ne : ¬ cM I (tz W tn k rv p4) O S T 31 3 = nI p3 := k_ne e3 rfl he hp4 hp3
    rcases h.resolve_left he with h | h
    · exact sg_X9_takePart_102_1 _ _ _ _ ne (nI_lt (b := 1) h (by omega))
    · exact sg_X9_takePart_102_4 _ _ _ _ ne (nI_nlt (b := 1) (by omega) hm) (nI_ge (a := 1000000) h hm)
theorem c_102r {a m p3 p4 : Nat} (neg : Bool) (hp3 : p3 < 2 ^ 31) (hp4 : p4 < 2 ^ 31) (h1 : p4 ≠ p3) (h2 : 1 ≤ m) (h3 : m ≤ 1000000) (hd : dP acc O S T) : ∃ O' S' T', dP (acc ++ [(a, sgn neg m)]) O' S' T' ∧ zEv X mt_X9_takePart 102 [.ref 31, .ref 2, .ref 28, .int (nI p3), .int (nI a), .int (if neg = true then 1 else 0), .null] [.int (nI m)] (zSH im tl, cM I (tz W tn k rv p4) O S T, L) (some (.int (-1)), (zSH im tl, cM I (tz W tn (k + 1) rv p4) O' S' T', L)) := by
  have e3 : cM I (tz W tn k rv p4) O S T 31 3 = nI p4 := rfl
  have ne : ¬ cM I (tz W tn k rv p4) O S T 31 3 = nI p3 := k_ne e3 rfl h1 hp4 hp3
  obtain ⟨O', S', T', q1, q2⟩ := c_dadd (X := X) (im := im) (tl := tl) (I := I) (L := L) hd (tz W tn k rv p4) a (sgn neg m)
  refine ⟨O', S', T', q1, ?_⟩
  have fin : zEv X mt_X9_takePart 151 [.ref 31, .ref 2, .ref 28, .int (nI p3), .int (nI a), .int (if neg = true then 1 else 0), .int (nI m)] [] (zSH im tl, cM I (tz W tn k rv p4) O' S' T', L) (some (.int (-1)), (zSH im tl, cM I (tz W tn (k + 1) rv p4) O' S' T', L)) := by
    refine ev_r (sg_X9_takePart_151_0 _ _ _ _) ?_
    rw [show cM I (tz W tn k rv p4) O' S' T' 31 1 = nI k from rfl, show cM I (tz W tn k rv p4) O' S' T' 31 = tz W tn k rv p4 from rfl, nI_1, tz_1, cM_31]
  cases neg with
  | false => exact sg_X9_takePart_102_2 _ _ _ _ ne (nI_nlt (b := 1) h2 (by omega)) (nI_le (b := 1000000) h3 (by omega)) rfl q2 fin
  | true => exact sg_X9_takePart_102_3 _ _ _ _ ne (nI_nlt (b := 1) h2 (by omega)) (nI_le (b := 1000000) h3 (by omega)) (by decide) q2 fin
theorem c_tp (h : hh H tn) (hI : ∀ k, k < tn → I 32 k = nI (H k)) (hA : I 2 0 = nI nA) (h30 : nA ≤ 30) (hp : p ≤ tn) (hd : dP acc O S T) : match tp H nA p with
    | .inl q => ∃ p', zEv X mt_X9_takePart 0 [.ref 31, .ref 2, .ref 28, .null, .null, .null, .null] [] (zSH im tl, cM I (tz W tn k rv p) O S T, L) (some (.int (nI q)), (zSH im tl, cM I (tz W tn k rv p') O S T, L))
    | .inr (a, neg, m, p') => ∃ O' S' T', dP (acc ++ [(a, sgn neg m)]) O' S' T' ∧ zEv X mt_X9_takePart 0 [.ref 31, .ref 2, .ref 28, .null, .null, .null, .null] [] (zSH im tl, cM I (tz W tn k rv p) O S T, L) (some (.int (-1)), (zSH im tl, cM I (tz W tn (k + 1) rv p') O' S' T', L)) := by
  have h90 := h.1
  have f1 := fg_le H 2 p 0
  have f2 := fg_tn h 2 p 0 hp
  have f3 := fg_val H 2 p 0 0 (by decide)
  rw [show 10 ^ (0 + 2) = 100 by decide] at f3
  have st : ∀ {r}, zEv X mt_X9_takePart 10 [.ref 31, .ref 2, .ref 28, .int (nI p), .null, .null, .null] [.int (nI (fg H 2 p 0).1)] (zSH im tl, cM I (tz W tn k rv (fg H 2 p 0).2) O S T, L) r → zEv X mt_X9_takePart 0 [.ref 31, .ref 2, .ref 28, .null, .null, .null, .null] [] (zSH im tl, cM I (tz W tn k rv p) O S T, L) r := fun q => sg_X9_takePart_0_0 (c_fig (m := 2) h hI (by omega) hp) q
  unfold tp
  by_cases c1 : (fg H 2 p 0).2 = p
  · rw [if_pos c1]
    refine ⟨(fg H 2 p 0).2, st (ev_r (sg_X9_takePart_10_0 _ _ (show nI (fg H 2 p 0).2 = nI p by rw [c1])) ?_)⟩
    rw [show cM I (tz W tn k rv (fg H 2 p 0).2) O S T 31 3 = nI (fg H 2 p 0).2 from rfl, c1]
  · rw [if_neg c1]
    have n1 : ¬ cM I (tz W tn k rv (fg H 2 p 0).2) O S T 31 3 = nI p := k_ne (a := (fg H 2 p 0).2) (b := p) rfl rfl c1 (by omega) (by omega)
    by_cases c2 : (fg H 2 p 0).1 < nA
    · rw [if_neg (fun q => q c2)]
      have hh1 := cv_has1 (X := X) (im := im) (tl := tl) (I := cM I (tz W tn k rv (fg H 2 p 0).2) O S T) (L := L) (nA := nA) hA c2 h30
      by_cases c3 : H (fg H 2 p 0).2 = 32
      · rw [if_neg (fun q => q c3)]
        have l1 := hh_lt h (p := (fg H 2 p 0).2) (by omega)
        generalize hp1 : (fg H 2 p 0).2 = p1 at *
        generalize ha : (fg H 2 p 0).1 = a at *
        have ch := c_here (X := X) (im := im) (tl := tl) (L := L) (W := W) (O := O) (S := S) (T := T) (k := k) (rv := rv) h hI (p := p1 + 1) (by omega)
        rw [← cM_inc] at ch
        have st2 : ∀ {r}, zEv X mt_X9_takePart 64 [.ref 31, .ref 2, .ref 28, .int (nI p), .int (nI a), .null, .null] [.int (nI (H (p1 + 1)))] (zSH im tl, cM I (tz W tn k rv (p1 + 1)) O S T, L) r → zEv X mt_X9_takePart 0 [.ref 31, .ref 2, .ref 28, .null, .null, .null, .null] [] (zSH im tl, cM I (tz W tn k rv p) O S T, L) r := by
          intro r q
          rw [← cM_inc] at q
          exact st (sg_X9_takePart_10_1 _ _ n1 hh1 (sg_X9_takePart_31_1 _ _ _ (by decide) (c_here h hI (by omega)) (sg_X9_takePart_40_0 _ _ _ (by rw [c3]; rfl) ch q)))
        by_cases c4 : H (p1 + 1) = 45
        · rw [if_pos c4]
          have l2 := hh_lt h (p := p1 + 1) (by omega)
          have g1 := fg_le H 7 (p1 + 2) 0
          have g2 := fg_tn h 7 (p1 + 2) 0 (by omega)
          have g3 := fg_val H 7 (p1 + 2) 0 0 (by decide)
          rw [show 10 ^ (0 + 7) = 10000000 by decide] at g3
          have cf := c_fig (X := X) (im := im) (tl := tl) (L := L) (W := W) (O := O) (S := S) (T := T) (k := k) (rv := rv) (m := 7) h hI (by omega) (p := p1 + 2) (by omega)
          rw [show p1 + 2 = p1 + 1 + 1 by omega] at cf
          rw [← cM_inc] at cf
          have st3 : ∀ {r}, zEv X mt_X9_takePart 102 [.ref 31, .ref 2, .ref 28, .int (nI (p1 + 2)), .int (nI a), .int 1, .null] [.int (nI (fg H 7 (p1 + 2) 0).1)] (zSH im tl, cM I (tz W tn k rv (fg H 7 (p1 + 2) 0).2) O S T, L) r → zEv X mt_X9_takePart 0 [.ref 31, .ref 2, .ref 28, .null, .null, .null, .null] [] (zSH im tl, cM I (tz W tn k rv p) O S T, L) r := by
            intro r q
            refine st2 (sg_X9_takePart_64_0 _ _ _ (by rw [c4]; rfl) cf ?_)
            rw [show cM I (tz W tn k rv (p1 + 1)) O S T 31 3 = nI (p1 + 1) from rfl, nI_1]
            exact q
          by_cases c5 : (fg H 7 (p1 + 2) 0).2 = p1 + 2
          · rw [if_pos c5]
            exact ⟨_, st3 (c_102l (by omega) (by omega) (by omega) (Or.inl c5))⟩
          · rw [if_neg c5]
            by_cases c6 : (fg H 7 (p1 + 2) 0).1 < 1 ∨ 1000000 < (fg H 7 (p1 + 2) 0).1
            · rw [if_pos c6]
              exact ⟨_, st3 (c_102l (by omega) (by omega) (by omega) (Or.inr c6))⟩
            · rw [if_neg c6]
              obtain ⟨O', S', T', q1, q2⟩ := c_102r (X := X) (im := im) (tl := tl) (I := I) (L := L) (W := W) (tn := tn) (k := k) (rv := rv) (a := a) (m := (fg H 7 (p1 + 2) 0).1) (p3 := p1 + 2) (p4 := (fg H 7 (p1 + 2) 0).2) true (by omega) (by omega) c5 (by omega) (by omega) hd
              exact ⟨O', S', T', q1, st3 q2⟩
        · rw [if_neg c4]
          have g1 := fg_le H 7 (p1 + 1) 0
          have g2 := fg_tn h 7 (p1 + 1) 0 (by omega)
          have g3 := fg_val H 7 (p1 + 1) 0 0 (by decide)
          rw [show 10 ^ (0 + 7) = 10000000 by decide] at g3
          have hH : H (p1 + 1) ≤ 127 := by
            rcases Nat.lt_or_ge (p1 + 1) tn with q | q
            · exact (h.2.1 _ q).2
            · rw [h.2.2 _ q]; omega
          have st3 : ∀ {r}, zEv X mt_X9_takePart 102 [.ref 31, .ref 2, .ref 28, .int (nI (p1 + 1)), .int (nI a), .int 0, .null] [.int (nI (fg H 7 (p1 + 1) 0).1)] (zSH im tl, cM I (tz W tn k rv (fg H 7 (p1 + 1) 0).2) O S T, L) r → zEv X mt_X9_takePart 0 [.ref 31, .ref 2, .ref 28, .null, .null, .null, .null] [] (zSH im tl, cM I (tz W tn k rv p) O S T, L) r := by
            intro r q
            exact st2 (sg_X9_takePart_64_1 _ _ _ (k_ne (b := 45) rfl rfl c4 (by omega) (by omega)) (c_fig (m := 7) h hI (by omega) (by omega)) q)
          by_cases c5 : (fg H 7 (p1 + 1) 0).2 = p1 + 1
          · rw [if_pos c5]
            exact ⟨_, st3 (c_102l (by omega) (by omega) (by omega) (Or.inl c5))⟩
          · rw [if_neg c5]
            by_cases c6 : (fg H 7 (p1 + 1) 0).1 < 1 ∨ 1000000 < (fg H 7 (p1 + 1) 0).1
            · rw [if_pos c6]
              exact ⟨_, st3 (c_102l (by omega) (by omega) (by omega) (Or.inr c6))⟩
            · rw [if_neg c6]
              obtain ⟨O', S', T', q1, q2⟩ := c_102r (X := X) (im := im) (tl := tl) (I := I) (L := L) (W := W) (tn := tn) (k := k) (rv := rv) (a := a) (m := (fg H 7 (p1 + 1) 0).1) (p3 := p1 + 1) (p4 := (fg H 7 (p1 + 1) 0).2) false (by omega) (by omega) c5 (by omega) (by omega) hd
              exact ⟨O', S', T', q1, st3 q2⟩
      · rw [if_pos c3]
        have hH : H (fg H 2 p 0).2 ≤ 127 := by
          rcases Nat.lt_or_ge (fg H 2 p 0).2 tn with q | q
          · exact (h.2.1 _ q).2
          · rw [h.2.2 _ q]; omega
        exact ⟨_, st (sg_X9_takePart_10_1 _ _ n1 hh1 (sg_X9_takePart_31_1 _ _ _ (by decide) (c_here h hI f2) (sg_X9_takePart_40_1 _ _ _ (k_ne (b := 32) rfl rfl c3 (by omega) (by omega)))))⟩
    · rw [if_pos c2]
      have hh0 := cv_has0 (X := X) (im := im) (tl := tl) (I := cM I (tz W tn k rv (fg H 2 p 0).2) O S T) (L := L) (nA := nA) (a := nI (fg H 2 p 0).1) hA (Or.inr (nI_le (by omega) (by omega)))
      exact ⟨_, st (sg_X9_takePart_10_1 _ _ n1 hh0 (sg_X9_takePart_31_0 _ _ _ rfl))⟩
theorem c_tr (h : hh H tn) (hI : ∀ k, k < tn → I 32 k = nI (H k)) (hp : p < tn) (h32 : H p = 32) : match tr H tn p with
    | .inl q => ∃ p', zEv X mt_X9_takeReversed 0 [.ref 31, .null, .null] [] (zSH im tl, cM I (tz W tn k rv p) O S T, L) (some (.int (nI q)), (zSH im tl, cM I (tz W tn k rv p') O S T, L))
    | .inr r => ∃ p', zEv X mt_X9_takeReversed 0 [.ref 31, .null, .null] [] (zSH im tl, cM I (tz W tn k rv p) O S T, L) (some (.int (-1)), (zSH im tl, cM I (tz W tn k (nI r) p') O S T, L)) := by
  have h90 := h.1
  have hH : ∀ q, H q ≤ 127 := by
    intro q
    rcases Nat.lt_or_ge q tn with l | l
    · exact (h.2.1 _ l).2
    · rw [h.2.2 _ l]; omega
  -- one letter of the mark
  have st : ∀ (i q c : Nat) {r}, i < 4 → q ≤ tn → zch i = nI c → H q = c → zEv X mt_X9_takeReversed 2 [.ref 31, .int (nI (i + 1)), .null] [] (zSH im tl, cM I (tz W tn k rv (q + 1)) O S T, L) r → zEv X mt_X9_takeReversed 2 [.ref 31, .int (nI i), .null] [] (zSH im tl, cM I (tz W tn k rv q) O S T, L) r := by
    intro i q c r hi hq hc hHq kk
    refine sg_X9_takeReversed_2_1 _ (k_nle (a := 4) rfl rfl hi (by omega)) (c_here h hI hq) (sg_X9_takeReversed_15_0 _ _ (k_in rfl hi (by omega)) (by rw [kc (by omega), hc, hHq]) ?_)
    rw [cM_inc, nI_1]
    exact kk
  have sf : ∀ (i q c : Nat), i < 4 → q ≤ tn → zch i = nI c → c < 128 → ¬ H q = c → zEv X mt_X9_takeReversed 2 [.ref 31, .int (nI i), .null] [] (zSH im tl, cM I (tz W tn k rv q) O S T, L) (some (.int (nI q)), (zSH im tl, cM I (tz W tn k rv q) O S T, L)) := by
    intro i q c hi hq hc hc2 hHq
    have := hH q
    exact sg_X9_takeReversed_2_1 _ (k_nle (a := 4) rfl rfl hi (by omega)) (c_here h hI hq) (sg_X9_takeReversed_15_1 _ _ (k_in rfl hi (by omega)) (by rw [kc (by omega), hc]; exact k_ne rfl rfl hHq (by omega) (by omega)))
  have s0 : ∀ {r}, zEv X mt_X9_takeReversed 2 [.ref 31, .int (nI 1), .null] [] (zSH im tl, cM I (tz W tn k rv (p + 1)) O S T, L) r → zEv X mt_X9_takeReversed 0 [.ref 31, .null, .null] [] (zSH im tl, cM I (tz W tn k rv p) O S T, L) r := fun q => sg_X9_takeReversed_0_0 (st 0 p 32 (by omega) (by omega) rfl h32 q)
  unfold tr
  by_cases c1 : H (p + 1) = 82
  · rw [if_neg (fun q => q c1)]
    have l1 := hh_lt h (p := p + 1) (by omega)
    by_cases c2 : H (p + 2) = 69
    · rw [if_neg (fun q => q c2)]
      have l2 := hh_lt h (p := p + 2) (by omega)
      by_cases c3 : H (p + 3) = 86
      · rw [if_neg (fun q => q c3)]
        have l3 := hh_lt h (p := p + 3) (by omega)
        have g1 := fg_le H 2 (p + 4) 0
        have g2 := fg_tn h 2 (p + 4) 0 (by omega)
        have s4 : ∀ {r}, zEv X mt_X9_takeReversed 55 [.ref 31, .int (nI (p + 4)), .null] [.int (nI (fg H 2 (p + 4) 0).1)] (zSH im tl, cM I (tz W tn k rv (fg H 2 (p + 4) 0).2) O S T, L) r → zEv X mt_X9_takeReversed 0 [.ref 31, .null, .null] [] (zSH im tl, cM I (tz W tn k rv p) O S T, L) r := fun q => s0 (st 1 (p + 1) 82 (by omega) (by omega) rfl c1 (st 2 (p + 2) 69 (by omega) (by omega) rfl c2 (st 3 (p + 3) 86 (by omega) (by omega) rfl c3 (sg_X9_takeReversed_2_0 _ (by decide) (c_fig (m := 2) h hI (by omega) (by omega)) q))))
        have e3 : cM I (tz W tn k rv (fg H 2 (p + 4) 0).2) O S T 31 3 = nI (fg H 2 (p + 4) 0).2 := rfl
        have e0 : cM I (tz W tn k rv (fg H 2 (p + 4) 0).2) O S T 31 0 = nI tn := rfl
        by_cases c4 : (fg H 2 (p + 4) 0).2 = p + 4
        · rw [if_pos c4]
          refine ⟨(fg H 2 (p + 4) 0).2, s4 (ev_r (sg_X9_takeReversed_55_0 _ _ (by rw [e3, c4])) ?_)⟩
          rw [e3, c4]
        · rw [if_neg c4]
          have n4 : ¬ cM I (tz W tn k rv (fg H 2 (p + 4) 0).2) O S T 31 3 = nI (p + 4) := k_ne e3 rfl c4 (by omega) (by omega)
          by_cases c5 : (fg H 2 (p + 4) 0).2 < tn
          · rw [if_pos c5]
            exact ⟨_, s4 (sg_X9_takeReversed_55_2 _ _ n4 (by rw [e3, e0]; exact nI_ge c5 (by omega)))⟩
          · rw [if_neg c5]
            refine ⟨(fg H 2 (p + 4) 0).2, s4 (ev_r (sg_X9_takeReversed_55_1 _ _ n4 (by rw [e3, e0]; exact nI_le (by omega) (by omega))) ?_)⟩
            rw [show cM I (tz W tn k rv (fg H 2 (p + 4) 0).2) O S T 31 = tz W tn k rv (fg H 2 (p + 4) 0).2 from rfl, tz_2, cM_31]
      · rw [if_pos c3]
        exact ⟨_, s0 (st 1 (p + 1) 82 (by omega) (by omega) rfl c1 (st 2 (p + 2) 69 (by omega) (by omega) rfl c2 (sf 3 (p + 3) 86 (by omega) (by omega) rfl (by omega) c3)))⟩
    · rw [if_pos c2]
      exact ⟨_, s0 (st 1 (p + 1) 82 (by omega) (by omega) rfl c1 (sf 2 (p + 2) 69 (by omega) (by omega) rfl (by omega) c2))⟩
  · rw [if_pos c1]
    exact ⟨_, s0 (sf 1 (p + 1) 82 (by omega) (by omega) rfl (by omega) c1)⟩
/-- what the class tells of a text -/
def cOut (o : Nat ⊕ (List (Nat × Int32) × Option Nat)) (v : Int32) (k : Nat) (rv : Int32) (O S T : Nat → Int32) : Prop := match o with
  | .inl q => v = nI q
  | .inr (acc, r) => v = -1 ∧ k = acc.length ∧ rv = (match r with | none => -5 | some r => nI r) ∧ dP acc O S T
theorem c_pz (h : hh H tn) (hI : ∀ k, k < tn → I 32 k = nI (H k)) (hA : I 2 0 = nI nA) (h30 : nA ≤ 30) : ∀ (f i p : Nat) (acc : List (Nat × Int32)) (O S T : Nat → Int32), i + f = 91 → acc.length = i → 4 * i ≤ p → p ≤ tn → dP acc O S T → ∃ v k' rv' p' O' S' T', cOut (pz H nA tn f p acc) v k' rv' O' S' T' ∧ zEv X mt_X9_parse 23 [.ref 31, .ref 2, .ref 28, .int (nI i), .null] [] (zSH im tl, cM I (tz W tn acc.length (-5) p) O S T, L) (some (.int v), (zSH im tl, cM I (tz W tn k' rv' p') O' S' T', L)) := by
  have h90 := h.1
  intro f
  induction f with
  | zero => intro i p acc O S T hi hai hp hp2; omega
  | succ f ih =>
    intro i p acc O S T hi hai hp hp2 hd
    have n90 : ¬ (90 : Int32) < nI i := k_nlt (a := 90) rfl rfl (by omega) (by omega)
    have ht := c_tp (X := X) (im := im) (tl := tl) (L := L) (W := W) (k := acc.length) (rv := -5) h hI hA h30 hp2 hd
    rw [pz]
    cases he : tp H nA p with
    | inl q =>
      rw [he] at ht
      obtain ⟨p', ht⟩ := ht
      have hq := tp_l h hp2 he
      exact ⟨nI q, acc.length, -5, p', O, S, T, rfl, sg_X9_parse_23_1 _ n90 ht (sg_X9_parse_35_3 _ _ (fun e => absurd (e ▸ (by decide : (-1 : Int32) < 0) : nI q < 0) (nI_pos (by omega))))⟩
    | inr x =>
      obtain ⟨a, neg, m, p'⟩ := x
      rw [he] at ht
      obtain ⟨O', S', T', hd', ht⟩ := ht
      obtain ⟨t1, t2, t3, t4, t5⟩ := tp_r h hp2 he
      dsimp only
      have hl : (acc ++ [(a, sgn neg m)]).length = acc.length + 1 := by rw [List.length_append, List.length_singleton]
      rw [← hl] at ht
      have e3 : cM I (tz W tn (acc ++ [(a, sgn neg m)]).length (-5) p') O' S' T' 31 3 = nI p' := rfl
      have e0 : cM I (tz W tn (acc ++ [(a, sgn neg m)]).length (-5) p') O' S' T' 31 0 = nI tn := rfl
      have e1 : cM I (tz W tn (acc ++ [(a, sgn neg m)]).length (-5) p') O' S' T' 31 1 = nI (acc ++ [(a, sgn neg m)]).length := rfl
      have hH : H p' ≤ 127 := by
        rcases Nat.lt_or_ge p' tn with l | l
        · exact (h.2.1 _ l).2
        · rw [h.2.2 _ l]; omega
      -- after the part, with more text
      have s2 : ∀ {r}, p' < tn → zEv X mt_X9_parse 78 [.ref 31, .ref 2, .ref 28, .int (nI i), .int (-1)] [.int (nI (H p'))] (zSH im tl, cM I (tz W tn (acc ++ [(a, sgn neg m)]).length (-5) p') O' S' T', L) r → zEv X mt_X9_parse 23 [.ref 31, .ref 2, .ref 28, .int (nI i), .null] [] (zSH im tl, cM I (tz W tn acc.length (-5) p) O S T, L) r := fun hlt q => sg_X9_parse_23_1 _ n90 ht (sg_X9_parse_35_0 _ _ rfl (by rw [e3, e0]; exact nI_lt hlt (by omega)) (c_here h hI t5) q)
      by_cases c1 : H p' = 59
      · rw [if_pos c1]
        have l1 := hh_lt h (p := p') (by omega)
        obtain ⟨v, k', rv', p2, O2, S2, T2, w1, w2⟩ := ih (i + 1) (p' + 1) (acc ++ [(a, sgn neg m)]) O' S' T' (by omega) (by omega) (by omega) (by omega) hd'
        refine ⟨v, k', rv', p2, O2, S2, T2, w1, s2 l1 (sg_X9_parse_78_2 _ _ _ (by rw [c1]; decide) (c_here h hI t5) (sg_X9_parse_100_0 _ _ _ (by rw [c1]; rfl) ?_))⟩
        rw [cM_inc, nI_1]
        exact w2
      · rw [if_neg c1]
        by_cases c2 : tn ≤ p'
        · rw [if_pos c2]
          have hp' : ¬ cM I (tz W tn (acc ++ [(a, sgn neg m)]).length (-5) p') O' S' T' 31 3 < cM I (tz W tn (acc ++ [(a, sgn neg m)]).length (-5) p') O' S' T' 31 0 := by rw [e3, e0]; exact nI_nlt c2 (by omega)
          by_cases c3 : 2 ≤ (acc ++ [(a, sgn neg m)]).length
          · rw [if_pos c3]
            refine ⟨-1, (acc ++ [(a, sgn neg m)]).length, -5, p', O', S', T', ⟨rfl, rfl, rfl, hd'⟩, sg_X9_parse_23_1 _ n90 ht (sg_X9_parse_35_2 _ _ rfl hp' ?_)⟩
            rw [e1]
            exact nI_nlt (b := 2) c3 (by omega)
          · rw [if_neg c3]
            refine ⟨nI tn, (acc ++ [(a, sgn neg m)]).length, -5, p', O', S', T', rfl, sg_X9_parse_23_1 _ n90 ht (sg_X9_parse_35_1 _ _ rfl hp' ?_)⟩
            rw [e1]
            exact nI_lt (b := 2) (by omega) (by omega)
        · rw [if_neg c2]
          by_cases c3 : H p' = 32 ∧ 2 ≤ (acc ++ [(a, sgn neg m)]).length
          · rw [if_pos c3]
            have hr := c_tr (X := X) (im := im) (tl := tl) (L := L) (W := W) (O := O') (S := S') (T := T') (k := (acc ++ [(a, sgn neg m)]).length) (rv := -5) h hI (p := p') (by omega) c3.1
            have n2 : ¬ cM I (tz W tn (acc ++ [(a, sgn neg m)]).length (-5) p') O' S' T' 31 1 < 2 := by rw [e1]; exact nI_nlt (b := 2) c3.2 (by omega)
            cases he2 : tr H tn p' with
            | inl q =>
              rw [he2] at hr
              obtain ⟨p2, hr⟩ := hr
              exact ⟨nI q, _, _, p2, O', S', T', rfl, s2 (by omega) (sg_X9_parse_78_1 _ _ _ (by rw [c3.1]; rfl) n2 hr (sg_X9_parse_95_0 _ _ _))⟩
            | inr r =>
              rw [he2] at hr
              obtain ⟨p2, hr⟩ := hr
              exact ⟨-1, _, _, p2, O', S', T', ⟨rfl, rfl, rfl, hd'⟩, s2 (by omega) (sg_X9_parse_78_1 _ _ _ (by rw [c3.1]; rfl) n2 hr (sg_X9_parse_95_0 _ _ _))⟩
          · rw [if_neg c3]
            have n59 : ¬ nI (H p') = 59 := k_ne (b := 59) rfl rfl c1 (by omega) (by omega)
            refine ⟨nI p', (acc ++ [(a, sgn neg m)]).length, -5, p', O', S', T', rfl, s2 (by omega) ?_⟩
            by_cases c4 : H p' = 32
            · exact sg_X9_parse_78_0 _ _ _ (by rw [c4]; rfl) (by rw [e1]; exact nI_lt (b := 2) (by omega) (by omega)) (c_here h hI t5) (sg_X9_parse_100_1 _ _ _ n59)
            · exact sg_X9_parse_78_2 _ _ _ (k_ne (b := 32) rfl rfl c4 (by omega) (by omega)) (c_here h hI t5) (sg_X9_parse_100_1 _ _ _ n59)
theorem c_parse (h : hh H tn) (hI : ∀ k, k < tn → I 32 k = nI (H k)) (hA : I 2 0 = nI nA) (h30 : nA ≤ 30) (hT : I 31 0 = nI tn) : ∃ v k' rv' p' O' S' T', cOut (pz H nA tn 91 0 []) v k' rv' O' S' T' ∧ zEv X mt_X9_parse 0 [.ref 31, .ref 2, .ref 28, .null, .null] [] (zSH im tl, I, L) (some (.int v), (zSH im tl, cM I (tz (I 31) tn k' rv' p') O' S' T', L)) := by
  obtain ⟨v, k', rv', p', O', S', T', w1, w2⟩ := c_pz (X := X) (im := im) (tl := tl) (L := L) (W := I 31) h hI hA h30 91 0 0 [] (upd (I 28) 0 0) (I 29) (I 30) rfl rfl (by omega) (by omega) ⟨rfl, fun i hi => by cases hi⟩
  refine ⟨v, k', rv', p', O', S', T', w1, sg_X9_parse_0_0 ?_⟩
  have e : va_up (va_up (va_up (va_up I 31 (upd (I 31) 3 0)) 31 (upd (upd (I 31) 3 0) 1 0)) 31 (upd (upd (upd (I 31) 3 0) 1 0) 2 (-5))) 28 (upd (I 28) 0 0) = cM I (tz (I 31) tn 0 (-5) 0) (upd (I 28) 0 0) (I 29) (I 30) := by
    rw [va_up2, va_up2]
    have e1 : upd (upd (upd (I 31) 3 0) 1 0) 2 (-5) = tz (I 31) tn 0 (-5) 0 := by
      funext x
      show (if x = 2 then (-5 : Int32) else if x = 1 then 0 else if x = 3 then 0 else I 31 x) = (if x = 3 then nI 0 else if x = 2 then -5 else if x = 1 then nI 0 else if x = 0 then nI tn else I 31 x)
      by_cases x0 : x = 0
      · subst x0; exact hT
      · rw [if_neg x0]
        by_cases x1 : x = 1
        · subst x1; rfl
        · by_cases x2 : x = 2
          · subst x2; rfl
          · by_cases x3 : x = 3
            · subst x3; rfl
            · simp only [if_neg x1, if_neg x2, if_neg x3]
    rw [e1]
    have e2 := dz_28 (va_up I 31 (tz (I 31) tn 0 (-5) 0)) (I 28) (I 29) (I 30) (upd (I 28) 0 0)
    have e3 := dz_id (va_up I 31 (tz (I 31) tn 0 (-5) 0))
    rw [show dz (va_up I 31 (tz (I 31) tn 0 (-5) 0)) (I 28) (I 29) (I 30) = va_up I 31 (tz (I 31) tn 0 (-5) 0) from e3] at e2
    exact e2
  rw [e]
  exact w2
end CP
