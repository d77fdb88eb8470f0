section OV
variable {X : zSc} {im : Option Nat} {tl : List zS} {I J : zI} {L K : zL} {d : zD}
theorem op_value (hR : rAll d im tl I L) (a t p : Int32) : zOpL X im tl I L mt_X10_value mt_X11_value [.ref 0, .int a, .int t, .int p] [.ref 39, .int a, .int t, .int p] := by
  have hA := hR.1.ra
  rcases k_ix a d.nA (by have := hA.n30; omega) with h | ⟨a, ha, rfl⟩
  · exact op_roL hR _ (sg_X10_value_0_0 _ _ _ (cv_has0 hA.c h) (sg_X10_value_11_0 _ _ _ _ rfl)) (sg_X11_value_0_0 _ _ _ (mo_isAccount0 hA.m hA.n1 hA.n30 h) (sg_X11_value_5_0 _ _ _ _ rfl))
  · rcases k_ix t 1000 (by omega) with h | ⟨t, ht, rfl⟩
    · exact op_roL hR _ (sg_X10_value_0_0 _ _ _ (cv_has1 hA.c ha hA.n30) (sg_X10_value_11_1 _ _ _ _ (by decide) (c_isDay0 h) (sg_X10_value_18_0 _ _ _ _ rfl))) (sg_X11_value_0_0 _ _ _ (mo_isAccount1 hA.m ha hA.n30) (sg_X11_value_5_1 _ _ _ _ (by decide) (mo_isDay0 h) (sg_X11_value_12_0 _ _ _ _ rfl)))
    · rcases k_ix p 2 (by omega) with h | ⟨p, hp, rfl⟩
      · exact op_roL hR _ (sg_X10_value_0_0 _ _ _ (cv_has1 hA.c ha hA.n30) (sg_X10_value_11_1 _ _ _ _ (by decide) (c_isDay1 ht) (sg_X10_value_18_1 _ _ _ _ (by decide) (c_isOneOfTwo0 h) (sg_X10_value_25_0 _ _ _ _ rfl)))) (sg_X11_value_0_0 _ _ _ (mo_isAccount1 hA.m ha hA.n30) (sg_X11_value_5_1 _ _ _ _ (by decide) (mo_isDay1 ht) (sg_X11_value_12_1 _ _ _ _ (by decide) (m_in2_0 h) (sg_X11_value_21_0 _ _ _ _ rfl))))
      · obtain ⟨x, y, -, -, -, -, -, -, -, q1, q2⟩ := j_value (X := X) (im := im) (tl := tl) hA hR.1.rj hR.1.rd.d hR.1.rr ha (nI t)
        refine ⟨(if p = 0 then x else y), I, va_up L 38 (g38 (L 38) x y), I, va_up (va_up L 38 (g38 (L 38) x y)) 39 (g39 (L 39) x y), d, sg_X10_value_0_0 _ _ _ (cv_has1 hA.c ha hA.n30) (sg_X10_value_11_1 _ _ _ _ (by decide) (c_isDay1 ht) (sg_X10_value_18_1 _ _ _ _ (by decide) (c_isOneOfTwo1 hp) (sg_X10_value_25_1 _ _ _ _ (by decide) q1 (sg_X10_value_45_0 _ _ _ (c_half hp _ _ _) (sg_X10_value_53_0 _ _ _ _))))), sg_X11_value_0_0 _ _ _ (mo_isAccount1 hA.m ha hA.n30) (sg_X11_value_5_1 _ _ _ _ (by decide) (mo_isDay1 ht) (sg_X11_value_12_1 _ _ _ _ (by decide) (m_in2_1 hp) (sg_X11_value_21_1 _ _ _ _ (by decide) q2 ?_))), hR⟩
        by_cases h0 : p = 0
        · subst h0
          exact sg_X11_value_34_0 _ _ _ rfl
        · rw [if_neg h0]
          exact sg_X11_value_34_1 _ _ _ (nI_ne0 (by omega) (by omega))
/-- what a branch gained -/
theorem j_gain (hA : rA d I L I L) (hJ : rJ d I I L) (hd : d.day ≤ 999) (hr : RR d.cnt (I 17) (I 18) (I 19) (I 20) (I 40)) {t : Nat} (ht : t < d.nA) {c : Nat} (hc : c < 4) (fr to : Int32) : ∃ (x y : Int64),
    zEv X mt_X0_writeGain 0 [.ref 1, .int (nI t), .int (nI c), .int fr, .int to, .ref 38, .null, .null] [] (zSH im tl, I, L) (none, (zSH im tl, I, va_up L 38 (g38 (L 38) x y))) ∧
    ∀ (p s0 : Int32), ¬ s0 = 0 → fr ≤ to → zEv X mt_X11_gain 37 [.ref 39, .int (nI t), .int (nI c), .int fr, .int to, .int p, .null, .null, .null, .null] [.int s0] (zSH im tl, I, va_up L 38 (g38 (L 38) x y)) (some (.long (if p = 0 then x else y)), (zSH im tl, I, va_up (va_up L 38 (g38 (L 38) x y)) 39 (g39 (L 39) x y))) := by
  obtain ⟨A, B, A1, A2, B1, B2, hA1, hB1, -⟩ := q_rng (J := I) hr hc fr
  obtain ⟨C, D, C1, C2, D1, D2, hC1, hD1, -⟩ := q_rng (J := I) hr hc to
  have e1 : ((A : Int)).natAbs = A := Int.natAbs_natCast A
  have e2 : ((C : Int)).natAbs = C := Int.natAbs_natCast C
  obtain ⟨G, a, b, hG, hb0, hbB, haA, eA, eB, ta, tb, -⟩ := f_red (A : Int) (B := B) (by omega) (by omega) (by omega) (by omega)
  obtain ⟨G2, c1, d1, hG2, hd0, hdD, hcC, eC, eD, tc, td, -⟩ := f_red (C : Int) (B := D) (by omega) (by omega) (by omega) (by omega)
  have e3 : ((b : Int)).natAbs = b := Int.natAbs_natCast b
  have e4 : ((d1 : Int)).natAbs = d1 := Int.natAbs_natCast d1
  have e5 : ((B : Int)).natAbs = B := Int.natAbs_natCast B
  have ng : (-(qa I c (qh d I c fr))).toInt = -(A : Int) := by
    rw [Int64.toInt_neg, hA1, Int.bmod_eq_of_le (by omega) (by omega)]
  -- class: c1 / d1 less A / B
  have m1 : (c1 * (B : Int)).natAbs ≤ 999 * 999 := a_mul (by omega) (by omega)
  have m2 : (-(A : Int) * (d1 : Int)).natAbs ≤ 999 * 999 := a_mul (by omega) (by omega)
  have m3 : d1 * B ≤ 999 * 999 := Nat.mul_le_mul (by omega) B2
  have m3' : ((d1 : Int) * (B : Int)).natAbs ≤ 999 * 999 := a_mul (by omega) (by omega)
  have x1 : (gA C D * qb I c (qh d I c fr) + -(qa I c (qh d I c fr)) * gB C D).toInt = c1 * B + -(A : Int) * d1 := l_add (l_mul tc hB1 (by omega)) (l_mul ng td (by omega)) (by omega)
  have x2 : (gB C D * qb I c (qh d I c fr)).toInt = ((d1 * B : Nat) : Int) := by rw [l_mul td hB1 (by omega), Int.natCast_mul]
  have p1 : 0 < d1 * B := Nat.mul_pos hd0 (by omega)
  -- model: c1 / d1 less a / b
  have k1 : (c1 * (b : Int)).natAbs ≤ 999 * 999 := a_mul (by omega) (by omega)
  have k2 : (a * (d1 : Int)).natAbs ≤ 999 * 999 := a_mul (by omega) (by omega)
  have k3 : d1 * b ≤ 999 * 999 := Nat.mul_le_mul (by omega) (by omega)
  have k3' : ((d1 : Int) * (b : Int)).natAbs ≤ 999 * 999 := a_mul (by omega) (by omega)
  have y1 : (gA C D * gB A B - gA A B * gB C D).toInt = c1 * b - a * d1 := l_sub (l_mul tc tb (by omega)) (l_mul ta td (by omega)) (by omega)
  have y2 : (gB C D * gB A B).toInt = ((d1 * b : Nat) : Int) := by rw [l_mul td tb (by omega), Int.natCast_mul]
  have p2 : 0 < d1 * b := Nat.mul_pos hd0 hb0
  have eN : c1 * B + -(A : Int) * d1 = (G : Int) * (c1 * b - a * d1) := by
    rw [eA, eB, Int.natCast_mul]; grind
  have eM : d1 * B = G * (d1 * b) := by rw [eB]; grind
  have f1 : gA (c1 * B + -(A : Int) * d1) (d1 * B) = gA (c1 * b - a * d1) (d1 * b) := by rw [eN, eM, gA_scale hG]
  have f2 : gB (c1 * B + -(A : Int) * d1) (d1 * B) = gB (c1 * b - a * d1) (d1 * b) := by rw [eN, eM, gB_scale hG]
  obtain ⟨G3, u, v, hG3, hv0, hvD, huN, -, -, tu, tv, -⟩ := f_red (c1 * b - a * d1) (B := d1 * b) p2 (by omega) (by omega) (by omega)
  have hs := cB_bd hJ hA.n30 t (nI c) 0 to
  generalize hS : cB I d t (nI c) 0 to = S at hs
  have w1 : (u * S.toInt).natAbs ≤ (2 * (999 * 999)) * 600000000 := a_mul (by omega) hs
  have w2 : (gA (c1 * b - a * d1) (d1 * b) * S).toInt = u * S.toInt := l_mul tu rfl (by omega)
  refine ⟨gA (u * S.toInt) v, gB (u * S.toInt) v, ?_, ?_⟩
  · have z1 := c_become (X := X) (im := im) (tl := tl) (I := I) (L := L) hC1 hD1 (by omega) (by omega) (by omega) (by omega)
    have z2 := c_become (X := X) (im := im) (tl := tl) (I := I) (L := va_up L 38 (g38 (L 38) (gA C D) (gB C D))) x1 x2 p1 (by omega) (by omega) (by omega)
    rw [f1, f2, va_up_self, g38_g38, va_up2] at z2
    have z3 := c_become (X := X) (im := im) (tl := tl) (I := I) (L := va_up L 38 (g38 (L 38) (gA (c1 * b - a * d1) (d1 * b)) (gB (c1 * b - a * d1) (d1 * b)))) w2 tv hv0 (by omega) (by omega) (by omega)
    rw [va_up_self, g38_g38, va_up2] at z3
    have bs := cb_sumOfBranch (X := X) (im := im) (tl := tl) (show rA d I (va_up L 38 (g38 (L 38) (gA (c1 * b - a * d1) (d1 * b)) (gB (c1 * b - a * d1) (d1 * b)))) I L from hA) hJ ht (nI c) 0 to
    rw [hS] at bs
    exact sg_X0_writeGain_0_0 _ _ _ _ (c_findHeld hr hc _) (sg_X0_writeGain_9_0 _ _ _ _ _ (c_findHeld hr hc _) (sg_X0_writeGain_21_0 _ _ _ _ _ _ (c_aboveAt hr hc _ _) (sg_X0_writeGain_34_0 _ _ _ _ _ _ _ (c_belowAt hr hc _ _) (sg_X0_writeGain_43_0 _ _ _ _ _ _ _ _ z1 (sg_X0_writeGain_46_0 _ _ _ _ _ _ (c_aboveAt hr hc _ _) (sg_X0_writeGain_57_0 _ _ _ _ _ _ _ (c_belowAt hr hc _ _) (sg_X0_writeGain_67_0 _ _ _ _ _ _ _ _ (sg_X3_add_0_0 _ _ z2 (sg_X3_add_23_0 _ _)) (sg_X0_writeGain_70_0 _ _ _ _ _ _ bs (sg_X0_writeGain_86_0 _ _ _ _ _ _ _ _ z3 (sg_X0_writeGain_95_0 _ _ _ _ _ _))))))))))
  · intro p s0 hs0 hft
    generalize hK : va_up L 38 (g38 (L 38) (gA (u * S.toInt) v) (gB (u * S.toInt) v)) = K0
    have k39 : K0 39 = L 39 := by rw [← hK]; rfl
    have kA : ∀ R, rA d I L I (va_up K0 39 R) := fun R => by rw [← hK]; exact hA
    have kJ : ∀ R, rJ d I I (va_up K0 39 R) := fun R => by rw [← hK]; exact hJ
    have r1 := m_rateBy (X := X) (im := im) (tl := tl) (J := I) hr hc fr hA1 hB1 A2 B1 B2 K0
    have r2 := m_rateBy (X := X) (im := im) (tl := tl) (J := I) hr hc to hC1 hD1 C2 D1 D2 (va_up K0 39 (g39 (K0 39) (gA A B) (gB A B)))
    rw [va_up_self, g39_g39, va_up2] at r2
    have r3 := m_frac (X := X) (im := im) (tl := tl) (J := I) (K := va_up K0 39 (g39 (K0 39) (gA C D) (gB C D))) y1 y2 p2 (by omega) (by omega) (by omega)
    rw [va_up_self, g39_g39, va_up2] at r3
    have bs := mo_branchBy (X := X) (im := im) (tl := tl) (kA (g39 (K0 39) (gA (c1 * b - a * d1) (d1 * b)) (gB (c1 * b - a * d1) (d1 * b)))) (kJ _) hd ht (nI c) to
    rw [hS] at bs
    have r4 := m_frac (X := X) (im := im) (tl := tl) (J := I) (K := va_up K0 39 (g39 (K0 39) (gA (c1 * b - a * d1) (d1 * b)) (gB (c1 * b - a * d1) (d1 * b)))) w2 tv hv0 (by omega) (by omega) (by omega)
    rw [va_up_self, g39_g39, va_up2] at r4
    rw [← k39]
    refine sg_X11_gain_37_1 _ _ _ _ _ _ hs0 hft r1 (sg_X11_gain_56_0 _ _ _ _ _ r2 (sg_X11_gain_75_0 _ _ _ _ _ _ _ r3 (sg_X11_gain_101_0 _ _ _ _ _ _ _ bs (sg_X11_gain_114_0 _ _ _ _ _ _ _ _ _ r4 ?_))))
    by_cases h0 : p = 0
    · rw [if_pos h0]
      exact sg_X11_gain_122_0 _ _ _ _ _ _ _ h0
    · rw [if_neg h0]
      exact sg_X11_gain_122_1 _ _ _ _ _ _ _ h0
theorem op_gain (hR : rAll d im tl I L) (a c t u p : Int32) : zOpL X im tl I L mt_X10_gain mt_X11_gain [.ref 0, .int a, .int c, .int t, .int u, .int p] [.ref 39, .int a, .int c, .int t, .int u, .int p, .null, .null, .null, .null] := by
  have hA := hR.1.ra
  rcases k_ix a d.nA (by have := hA.n30; omega) with h | ⟨a, ha, rfl⟩
  · exact op_roL hR _ (sg_X10_gain_0_0 _ _ _ _ _ (cv_has0 hA.c h) (sg_X10_gain_11_0 _ _ _ _ _ _ rfl)) (sg_X11_gain_0_0 _ _ _ _ _ (mo_isAccount0 hA.m hA.n1 hA.n30 h) (sg_X11_gain_5_0 _ _ _ _ _ _ rfl))
  · rcases k_ix c 4 (by omega) with h | ⟨c, hc, rfl⟩
    · exact op_roL hR _ (sg_X10_gain_0_0 _ _ _ _ _ (cv_has1 hA.c ha hA.n30) (sg_X10_gain_11_1 _ _ _ _ _ _ (by decide) (c_isCurrency0 h) (sg_X10_gain_18_0 _ _ _ _ _ _ rfl))) (sg_X11_gain_0_0 _ _ _ _ _ (mo_isAccount1 hA.m ha hA.n30) (sg_X11_gain_5_1 _ _ _ _ _ _ (by decide) (mo_isCurrency0 h) (sg_X11_gain_12_0 _ _ _ _ _ _ rfl)))
    · -- the two ask in another order
      have hcn : (p < 0 ∨ nI 2 ≤ p) ∨ (t < 0 ∨ nI 1000 ≤ t) ∨ (u < 0 ∨ nI 1000 ≤ u) → zEv X mt_X10_gain 0 [.ref 0, .int (nI a), .int (nI c), .int t, .int u, .int p] [] (zSH im tl, I, L) (some (.long (-9223372036854775808)), (zSH im tl, I, L)) := by
        intro h
        refine sg_X10_gain_0_0 _ _ _ _ _ (cv_has1 hA.c ha hA.n30) (sg_X10_gain_11_1 _ _ _ _ _ _ (by decide) (c_isCurrency1 hc) ?_)
        rcases k_ix p 2 (by omega) with hp | ⟨p, hp, rfl⟩
        · exact sg_X10_gain_18_1 _ _ _ _ _ _ (by decide) (c_isOneOfTwo0 hp) (sg_X10_gain_26_0 _ _ _ _ _ _ rfl)
        · refine sg_X10_gain_18_1 _ _ _ _ _ _ (by decide) (c_isOneOfTwo1 hp) ?_
          rcases k_ix t 1000 (by omega) with ht | ⟨t, ht, rfl⟩
          · exact sg_X10_gain_26_1 _ _ _ _ _ _ (by decide) (c_isDay0 ht) (sg_X10_gain_37_0 _ _ _ _ _ _ rfl)
          · refine sg_X10_gain_26_1 _ _ _ _ _ _ (by decide) (c_isDay1 ht) ?_
            rcases k_ix u 1000 (by omega) with hu | ⟨u, hu, rfl⟩
            · exact sg_X10_gain_37_1 _ _ _ _ _ _ (by decide) (c_isDay0 hu) (sg_X10_gain_45_0 _ _ _ _ _ _ rfl)
            · rcases h with h | h | h
              · rcases h with h | h
                · exact absurd h (nI_pos (by omega))
                · exact absurd h (nI_ge (by omega) (by omega))
              · rcases h with h | h
                · exact absurd h (nI_pos (by omega))
                · exact absurd h (nI_ge (by omega) (by omega))
              · rcases h with h | h
                · exact absurd h (nI_pos (by omega))
                · exact absurd h (nI_ge (by omega) (by omega))
      have m0 : ∀ {r}, zEv X mt_X11_gain 12 [.ref 39, .int (nI a), .int (nI c), .int t, .int u, .int p, .null, .null, .null, .null] [.int 1] (zSH im tl, I, L) r → zEv X mt_X11_gain 0 [.ref 39, .int (nI a), .int (nI c), .int t, .int u, .int p, .null, .null, .null, .null] [] (zSH im tl, I, L) r := fun k => sg_X11_gain_0_0 _ _ _ _ _ (mo_isAccount1 hA.m ha hA.n30) (sg_X11_gain_5_1 _ _ _ _ _ _ (by decide) (mo_isCurrency1 hc) k)
      rcases k_ix t 1000 (by omega) with h | ⟨t, ht, rfl⟩
      · exact op_roL hR _ (hcn (Or.inr (Or.inl h))) (m0 (sg_X11_gain_12_1 _ _ _ _ _ _ (by decide) (mo_isDay0 h) (sg_X11_gain_19_0 _ _ _ _ _ _ rfl)))
      · rcases k_ix u 1000 (by omega) with h | ⟨u, hu, rfl⟩
        · exact op_roL hR _ (hcn (Or.inr (Or.inr h))) (m0 (sg_X11_gain_12_1 _ _ _ _ _ _ (by decide) (mo_isDay1 ht) (sg_X11_gain_19_1 _ _ _ _ _ _ (by decide) (mo_isDay0 h) (sg_X11_gain_27_0 _ _ _ _ _ _ rfl))))
        · rcases k_ix p 2 (by omega) with h | ⟨p, hp, rfl⟩
          · exact op_roL hR _ (hcn (Or.inl h)) (m0 (sg_X11_gain_12_1 _ _ _ _ _ _ (by decide) (mo_isDay1 ht) (sg_X11_gain_19_1 _ _ _ _ _ _ (by decide) (mo_isDay1 hu) (sg_X11_gain_27_1 _ _ _ _ _ _ (by decide) (m_in2_0 h) (sg_X11_gain_37_0 _ _ _ _ _ _ rfl)))))
          · have c1 : ∀ {r}, zEv X mt_X10_gain 45 [.ref 0, .int (nI a), .int (nI c), .int (nI t), .int (nI u), .int (nI p)] [.int 1] (zSH im tl, I, L) r → zEv X mt_X10_gain 0 [.ref 0, .int (nI a), .int (nI c), .int (nI t), .int (nI u), .int (nI p)] [] (zSH im tl, I, L) r := fun k => sg_X10_gain_0_0 _ _ _ _ _ (cv_has1 hA.c ha hA.n30) (sg_X10_gain_11_1 _ _ _ _ _ _ (by decide) (c_isCurrency1 hc) (sg_X10_gain_18_1 _ _ _ _ _ _ (by decide) (c_isOneOfTwo1 hp) (sg_X10_gain_26_1 _ _ _ _ _ _ (by decide) (c_isDay1 ht) (sg_X10_gain_37_1 _ _ _ _ _ _ (by decide) (c_isDay1 hu) k))))
            by_cases htu : nI t ≤ nI u
            · obtain ⟨x, y, q1, q2⟩ := j_gain (X := X) (im := im) (tl := tl) hA hR.1.rj hR.1.rd.d hR.1.rr ha hc (nI t) (nI u)
              refine ⟨(if p = 0 then x else y), I, va_up L 38 (g38 (L 38) x y), I, va_up (va_up L 38 (g38 (L 38) x y)) 39 (g39 (L 39) x y), d, c1 (sg_X10_gain_45_1 _ _ _ _ _ _ (by decide) htu q1 (sg_X10_gain_74_0 _ _ _ _ _ (c_half hp _ _ _) (sg_X10_gain_83_0 _ _ _ _ _ _))), ?_, hR⟩
              have q3 := q2 (nI p) 1 (by decide) htu
              rw [show (if nI p = 0 then x else y) = (if p = 0 then x else y) by
                by_cases h0 : p = 0
                · subst h0; rfl
                · rw [if_neg h0, if_neg (nI_ne0 (by omega) (by omega))]] at q3
              exact sg_X11_gain_0_0 _ _ _ _ _ (mo_isAccount1 hA.m ha hA.n30) (sg_X11_gain_5_1 _ _ _ _ _ _ (by decide) (mo_isCurrency1 hc) (sg_X11_gain_12_1 _ _ _ _ _ _ (by decide) (mo_isDay1 ht) (sg_X11_gain_19_1 _ _ _ _ _ _ (by decide) (mo_isDay1 hu) (sg_X11_gain_27_1 _ _ _ _ _ _ (by decide) (m_in2_1 hp) q3))))
            · exact op_roL hR _ (c1 (sg_X10_gain_45_2 _ _ _ _ _ _ (by decide) htu)) (sg_X11_gain_0_0 _ _ _ _ _ (mo_isAccount1 hA.m ha hA.n30) (sg_X11_gain_5_1 _ _ _ _ _ _ (by decide) (mo_isCurrency1 hc) (sg_X11_gain_12_1 _ _ _ _ _ _ (by decide) (mo_isDay1 ht) (sg_X11_gain_19_1 _ _ _ _ _ _ (by decide) (mo_isDay1 hu) (sg_X11_gain_27_1 _ _ _ _ _ _ (by decide) (m_in2_1 hp) (sg_X11_gain_37_2 _ _ _ _ _ _ (by decide) htu))))))
end OV
