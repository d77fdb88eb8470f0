section RE
variable {X : zSc} {im : Option Nat} {tl : List zS} {I J : zI} {L K : zL} {d : zD}
def bR (s : Bool) (y : Int32) (b W T : Nat) : Int64 := (if s = true then y.toInt64 + 2 * (nI b + 1).toInt64 else y.toInt64) <<< ((nI W).toInt64 &&& 63) + Int64.ofNat (T / 2 ^ (52 - W))
theorem c_bitsE {s : Bool} {E T b W : Nat} (h1 : 1 ≤ E) (h2 : E ≤ 2046) (hT : T < 4503599627370496) (hW : W ≤ 52) (hl : FP.l2d ((1 : Int64) <<< ((nI W).toInt64 &&& 63)) = w64 false (1023 + W) 0) (y v7 : Int32) : zEv X mt_X10_bitsInForm 63 [.double (w64 s E T), .null, .int (nI W), .int (nI b), .double (w64 false 1023 T), .null, .int y, .int v7, .null] [] (zSH im tl, I, L) (some (.long (bR s y b W T)), (zSH im tl, I, L)) := by
  obtain ⟨t1, t2, t3⟩ := fp_tail (T := T) (W := W) hT hW
  have c0 := cz_0 (s := s) h1 h2 hT .g
  have c1 : 0 ≤ Op.cmpValue (FP.dcmp (w64 false 1023 T) FP.dconst1) .g := by
    rw [w1]; exact (cz_ge (by omega) (by omega) hT (by omega) (by omega) .g).1 (Nat.le_refl _)
  rw [← hl] at t1 t3
  cases s with
  | false =>
    rw [if_neg (by decide)] at c0
    have c2 : 0 ≤ Op.cmpValue (FP.dcmp (w64 false E T) FP.dconst0) .g := by rw [c0]; decide
    by_cases h : nI b ≤ v7
    · refine ev_r (sg_X10_bitsInForm_63_0 _ _ _ _ _ _ h c2 t2 t3) ?_
      rw [t1]; rfl
    · refine ev_r (sg_X10_bitsInForm_63_2 _ _ _ _ _ _ h c1 c2 t2 t3) ?_
      rw [t1]; rfl
  | true =>
    rw [if_pos rfl] at c0
    have c2 : ¬ 0 ≤ Op.cmpValue (FP.dcmp (w64 true E T) FP.dconst0) .g := by rw [c0]; decide
    by_cases h : nI b ≤ v7
    · refine ev_r (sg_X10_bitsInForm_63_1 _ _ _ _ _ _ h c2 t2 t3) ?_
      rw [t1]; rfl
    · refine ev_r (sg_X10_bitsInForm_63_3 _ _ _ _ _ _ h c1 c2 t2 t3) ?_
      rw [t1]; rfl
theorem c_bitsU {s : Bool} {E T b W : Nat} (h1 : 1 ≤ E) (h2 : E ≤ 2046) (hT : T < 4503599627370496) (hW : W ≤ 52) (hb : b ≤ 1023) (hl : FP.l2d ((1 : Int64) <<< ((nI W).toInt64 &&& 63)) = w64 false (1023 + W) 0) : ∀ (f F k y : Nat), F + f = 1023 → 1 ≤ F → k + f ≤ b → f ≤ y → zEv X mt_X10_bitsInForm 63 [.double (w64 s E T), .null, .int (nI W), .int (nI b), .double (w64 false F T), .null, .int (nI y), .int (nI k), .null] [] (zSH im tl, I, L) (some (.long (bR s (nI (y - f)) b W T)), (zSH im tl, I, L)) := by
  intro f
  induction f with
  | zero =>
    intro F k y h3 h4 h5 h6
    have : F = 1023 := by omega
    subst this
    exact c_bitsE h1 h2 hT hW hl _ _
  | succ f ih =>
    intro F k y h3 h4 h5 h6
    have c1 : ¬ 0 ≤ Op.cmpValue (FP.dcmp (w64 false F T) FP.dconst1) .g := by
      rw [w1, (cz_ge h4 (by omega) hT (by omega) (by omega) .g).2 (by omega)]; decide
    have e1 := fp_dbl (s := false) h4 (by omega) hT
    refine sg_X10_bitsInForm_63_4 _ _ _ _ _ _ (nI_ge (by omega) (by omega)) c1 (by rw [e1]; exact gd64 (by omega) hT) ?_
    rw [e1, nI_1, show nI y + (-1) = nI (y - 1) by
      have := pk_m1 (y - 1)
      rw [show y - 1 + 1 = y by omega] at this
      exact this, show y - (f + 1) = y - 1 - f by omega]
    exact ih (F + 1) (k + 1) (y - 1) (by omega) (by omega) (by omega) (by omega)
theorem c_bitsD {s : Bool} {E T b W : Nat} (h1 : 1 ≤ E) (h2 : E ≤ 2046) (hT : T < 4503599627370496) (hW : W ≤ 52) (hb : b ≤ 1023) (hl : FP.l2d ((1 : Int64) <<< ((nI W).toInt64 &&& 63)) = w64 false (1023 + W) 0) : ∀ (f F k : Nat), F = 1023 + f → F ≤ 2046 → k + f ≤ b → zEv X mt_X10_bitsInForm 28 [.double (w64 s E T), .null, .int (nI W), .int (nI b), .double (w64 false F T), .null, .int (nI (b + k)), .int (nI k), .null] [] (zSH im tl, I, L) (some (.long (bR s (nI (b + k + f)) b W T)), (zSH im tl, I, L)) := by
  intro f
  induction f with
  | zero =>
    intro F k h3 h4 h5
    subst h3
    have c1 : Op.cmpValue (FP.dcmp (w64 false 1023 T) 4611686018427387904) .l < 0 := by
      rw [w2, (cz_ge (by omega) (by omega) hT (by omega) (by omega) .l).2 (by omega)]; decide
    by_cases h : nI b ≤ nI k
    · exact sg_X10_bitsInForm_28_0 _ _ _ _ _ _ h (c_bitsE h1 h2 hT hW hl _ _)
    · exact sg_X10_bitsInForm_28_1 _ _ _ _ _ _ h c1 (c_bitsE h1 h2 hT hW hl _ _)
  | succ f ih =>
    intro F k h3 h4 h5
    have c1 : ¬ Op.cmpValue (FP.dcmp (w64 false F T) 4611686018427387904) .l < 0 := by
      have := (cz_ge (F := 1024) (show 1 ≤ F by omega) h4 hT (by omega) (by omega) .l).1 (by omega)
      rw [← w2] at this
      exact Int32.not_lt.mpr this
    have e1 := fp_half (s := false) (show 2 ≤ F by omega) h4 hT
    refine sg_X10_bitsInForm_28_2 _ _ _ _ _ _ (nI_ge (by omega) (by omega)) c1 (by rw [e1]; exact gd64 (by omega) hT) ?_
    rw [e1, nI_1, nI_1, show b + k + (f + 1) = b + (k + 1) + f by omega]
    exact ih (F - 1) (k + 1) (by omega) (by omega) (by omega)
theorem c_bits {s : Bool} {E T b W : Nat} (h1 : 1 ≤ E) (h2 : E ≤ 2046) (hT : T < 4503599627370496) (hW : W ≤ 52) (hb : b ≤ 1023) (hl : FP.l2d ((1 : Int64) <<< ((nI W).toInt64 &&& 63)) = w64 false (1023 + W) 0) (h3 : E ≤ 1023 + b) (h4 : 1023 ≤ E + b) : zEv X mt_X10_bitsInForm 0 [.double (w64 s E T), .null, .int (nI W), .int (nI b), .null, .null, .null, .null, .null] [] (zSH im tl, I, L) (some (.long (bR s (nI (b + E - 1023)) b W T)), (zSH im tl, I, L)) := by
  have cg := cz_0 (s := s) h1 h2 hT .g
  have cl := cz_0 (s := s) h1 h2 hT .l
  have n0 : ¬ Op.cmpValue (FP.dcmp (w64 s E T) FP.dconst0) .l = 0 := by
    rw [cl]; cases s <;> decide
  have main : zEv X mt_X10_bitsInForm 28 [.double (w64 s E T), .null, .int (nI W), .int (nI b), .double (w64 false E T), .null, .int (nI b), .int 0, .null] [] (zSH im tl, I, L) (some (.long (bR s (nI (b + E - 1023)) b W T)), (zSH im tl, I, L)) := by
    by_cases hE : 1023 ≤ E
    · have := c_bitsD (X := X) (im := im) (tl := tl) (I := I) (L := L) (s := s) h1 h2 hT hW hb hl (E - 1023) E 0 (by omega) h2 (by omega)
      rw [show b + 0 + (E - 1023) = b + E - 1023 by omega] at this
      exact this
    · have c1 : Op.cmpValue (FP.dcmp (w64 false E T) 4611686018427387904) .l < 0 := by
        rw [w2, (cz_ge h1 h2 hT (by omega) (by omega) .l).2 (by omega)]; decide
      have hu := c_bitsU (X := X) (im := im) (tl := tl) (I := I) (L := L) (s := s) h1 h2 hT hW hb hl (1023 - E) E 0 b (by omega) h1 (by omega) (by omega)
      rw [show b - (1023 - E) = b + E - 1023 by omega] at hu
      exact sg_X10_bitsInForm_28_1 _ _ _ _ _ _ (nI_ge (a := 0) (b := b) (by omega) (by omega)) c1 hu
  cases s with
  | false =>
    rw [if_neg (by decide)] at cg
    exact sg_X10_bitsInForm_0_1 _ _ _ n0 (by rw [cg]; decide) main
  | true =>
    rw [if_pos rfl] at cg
    refine sg_X10_bitsInForm_0_2 _ _ _ n0 (by rw [cg]; decide) ?_
    rw [w_neg h2 hT]
    exact main
theorem bR_64 {s : Bool} {E T : Nat} (h2 : E ≤ 2046) (hT : T < 4503599627370496) : bR s (nI E) 1023 52 T = (w64 s E T).toInt64 := by
  unfold bR
  have e1 : (if s = true then (nI E).toInt64 + 2 * (nI 1023 + 1).toInt64 else (nI E).toInt64) = Int64.ofNat (s.toNat * 2048 + E) := by
    rw [nI_l (by omega)]
    cases s with
    | false => rw [if_neg (by decide)]; show lN E = Int64.ofNat (0 * 2048 + E); rw [Nat.zero_mul, Nat.zero_add]; rfl
    | true =>
      rw [if_pos rfl, show 2 * (nI 1023 + 1).toInt64 = Int64.ofNat 2048 by decide +kernel]
      show Int64.ofNat E + Int64.ofNat 2048 = Int64.ofNat (1 * 2048 + E)
      rw [← Int64.ofNat_add, Nat.add_comm, Nat.one_mul]
  have : s.toNat ≤ 1 := by cases s <;> decide
  rw [e1, sh52 _ (by omega), Nat.sub_self, Nat.pow_zero, Nat.div_one, ← Int64.ofNat_add]
  rfl
theorem bR_32 {s : Bool} {E t : Nat} (h2 : E ≤ 254) (ht : t < 8388608) : (bR s (nI E) 127 23 (t * 536870912)).toInt32 = (w32 s E t).toInt32 := by
  unfold bR
  have e1 : (if s = true then (nI E).toInt64 + 2 * (nI 127 + 1).toInt64 else (nI E).toInt64) = Int64.ofNat (s.toNat * 256 + E) := by
    rw [nI_l (by omega)]
    cases s with
    | false => rw [if_neg (by decide)]; show lN E = Int64.ofNat (0 * 256 + E); rw [Nat.zero_mul, Nat.zero_add]; rfl
    | true =>
      rw [if_pos rfl, show 2 * (nI 127 + 1).toInt64 = Int64.ofNat 256 by decide +kernel]
      show Int64.ofNat E + Int64.ofNat 256 = Int64.ofNat (1 * 256 + E)
      rw [← Int64.ofNat_add, Nat.add_comm, Nat.one_mul]
  have : s.toNat ≤ 1 := by cases s <;> decide
  rw [e1, sh23 _ (by omega), show t * 536870912 / 2 ^ (52 - 23) = t from Nat.mul_div_cancel t (by decide), ← Int64.ofNat_add, Int64.toInt32_ofNat']
  rfl
/-- the value as a real: 0, or an ordinary number -/
theorem v_real {x y : Int64} {a : Int} {b : Nat} (hx : x.toInt = a) (hy : y.toInt = (b : Int)) (ha : a.natAbs < 2 ^ 62) (hb0 : 0 < b) (hb : b < 2 ^ 62) : FP.ddiv (FP.l2d x) (FP.l2d y) = 0 ∨ ∃ s G V, FP.ddiv (FP.l2d x) (FP.l2d y) = w64 s G V ∧ 950 ≤ G ∧ G ≤ 1090 ∧ V < 4503599627370496 := by
  obtain ⟨F, U, e2, f1, f2, u2⟩ := fp_l2d hy (by omega) (by omega)
  rw [decide_eq_false (by omega)] at e2
  by_cases h0 : a = 0
  · left
    have : x = 0 := l_0.mpr (by rw [hx, h0])
    rw [this, e2, show FP.l2d 0 = 0 by decide +kernel]
    exact fp_div0 f1 f2 u2
  · right
    obtain ⟨E, T, e1, g1, g2, t2⟩ := fp_l2d hx h0 ha
    obtain ⟨G, V, e3, v1, v2, v3⟩ := fp_div (s := decide (a < 0)) (t := false) g1 g2 f1 f2 t2 u2
    exact ⟨_, G, V, by rw [e1, e2, e3], v1, v2, v3⟩
theorem op_real (hR : rAll d im tl I L) (a t p : Int32) : zOpI X im tl I L mt_X10_real mt_X11_real [.ref 0, .int a, .int t, .int p, .null, .null] [.ref 39, .int a, .int t, .int p, .null, .null] := by
  have hA := hR.1.ra
  rcases k_ix a d.nA (by have := hA.n30; omega) with h | ⟨a, ha, rfl⟩
  · exact op_roI hR _ (sg_X10_real_0_0 _ _ _ (cv_has0 hA.c h) (sg_X10_real_11_0 _ _ _ _ rfl)) (sg_X11_real_0_0 _ _ _ (mo_isAccount0 hA.m hA.n1 hA.n30 h) (sg_X11_real_5_0 _ _ _ _ rfl))
  · rcases k_ix t 1000 (by omega) with h | ⟨t, ht, rfl⟩
    · exact op_roI hR _ (sg_X10_real_0_0 _ _ _ (cv_has1 hA.c ha hA.n30) (sg_X10_real_11_1 _ _ _ _ (by decide) (c_isDay0 h) (sg_X10_real_18_0 _ _ _ _ rfl))) (sg_X11_real_0_0 _ _ _ (mo_isAccount1 hA.m ha hA.n30) (sg_X11_real_5_1 _ _ _ _ (by decide) (mo_isDay0 h) (sg_X11_real_12_0 _ _ _ _ rfl)))
    · have c0 : ∀ {r}, zEv X mt_X10_real 18 [.ref 0, .int (nI a), .int (nI t), .int p, .null, .null] [.int 1] (zSH im tl, I, L) r → zEv X mt_X10_real 0 [.ref 0, .int (nI a), .int (nI t), .int p, .null, .null] [] (zSH im tl, I, L) r := fun k => sg_X10_real_0_0 _ _ _ (cv_has1 hA.c ha hA.n30) (sg_X10_real_11_1 _ _ _ _ (by decide) (c_isDay1 ht) k)
      have m0 : ∀ {L : zL} {r}, zEv X mt_X11_real 12 [.ref 39, .int (nI a), .int (nI t), .int p, .null, .null] [.int 1] (zSH im tl, I, L) r → zEv X mt_X11_real 0 [.ref 39, .int (nI a), .int (nI t), .int p, .null, .null] [] (zSH im tl, I, L) r := fun k => sg_X11_real_0_0 _ _ _ (mo_isAccount1 hA.m ha hA.n30) (sg_X11_real_5_1 _ _ _ _ (by decide) (mo_isDay1 ht) k)
      rcases k_ix p 4 (by omega) with h | ⟨p, hp, rfl⟩
      · refine op_roI hR 0 (c0 ?_) (m0 (sg_X11_real_12_1 _ _ _ _ (by decide) (mo_in0 (b := 3) ?_) (sg_X11_real_21_0 _ _ _ _ rfl)))
        · by_cases h1 : p < 0
          · exact sg_X10_real_18_1 _ _ _ _ (by decide) h1
          · exact sg_X10_real_18_3 _ _ _ _ (by decide) h1 (fun q => by
              have h2 := h.resolve_left h1
              exact absurd (Int32.le_trans h2 q) (by decide))
        · exact h.imp id (fun h2 => Int32.lt_of_lt_of_le (by decide : (3 : Int32) < nI 4) h2)
      · obtain ⟨x, y, a', b', hx, hy, ba, bb0, bb, q1, q2⟩ := j_value (X := X) (im := im) (tl := tl) hA hR.1.rj hR.1.rd.d hR.1.rr ha (nI t)
        have v4 : vM 4 < 2 ^ 62 := by decide +kernel
        have p4 : vP 4 < 2 ^ 40 := by decide +kernel
        have hre := v_real hx hy (by omega) bb0 (by omega)
        generalize hw : FP.ddiv (FP.l2d x) (FP.l2d y) = w at hre
        have y0 : ¬ lg_cmp y 0 = 0 := fun e => by
          have := l_0.mp ((lg_cmp_eq _ _).mp e)
          omega
        have gw : w &&& 0x7fffffffffffffff ≤ 0x7ff0000000000000 := by
          rcases hre with rfl | ⟨s, G, V, rfl, g1, g2, g3⟩
          · decide
          · exact gd64 (by omega) g3
        have cq : zEv X mt_X3_quotient 0 [.ref 38] [] (zSH im tl, I, va_up L 38 (g38 (L 38) x y)) (some (.double w), (zSH im tl, I, va_up L 38 (g38 (L 38) x y))) := by
          subst hw
          exact sg_X3_quotient_0_1 y0 gw
        have fin : ∀ v : Int32, zEv X mt_X10_real 52 [.ref 0, .int (nI a), .int (nI t), .int (nI p), .null, .null] [.double w] (zSH im tl, I, va_up L 38 (g38 (L 38) x y)) (some (.int v), (zSH im tl, I, va_up L 38 (g38 (L 38) x y))) → zEv X mt_X11_real 32 [.ref 39, .int (nI a), .int (nI t), .int (nI p), .null, .null] [] (zSH im tl, I, va_up (va_up L 38 (g38 (L 38) x y)) 39 (g39 (L 39) x y)) (some (.int v), (zSH im tl, I, va_up (va_up L 38 (g38 (L 38) x y)) 39 (g39 (L 39) x y))) → zOpI X im tl I L mt_X10_real mt_X11_real [.ref 0, .int (nI a), .int (nI t), .int (nI p), .null, .null] [.ref 39, .int (nI a), .int (nI t), .int (nI p), .null, .null] := by
          intro v k1 k2
          exact ⟨v, I, va_up L 38 (g38 (L 38) x y), I, va_up (va_up L 38 (g38 (L 38) x y)) 39 (g39 (L 39) x y), d, c0 (sg_X10_real_18_2 _ _ _ _ (by decide) (nI_pos (by omega)) (k_le (b := 3) rfl rfl (by omega) (by omega)) q1 (sg_X10_real_45_0 _ _ _ cq k1)), m0 (sg_X11_real_12_1 _ _ _ _ (by decide) (mo_in1 (nI_pos (by omega)) (k_nlt (a := 3) rfl rfl (by omega) (by omega))) (sg_X11_real_21_1 _ _ _ _ (by decide) q2 k2)), hR⟩
        have np : ∀ n, p ≠ n → n < 4 → ¬ nI p = nI n := fun n h1 h2 => k_ne rfl rfl h1 (by omega) (by omega)
        have cd : ∀ L : zL, zEv X mt_X10_bitsOfDouble 0 [.double w, .null] [] (zSH im tl, I, L) (some (.long w.toInt64), (zSH im tl, I, L)) := by
          intro L
          rcases hre with rfl | ⟨s, G, V, rfl, g1, g2, g3⟩
          · exact sg_X10_bitsOfDouble_0_0 _ (sg_X10_bitsInForm_0_0 _ _ _ (by decide +kernel)) (sg_X10_bitsOfDouble_9_0 _ _)
          · have := c_bits (X := X) (im := im) (tl := tl) (I := I) (L := L) (s := s) (E := G) (T := V) (b := 1023) (W := 52) (by omega) (by omega) g3 (by omega) (by omega) l52 (by omega) (by omega)
            rw [show 1023 + G - 1023 = G by omega, bR_64 (by omega) g3] at this
            exact sg_X10_bitsOfDouble_0_0 _ this (sg_X10_bitsOfDouble_9_0 _ _)
        have md : ∀ L : zL, zEv X mt_Jxe99ae_doubleToLongBits_ccdee 0 [.double w, .null] [] (zSH im tl, I, L) (some (.long w.toInt64), (zSH im tl, I, L)) := by
          intro L
          have hself : Op.cmpValue (FP.dcmp w w) .l = 0 := by
            rcases hre with rfl | ⟨s, G, V, rfl, g1, g2, g3⟩
            · decide +kernel
            · exact cz_self (by omega) (by omega) g3 .l
          exact sg_Jxe99ae_doubleToLongBits_ccdee_0_0 _ (sg_Jxe99ae_isNaN_b9ae7_0_0 _ hself) (sg_Jxe99ae_doubleToLongBits_ccdee_4_0 _ _ rfl)
        have gw2 : FP.ddiv (FP.l2d x) (FP.l2d y) &&& 0x7fffffffffffffff ≤ 0x7ff0000000000000 := by rw [hw]; exact gw
        by_cases p0 : p = 0
        · subst p0
          refine fin _ (sg_X10_real_52_0 _ _ _ _ (fun _ => sg_X10_real_80_0 _ _ _ _ (cd _) (sg_X10_real_85_0 _ _ _ _ _)) (fun e => absurd e (by decide)) (fun e => absurd e (by decide)) (fun e => absurd e (by decide))) (sg_X11_real_32_0 _ _ _ gw2 rfl ?_ (sg_X11_real_54_0 _ _ _ _ _))
          exact hw ▸ md _
        · by_cases p1 : p = 1
          · subst p1
            refine fin _ (sg_X10_real_52_0 _ _ _ _ (fun e => absurd e (by decide)) (fun _ => sg_X10_real_90_0 _ _ _ _ (cd _) (sg_X10_real_95_0 _ _ _ _ _)) (fun e => absurd e (by decide)) (fun e => absurd e (by decide))) (sg_X11_real_32_1 _ _ _ gw2 (by decide) rfl ?_ (sg_X11_real_69_0 _ _ _ _ _))
            exact hw ▸ md _
          · by_cases p2 : p = 2
            · subst p2
              have cf : ∃ v : Int32, (FP.d2f w &&& 0x7fffffff ≤ 0x7f800000) ∧ (∀ L : zL, zEv X mt_X10_bitsOfFloat 0 [.float (FP.d2f w)] [] (zSH im tl, I, L) (some (.int v), (zSH im tl, I, L))) ∧ (∀ L : zL, zEv X mt_Jxf58ca_floatToIntBits_5c35a 0 [.float (FP.d2f w)] [] (zSH im tl, I, L) (some (.int v), (zSH im tl, I, L))) := by
                rcases hre with rfl | ⟨s, G, V, rfl, g1, g2, g3⟩
                · rw [show FP.d2f 0 = 0 by decide +kernel]
                  refine ⟨0, by decide, fun L => ?_, fun L => ?_⟩
                  · refine sg_X10_bitsOfFloat_0_0 _ (by decide +kernel) (sg_X10_bitsInForm_0_0 _ _ _ (by decide +kernel)) (sg_X10_bitsOfFloat_9_0 _ _)
                  · exact sg_Jxf58ca_floatToIntBits_5c35a_0_0 _ (sg_Jxf58ca_isNaN_12338_0_0 _ (by decide +kernel)) (sg_Jxf58ca_floatToIntBits_5c35a_4_0 _ _ rfl)
                · obtain ⟨H, u, e1, h1, h2, h3⟩ := fp_d2f (s := s) g1 g2 g3
                  rw [e1]
                  refine ⟨(w32 s H u).toInt32, gd32 h2 h3, fun L => ?_, fun L => ?_⟩
                  · have e2 := fp_f2d (s := s) h1 h2 h3
                    have := c_bits (X := X) (im := im) (tl := tl) (I := I) (L := L) (s := s) (E := H + 896) (T := u * 536870912) (b := 127) (W := 23) (by omega) (by omega) (by omega) (by omega) (by omega) l23 (by omega) (by omega)
                    rw [show 127 + (H + 896) - 1023 = H by omega, ← e2] at this
                    refine sg_X10_bitsOfFloat_0_0 _ (by rw [e2]; exact gd64 (by omega) (by omega)) this (ev_r (sg_X10_bitsOfFloat_9_0 _ _) ?_)
                    rw [bR_32 h2 h3]
                  · exact sg_Jxf58ca_floatToIntBits_5c35a_0_0 _ (sg_Jxf58ca_isNaN_12338_0_0 _ (cz_self32 h1 h2 h3 .l)) (sg_Jxf58ca_floatToIntBits_5c35a_4_0 _ _ rfl)
              obtain ⟨v, f1, f2, f3⟩ := cf
              refine fin v (sg_X10_real_52_0 _ _ _ _ (fun e => absurd e (by decide)) (fun e => absurd e (by decide)) (fun _ => sg_X10_real_97_0 _ _ _ _ f1 (f2 _) (sg_X10_real_103_0 _ _ _ _ _)) (fun e => absurd e (by decide))) (sg_X11_real_32_2 _ _ _ gw2 (by decide) (by decide) rfl (by show FP.d2f (FP.ddiv (FP.l2d x) (FP.l2d y)) &&& 0x7fffffff ≤ 0x7f800000; rw [hw]; exact f1) ?_ (sg_X11_real_82_0 _ _ _ _ _))
              exact hw ▸ f3 _
            · have p3 : p = 3 := by omega
              subst p3
              refine fin (FP.d2i w) (sg_X10_real_52_0 _ _ _ _ (fun e => absurd e (by decide)) (fun e => absurd e (by decide)) (fun e => absurd e (by decide)) (fun _ => sg_X10_real_104_0 _ _ _ _)) ?_
              rw [← hw]
              exact sg_X11_real_32_3 _ _ _ gw2 (by decide) (by decide) (by decide)
end RE
