section VA
variable {X : zSc} {im : Option Nat} {tl : List zS} {I J : zI} {L K : zL} {d : zD}
theorem va_up_id {α : Type} {f : Nat → α} {k : Nat} {v : α} (h : v = f k) : va_up f k v = f := by
  funext j
  show (if j = k then v else f j) = f j
  split
  · rename_i e; rw [e, h]
  · rfl
theorem l_mul {x y : Int64} {a b : Int} (hx : x.toInt = a) (hy : y.toInt = b) (h : (a * b).natAbs < 2 ^ 62) : (x * y).toInt = a * b := by
  rw [Int64.toInt_mul, hx, hy, Int.bmod_eq_of_le (by omega) (by omega)]
theorem l_add {x y : Int64} {a b : Int} (hx : x.toInt = a) (hy : y.toInt = b) (h : a.natAbs + b.natAbs < 2 ^ 62) : (x + y).toInt = a + b := by
  rw [Int64.toInt_add, hx, hy, Int.bmod_eq_of_le (by omega) (by omega)]
theorem l_sub {x y : Int64} {a b : Int} (hx : x.toInt = a) (hy : y.toInt = b) (h : a.natAbs + b.natAbs < 2 ^ 62) : (x - y).toInt = a - b := by
  rw [Int64.toInt_sub, hx, hy, Int.bmod_eq_of_le (by omega) (by omega)]
theorem a_mul {a b : Int} {m n : Nat} (ha : a.natAbs ≤ m) (hb : b.natAbs ≤ n) : (a * b).natAbs ≤ m * n := by
  rw [Int.natAbs_mul]; exact Nat.mul_le_mul ha hb
/-- a fraction in lowest terms is itself -/
theorem g_self {x y : Int64} {a : Int} {b : Nat} (hx : x.toInt = a) (hy : y.toInt = (b : Int)) (hg : Nat.gcd a.natAbs b = 1) : gA a b = x ∧ gB a b = y := by
  unfold gA gB
  rw [hg]
  refine ⟨?_, ?_⟩
  · rw [show a / ((1 : Nat) : Int) = a from Int.ediv_one a]; exact (i64_of hx).symm
  · rw [show (b : Int) / ((1 : Nat) : Int) = b from Int.ediv_one b]; exact (i64_of hy).symm
theorem v_step {Ma P r : Nat} (hM : Ma * r + 600000000 * r * P < 2 ^ 62) (hP : P * r < 2 ^ 40) {x y s p q : Int64} {a sI : Int} {b A B : Nat} (hx : x.toInt = a) (hy : y.toInt = (b : Int)) (hs : s.toInt = sI) (hp : p.toInt = (A : Int)) (hq : q.toInt = (B : Int)) (ha : a.natAbs ≤ Ma) (hb0 : 0 < b) (hb : b ≤ P) (hs2 : sI.natAbs ≤ 600000000) (hA : A ≤ r) (hB0 : 1 ≤ B) (hB : B ≤ r) (hr : r ≤ 999) : ∃ (x' y' : Int64) (a' : Int) (b' : Nat), x'.toInt = a' ∧ y'.toInt = (b' : Int) ∧ a'.natAbs ≤ Ma * r + 600000000 * r * P ∧ 0 < b' ∧ b' ≤ P * r ∧ Nat.gcd a'.natAbs b' = 1 ∧
    (∀ (I : zI) (L : zL) (R : Nat → Int64), zEv X mt_X3_add 0 [.ref 38, .long (s * p), .null, .long q, .null] [] (zSH im tl, I, va_up L 38 (g38 R x y)) (none, (zSH im tl, I, va_up L 38 (g38 R x' y')))) ∧
    (∀ (J : zI) (K : zL), K 39 6 = gA A B → K 39 7 = gB A B → zEv X mt_X11_fraction 0 [.ref 39, .long (x * K 39 7 + s * K 39 6 * y), .null, .long (y * K 39 7), .null, .null, .null, .null, .null, .null, .null] [] (zSH im tl, J, K) (none, (zSH im tl, J, va_up K 39 (g39 (K 39) x' y')))) := by
  -- the rate in lowest terms
  obtain ⟨G, A', B', hG, hB'0, hB'B, hA'A, eA, eB, tA, tB, -⟩ := f_red (A : Int) (B := B) (by omega) (by omega) (by omega) (by omega)
  have hA'0 : A'.natAbs ≤ r := by have : ((A : Int)).natAbs = A := Int.natAbs_natCast A; omega
  have hB'r : B' ≤ r := by omega
  -- one step's bounds, for any such rate
  have bd : ∀ (u : Int) (v : Nat), u.natAbs ≤ r → v ≤ r → (a * v).natAbs ≤ Ma * r ∧ (sI * u).natAbs ≤ 600000000 * r ∧ (sI * u * b).natAbs ≤ 600000000 * r * P ∧ b * v ≤ P * r := by
    intro u v hu hv
    have h1 : (a * (v : Int)).natAbs ≤ Ma * r := a_mul ha (by rw [Int.natAbs_natCast]; exact hv)
    have h2 : (sI * u).natAbs ≤ 600000000 * r := a_mul hs2 hu
    exact ⟨h1, h2, a_mul h2 (by rw [Int.natAbs_natCast]; exact hb), Nat.mul_le_mul hb hv⟩
  have big : 600000000 * r ≤ 600000000 * 999 := Nat.mul_le_mul (Nat.le_refl _) hr
  have num : ∀ (z w : Int64) (u : Int) (v : Nat), z.toInt = u → w.toInt = (v : Int) → u.natAbs ≤ r → v ≤ r → (x * w + s * z * y).toInt = a * v + sI * u * b ∧ (y * w).toInt = ((b * v : Nat) : Int) := by
    intro z w u v hz hw hu hv
    obtain ⟨h1, h2, h3, h4⟩ := bd u v hu hv
    have e1 : (x * w).toInt = a * v := l_mul hx hw (by omega)
    have e2 : (s * z).toInt = sI * u := l_mul hs hz (by omega)
    have e3 : (s * z * y).toInt = sI * u * b := l_mul e2 hy (by omega)
    have e4 : (y * w).toInt = (b : Int) * v := l_mul hy hw (by
      have : ((b : Int) * (v : Int)).natAbs = b * v := by rw [Int.natAbs_mul, Int.natAbs_natCast, Int.natAbs_natCast]
      omega)
    refine ⟨l_add e1 e3 (by omega), ?_⟩
    rw [e4, Int.natCast_mul]
  have hpos : 0 < b * B := Nat.mul_pos hb0 (by omega)
  have hpos' : 0 < b * B' := Nat.mul_pos hb0 hB'0
  obtain ⟨n1, n2⟩ := num p q A B hp hq (by rw [Int.natAbs_natCast]; exact hA) hB
  obtain ⟨h1, h2, h3, h4⟩ := bd A B (by rw [Int.natAbs_natCast]; exact hA) hB
  obtain ⟨h1', h2', h3', h4'⟩ := bd A' B' hA'0 hB'r
  have eN : a * B + sI * A * b = (G : Int) * (a * B' + sI * A' * b) := by
    rw [eA, eB, Int.natCast_mul]
    grind
  have eD : b * B = G * (b * B') := by
    rw [eB]; grind
  obtain ⟨G2, a', b', hG2, hb'0, hb'D, ha'N, -, -, ta, tb, hg⟩ := f_red (a * B + sI * A * b) (B := b * B) hpos (by omega) (by omega) (by omega)
  have fin : ∀ (K : zL) (z w : Int64), z = gA A B → w = gB A B → gA (a * B' + sI * A' * b) (b * B') = gA (a * B + sI * A * b) (b * B) ∧ gB (a * B' + sI * A' * b) (b * B') = gB (a * B + sI * A * b) (b * B) := by
    intro K z w _ _
    rw [eN, eD, gA_scale hG, gB_scale hG]
    exact ⟨rfl, rfl⟩
  refine ⟨gA (a * B + sI * A * b) (b * B), gB (a * B + sI * A * b) (b * B), a', b', ta, tb, by omega, hb'0, by omega, hg, ?_, ?_⟩
  · intro I L R
    have hc := c_become (X := X) (im := im) (tl := tl) (I := I) (L := va_up L 38 (g38 R x y)) n1 n2 hpos (by omega) (by omega) (by omega)
    refine sg_X3_add_0_0 _ _ hc (ev_r (sg_X3_add_23_0 _ _) ?_)
    rw [va_up_self, g38_g38, va_up2]
  · intro J K k6 k7
    rw [k6, k7]
    obtain ⟨m1, m2⟩ := num (gA A B) (gB A B) A' B' tA tB hA'0 hB'r
    obtain ⟨f1, f2⟩ := fin K _ _ rfl rfl
    rw [← f1, ← f2]
    exact m_frac m1 m2 hpos' (by omega) (by omega) (by omega)
def vP : Nat → Nat
  | 0 => 1
  | 1 => 1
  | 2 => 999
  | 3 => 998001
  | _ => 997002999
def vR : Nat → Nat
  | 0 => 1
  | _ => 999
def vM (c : Nat) : Nat := c * 600000000 * vP c
theorem vR_le {c A : Nat} (h : A ≤ 999) (h0 : c = 0 → A = 1) : A ≤ vR c := by
  cases c with
  | zero => rw [h0 rfl]; exact Nat.le_refl _
  | succ c => exact h
theorem v_bd : ∀ c, c < 4 → vM c * vR c + 600000000 * vR c * vP c = vM (c + 1) ∧ vP c * vR c = vP (c + 1) ∧ vM (c + 1) < 2 ^ 62 ∧ vP (c + 1) < 2 ^ 40 ∧ vR c ≤ 999 := by decide +kernel
theorem j_val (hA : rA d I L I L) (hJ : rJ d I I L) (hd : d.day ≤ 999) (hr : RR d.cnt (I 17) (I 18) (I 19) (I 20) (I 40)) {t : Nat} (ht : t < d.nA) (day : Int32) (R : Nat → Int64) : ∀ (f c : Nat), c + f = 4 → ∀ (x y : Int64) (a : Int) (b : Nat), x.toInt = a → y.toInt = (b : Int) → a.natAbs ≤ vM c → 0 < b → b ≤ vP c → Nat.gcd a.natAbs b = 1 → ∃ (x' y' : Int64) (a' : Int) (b' : Nat), x'.toInt = a' ∧ y'.toInt = (b' : Int) ∧ a'.natAbs ≤ vM 4 ∧ 0 < b' ∧ b' ≤ vP 4 ∧ Nat.gcd a'.natAbs b' = 1 ∧
    zEv X mt_X0_writeValue 9 [.ref 1, .int (nI t), .int day, .ref 38, .int (nI c), .null, .null, .null] [] (zSH im tl, I, va_up L 38 (g38 R x y)) (none, (zSH im tl, I, va_up L 38 (g38 R x' y'))) ∧
    (∀ (K : zL), rA d I L I K → rJ d I I K → ∀ (R : Nat → Int64), zEv X mt_X11_valueBy 8 [.ref 39, .int (nI t), .int day, .long x, .null, .long y, .null, .int (nI c), .null, .null] [] (zSH im tl, I, va_up K 39 R) (none, (zSH im tl, I, va_up K 39 (g39 R x' y')))) := by
  intro f
  induction f with
  | zero =>
    intro c hc x y a b hx hy ha hb0 hb hg
    have : c = 4 := by omega
    subst this
    have e4 : (4 : Int32) ≤ nI 4 := by decide
    refine ⟨x, y, a, b, hx, hy, ha, hb0, hb, hg, sg_X0_writeValue_9_0 _ _ _ e4, fun K _ _ R => ?_⟩
    obtain ⟨g1, g2⟩ := g_self hx hy hg
    have v4 : vM 4 < 2 ^ 62 := by decide +kernel
    have p4 : vP 4 < 2 ^ 40 := by decide +kernel
    have hm := m_frac (X := X) (im := im) (tl := tl) (J := I) (K := va_up K 39 R) hx hy hb0 (by omega) (by omega) (by omega)
    rw [g1, g2, va_up_self, va_up2] at hm
    exact sg_X11_valueBy_8_0 _ _ _ _ _ e4 hm (sg_X11_valueBy_83_0 _ _ _ _ _)
  | succ f ih =>
    intro c hc x y a b hx hy ha hb0 hb hg
    have hc4 : c < 4 := by omega
    obtain ⟨w1, w2, w3, w4, w5⟩ := v_bd c hc4
    obtain ⟨A, B, A1, A2, B1, B2, hqa, hqb, hq0⟩ := q_rng (J := I) hr hc4 day
    have hAr : A ≤ vR c := vR_le A2 (fun e => (hq0 e).1)
    have hBr : B ≤ vR c := vR_le B2 (fun e => (hq0 e).2)
    have hsb := cB_bd hJ hA.n30 t (nI c) 0 day
    obtain ⟨x1, y1, a1, b1, e1, e2, e3, e4, e5, e6, cl, mo⟩ := v_step (X := X) (im := im) (tl := tl) (Ma := vM c) (P := vP c) (r := vR c) (by omega) (by omega) hx hy (rfl : (cB I d t (nI c) 0 day).toInt = _) hqa hqb ha hb0 hb hsb hAr B1 hBr w5
    obtain ⟨x', y', a', b', q1, q2, q3, q4, q5, q6, q7, q8⟩ := ih (c + 1) (by omega) x1 y1 a1 b1 e1 e2 (by omega) e4 (by omega) e6
    have n4 : ¬ (4 : Int32) ≤ nI c := k_nle (a := 4) rfl rfl hc4 (by omega)
    refine ⟨x', y', a', b', q1, q2, q3, q4, q5, q6, ?_, fun K kA kJ R2 => ?_⟩
    · refine sg_X0_writeValue_9_1 _ _ _ n4 (c_findHeld hr hc4 _) (sg_X0_writeValue_25_0 _ _ _ _ (cb_sumOfBranch (show rA d I (va_up L 38 (g38 R x y)) I L from hA) hJ ht _ _ _) (sg_X0_writeValue_36_0 _ _ _ _ _ (c_aboveAt hr hc4 _ _) (sg_X0_writeValue_50_0 _ _ _ _ _ _ _ (c_belowAt hr hc4 _ _) (sg_X0_writeValue_60_0 _ _ _ _ _ _ _ (cl _ _ _) (sg_X0_writeValue_63_0 _ _ _ _ _ ?_)))))
      rw [nI_1]
      exact q7
    · have mr := m_rateBy (X := X) (im := im) (tl := tl) (J := I) hr hc4 day hqa hqb A2 B1 B2 (va_up K 39 R2)
      rw [va_up_self, va_up2] at mr
      have mf := mo I (va_up K 39 (g39 R2 (gA A B) (gB A B))) rfl rfl
      rw [va_up_self, g39_g39, va_up2] at mf
      refine sg_X11_valueBy_8_1 _ _ _ _ _ n4 (mo_branchBy (show rA d I L I (va_up K 39 R2) from kA) (show rJ d I I (va_up K 39 R2) from kJ) hd ht _ _) (sg_X11_valueBy_22_0 _ _ _ _ _ _ mr (sg_X11_valueBy_31_0 _ _ _ _ _ _ mf (sg_X11_valueBy_59_0 _ _ _ _ _ _ ?_)))
      rw [nI_1]
      have q9 := q8 K kA kJ (g39 R2 x1 y1)
      rw [g39_g39] at q9
      exact q9
theorem j_value (hA : rA d I L I L) (hJ : rJ d I I L) (hd : d.day ≤ 999) (hr : RR d.cnt (I 17) (I 18) (I 19) (I 20) (I 40)) {t : Nat} (ht : t < d.nA) (day : Int32) : ∃ (x y : Int64) (a : Int) (b : Nat), x.toInt = a ∧ y.toInt = (b : Int) ∧ a.natAbs ≤ vM 4 ∧ 0 < b ∧ b ≤ vP 4 ∧
    zEv X mt_X0_writeValue 0 [.ref 1, .int (nI t), .int day, .ref 38, .null, .null, .null, .null] [] (zSH im tl, I, L) (none, (zSH im tl, I, va_up L 38 (g38 (L 38) x y))) ∧
    zEv X mt_X11_valueBy 0 [.ref 39, .int (nI t), .int day, .null, .null, .null, .null, .null, .null, .null] [] (zSH im tl, I, va_up L 38 (g38 (L 38) x y)) (none, (zSH im tl, I, va_up (va_up L 38 (g38 (L 38) x y)) 39 (g39 (L 39) x y))) := by
  have o0 : (0 : Int64).toInt = 0 := by decide +kernel
  have o1 : (1 : Int64).toInt = ((1 : Nat) : Int) := by decide +kernel
  have b0 := c_become (X := X) (im := im) (tl := tl) (I := I) (L := L) o0 o1 (by omega) (by omega) (by omega) (by omega)
  rw [show gA 0 1 = 0 by decide +kernel, show gB 0 1 = 1 by decide +kernel] at b0
  obtain ⟨x, y, a, b, q1, q2, q3, q4, q5, -, q7, q8⟩ := j_val (X := X) (im := im) (tl := tl) hA hJ hd hr ht day (L 38) 4 0 rfl 0 1 0 1 o0 o1 (by decide) (by decide) (by decide) (by decide)
  refine ⟨x, y, a, b, q1, q2, q3, q4, q5, sg_X0_writeValue_0_0 _ _ b0 (sg_X0_writeValue_6_0 _ _ q7), sg_X11_valueBy_0_0 _ _ ?_⟩
  have r9 := q8 (va_up L 38 (g38 (L 38) x y)) hA hJ (L 39)
  rw [va_up_id (f := va_up L 38 (g38 (L 38) x y)) (k := 39) (v := L 39) rfl] at r9
  exact r9
end VA
