section BC
variable {X : zSc} {im : Option Nat} {tl : List zS} {I J : zI} {L K : zL}
/-- a fraction in lowest terms -/
def gA (A : Int) (B : Nat) : Int64 := Int64.ofInt (A / (Nat.gcd A.natAbs B : Nat))
def gB (A : Int) (B : Nat) : Int64 := Int64.ofInt ((B : Int) / (Nat.gcd A.natAbs B : Nat))
def g38 (R : Nat → Int64) (a b : Int64) : Nat → Int64 := vp_updL (vp_updL R 0 a) 1 b
def g39 (R : Nat → Int64) (a b : Int64) : Nat → Int64 := vp_updL (vp_updL R 6 a) 7 b
theorem g38_g38 (R : Nat → Int64) (a b c e : Int64) : g38 (g38 R a b) c e = g38 R c e := by
  funext k
  show (if k = 1 then e else if k = 0 then c else if k = 1 then b else if k = 0 then a else R k) = (if k = 1 then e else if k = 0 then c else R k)
  split
  · rfl
  · split <;> rfl
theorem g39_g39 (R : Nat → Int64) (a b c e : Int64) : g39 (g39 R a b) c e = g39 R c e := by
  funext k
  show (if k = 7 then e else if k = 6 then c else if k = 7 then b else if k = 6 then a else R k) = (if k = 7 then e else if k = 6 then c else R k)
  split
  · rfl
  · split <;> rfl
theorem g38_0 (R : Nat → Int64) (a b : Int64) : g38 R a b 0 = a := rfl
theorem g38_1 (R : Nat → Int64) (a b : Int64) : g38 R a b 1 = b := rfl
theorem g39_6 (R : Nat → Int64) (a b : Int64) : g39 R a b 6 = a := rfl
theorem g39_7 (R : Nat → Int64) (a b : Int64) : g39 R a b 7 = b := rfl
theorem i64_of {p : Int64} {v : Int} (h : p.toInt = v) : p = Int64.ofInt v := by rw [← h, Int64.ofInt_toInt]
theorem m_frac {x y : Int64} {A : Int} {B : Nat} (hx : x.toInt = A) (hy : y.toInt = (B : Int)) (hB : 0 < B) (h1 : -(2 ^ 62) < A) (h2 : A < 2 ^ 62) (h3 : B < 2 ^ 62) : zEv X mt_X11_fraction 0 [.ref 39, .long x, .null, .long y, .null, .null, .null, .null, .null, .null, .null] [] (zSH im tl, J, K) (none, (zSH im tl, J, va_up K 39 (g39 (K 39) (gA A B) (gB A B)))) := by
  obtain ⟨p, q, hp, hq, h⟩ := m_fraction (X := X) (im := im) (tl := tl) (J := J) (K := K) hx hy hB h1 h2 h3
  rw [i64_of hp, i64_of hq] at h
  exact h
theorem c_abs {x : Int64} {A : Int} (hx : x.toInt = A) (h1 : -(2 ^ 62) < A) (h2 : A < 2 ^ 62) : ∃ w : Int64, w.toInt = (A.natAbs : Nat) ∧ ∀ (I : zI) (L : zL), zEv X mt_J9_abs_067f4 0 [.long x, .null] [] (zSH im tl, I, L) (some (.long w), (zSH im tl, I, L)) := by
  have z0 : (0 : Int64).toInt = 0 := by decide +kernel
  by_cases hs : 0 ≤ lg_cmp x 0
  · have h4 := (lg_cmp_ge _ _).mp hs
    rw [Int64.le_iff_toInt_le, z0, hx] at h4
    exact ⟨x, by rw [hx]; omega, fun I L => sg_J9_abs_067f4_0_0 _ hs⟩
  · have h4 : ¬ (0 : Int64) ≤ x := fun e => hs ((lg_cmp_ge _ _).mpr e)
    rw [Int64.le_iff_toInt_le, z0, hx] at h4
    refine ⟨-x, ?_, fun I L => sg_J9_abs_067f4_0_1 _ hs⟩
    rw [Int64.toInt_neg, hx, Int.bmod_eq_of_le (by omega) (by omega)]
    omega
theorem c_become {x y : Int64} {A : Int} {B : Nat} (hx : x.toInt = A) (hy : y.toInt = (B : Int)) (hB : 0 < B) (h1 : -(2 ^ 62) < A) (h2 : A < 2 ^ 62) (h3 : B < 2 ^ 40) : zEv X mt_X3_become 0 [.ref 38, .long x, .null, .long y, .null, .null, .null] [] (zSH im tl, I, L) (none, (zSH im tl, I, va_up L 38 (g38 (L 38) (gA A B) (gB A B)))) := by
  have hG : 0 < Nat.gcd A.natAbs B := Nat.gcd_pos_of_pos_right _ hB
  have hGB : Nat.gcd A.natAbs B ≤ B := Nat.le_of_dvd hB (Nat.gcd_dvd_right _ _)
  obtain ⟨w, hw, ha⟩ := c_abs (X := X) (im := im) (tl := tl) hx h1 h2
  obtain ⟨g, hg, hc⟩ := c_gcd (X := X) (im := im) (tl := tl) (I := I) (L := va_up (va_up L 38 (vp_updL (L 38) 0 x)) 38 (vp_updL (vp_updL (L 38) 0 x) 1 y)) w y 40 A.natAbs B 0 w y h3 (by omega) hw hy
  have z1 : (1 : Int64).toInt = 1 := by decide +kernel
  refine sg_X3_become_0_0 _ _ (ha _ _) (sg_X3_become_14_0 _ _ _ (sg_X3_commonDivisor_0_0 _ _ hc) ?_)
  by_cases hs : lg_cmp g 1 ≤ 0
  · have h4 := (lg_cmp_le _ _).mp hs
    rw [Int64.le_iff_toInt_le, z1, hg] at h4
    have hg1 : Nat.gcd A.natAbs B = 1 := by omega
    refine ev_r (sg_X3_become_18_0 _ _ _ hs) ?_
    have e1 : gA A B = x := by
      apply Eq.symm
      refine (i64_of ?_)
      rw [hx, hg1]; exact (Int.ediv_one A).symm
    have e2 : gB A B = y := by
      apply Eq.symm
      refine (i64_of ?_)
      rw [hy, hg1]; exact (Int.ediv_one _).symm
    rw [e1, e2, va_up2]
    rfl
  · have g0 : ¬ g = 0 := fun e => by have := l_0.mp e; omega
    refine ev_r (sg_X3_become_18_1 _ _ _ hs g0 g0) ?_
    have e1 : x / g = gA A B := i64_of (l_divx hx hg hG g_dvd h1 h2)
    have e2 : y / g = gB A B := i64_of (l_divx hy hg hG g_dvd2 (by omega) (by omega))
    rw [e1, e2]
    simp only [va_up_self, va_up2]
    have e3 := g38_g38 (L 38) x y (gA A B) (gB A B)
    unfold g38 at e3
    rw [e3]
    rfl
theorem gA_scale {G : Nat} (hG : 0 < G) (A : Int) (B : Nat) : gA ((G : Int) * A) (G * B) = gA A B := by
  unfold gA
  rw [Int.natAbs_mul, Int.natAbs_natCast, Nat.gcd_mul_left, Int.natCast_mul, Int.mul_ediv_mul_of_pos _ _ (by omega)]
theorem gB_scale {G : Nat} (hG : 0 < G) (A : Int) (B : Nat) : gB ((G : Int) * A) (G * B) = gB A B := by
  unfold gB
  rw [Int.natAbs_mul, Int.natAbs_natCast, Nat.gcd_mul_left, Int.natCast_mul, Int.natCast_mul, Int.mul_ediv_mul_of_pos _ _ (by omega)]
/-- a reduced fraction: its numbers, and what it was -/
theorem f_red (A : Int) {B : Nat} (hB : 0 < B) (h1 : -(2 ^ 62) < A) (h2 : A < 2 ^ 62) (h3 : B < 2 ^ 62) : ∃ (G : Nat) (a : Int) (b : Nat), 0 < G ∧ 0 < b ∧ b ≤ B ∧ a.natAbs ≤ A.natAbs ∧ A = (G : Int) * a ∧ B = G * b ∧ (gA A B).toInt = a ∧ (gB A B).toInt = (b : Int) ∧ Nat.gcd a.natAbs b = 1 := by
  have hG : 0 < Nat.gcd A.natAbs B := Nat.gcd_pos_of_pos_right _ hB
  obtain ⟨a, ha⟩ := g_dvd (A := A) (B := B)
  obtain ⟨b, hb⟩ := Nat.gcd_dvd_right A.natAbs B
  have hg1 := Nat.gcd_div_gcd_div_gcd_of_pos_right (n := A.natAbs) (m := B) hB
  generalize hGe : Nat.gcd A.natAbs B = G at *
  have hb0 : 0 < b := by
    rcases Nat.eq_zero_or_pos b with h | h
    · rw [h] at hb; omega
    · exact h
  have hbB : b ≤ B := by rw [hb]; exact Nat.le_mul_of_pos_left _ hG
  have haA : a.natAbs ≤ A.natAbs := by
    rw [ha, Int.natAbs_mul, Int.natAbs_natCast]
    exact Nat.le_mul_of_pos_left _ hG
  have q1 : A / (G : Int) = a := by rw [ha]; exact Int.mul_ediv_cancel_left _ (by omega)
  have q2 : (B : Int) / (G : Int) = b := by rw [hb, Int.natCast_mul]; exact Int.mul_ediv_cancel_left _ (by omega)
  refine ⟨G, a, b, hG, hb0, hbB, haA, ha, hb, ?_, ?_, ?_⟩
  · unfold gA
    rw [hGe, q1]
    exact Int64.toInt_ofInt_of_le (by omega) (by omega)
  · unfold gB
    rw [hGe, q2]
    exact Int64.toInt_ofInt_of_le (by omega) (by omega)
  · have e1 : A.natAbs / G = a.natAbs := by rw [ha, Int.natAbs_mul, Int.natAbs_natCast]; exact Nat.mul_div_cancel_left _ hG
    have e2 : B / G = b := by rw [hb]; exact Nat.mul_div_cancel_left _ hG
    rw [e1, e2] at hg1
    exact hg1
end BC
