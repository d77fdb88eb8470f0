section FR
variable {X : zSc} {im : Option Nat} {tl : List zS} {I J : zI} {L K : zL}
theorem l_rem {x y : Int64} (hx : 0 ≤ x.toInt) (hy : 0 < y.toInt) : (x - x / y * y).toInt = x.toInt % y.toInt := by
  have hb := Int64.toInt_lt x
  have e1 : (x / y).toInt = x.toInt / y.toInt := by
    rw [Int64.toInt_div, Int.tdiv_eq_ediv_of_nonneg hx]
    have h1 : 0 ≤ x.toInt / y.toInt := Int.ediv_nonneg hx (by omega)
    have h2 : x.toInt / y.toInt ≤ x.toInt := Int.ediv_le_self _ hx
    exact Int.bmod_eq_of_le (by omega) (by omega)
  have h3 := Int.mul_ediv_add_emod x.toInt y.toInt
  have h4 := Int.emod_nonneg x.toInt (show y.toInt ≠ 0 by omega)
  have h5 : 0 ≤ x.toInt / y.toInt * y.toInt := Int.mul_nonneg (Int.ediv_nonneg hx (by omega)) (by omega)
  rw [Int.mul_comm] at h3
  have e2 : (x / y * y).toInt = x.toInt / y.toInt * y.toInt := by
    rw [Int64.toInt_mul, e1]
    exact Int.bmod_eq_of_le (by omega) (by omega)
  rw [Int64.toInt_sub, e2]
  rw [show x.toInt - x.toInt / y.toInt * y.toInt = x.toInt % y.toInt by omega]
  have h6 := Int.emod_lt_of_pos x.toInt hy
  have hby := Int64.toInt_lt y
  exact Int.bmod_eq_of_le (by omega) (by omega)
theorem l_0 {x : Int64} : x = 0 ↔ x.toInt = 0 := by
  have e : (0 : Int64).toInt = 0 := by decide +kernel
  constructor
  · intro h; rw [h]; exact e
  · intro h; apply Int64.toInt_inj.mp; rw [h, e]
/-- the model's way to the greatest common divisor -/
theorem m_gcd (v1 v3 : Int64) {r : Option Value × zM} : ∀ (s b a : Nat) (x y : Int64), b ≤ s → x.toInt = a → y.toInt = b → (∀ g z : Int64, g.toInt = (Nat.gcd a b : Nat) → z = 0 → zEv X mt_X11_fraction 17 [.ref 39, .long v1, .null, .long v3, .null, .long g, .null, .long z, .null, .null, .null] [] (zSH im tl, J, K) r) → zEv X mt_X11_fraction 17 [.ref 39, .long v1, .null, .long v3, .null, .long x, .null, .long y, .null, .null, .null] [] (zSH im tl, J, K) r := by
  intro s
  induction s with
  | zero =>
    intro b a x y hb hx hy k
    have : b = 0 := by omega
    subst this
    exact k x y (by rw [hx, Nat.gcd_zero_right]) (l_0.mpr (by rw [hy]; rfl))
  | succ s ih =>
    intro b a x y hb hx hy k
    by_cases h0 : b = 0
    · subst h0
      exact k x y (by rw [hx, Nat.gcd_zero_right]) (l_0.mpr (by rw [hy]; rfl))
    · have hy0 : ¬ y = 0 := fun e => h0 (by have := l_0.mp e; omega)
      refine sg_X11_fraction_17_1 _ _ _ _ (fun e => hy0 ((lg_cmp_eq _ _).mp e)) hy0 (ih (a % b) b y _ ?_ hy ?_ (fun g z h1 h2 => k g z ?_ h2))
      · have := Nat.mod_lt a (show 0 < b by omega); omega
      · rw [l_rem (by omega) (by omega), hx, hy]; exact (Int.natCast_emod a b).symm
      · rw [h1, Nat.gcd_comm b (a % b), ← Nat.gcd_rec, Nat.gcd_comm]
end FR
