section CG
variable {X : zSc} {im : Option Nat} {tl : List zS} {I J : zI} {L K : zL}
theorem half2 {b c : Nat} (hc : 0 < c) (h : c < b) : 2 * (b % c) < b := by
  have h1 := Nat.mod_lt b hc
  have h2 := Nat.div_add_mod b c
  have h3 : 1 ≤ b / c := (Nat.le_div_iff_mul_le hc).mpr (by omega)
  have h4 : c ≤ c * (b / c) := Nat.le_mul_of_pos_right c h3
  omega
theorem c_gcd (v0 v2 : Int64) : ∀ (f a b k : Nat) (x y : Int64), b < 2 ^ f → k + 2 * f < 100 → x.toInt = a → y.toInt = b → ∃ g : Int64, g.toInt = (Nat.gcd a b : Nat) ∧ zEv X mt_X3_commonDivisor 9 [.long v0, .null, .long v2, .null, .long x, .null, .long y, .null, .int (nI k), .null, .null] [] (zSH im tl, I, L) (some (.long g), (zSH im tl, I, L)) := by
  intro f
  induction f with
  | zero =>
    intro a b k x y hb hk hx hy
    have : b = 0 := by omega
    subst this
    exact ⟨x, by rw [hx, Nat.gcd_zero_right], sg_X3_commonDivisor_9_1 _ _ _ _ _ (k_nle (a := 100) rfl rfl (by omega) (by omega)) ((lg_cmp_eq _ _).mpr (l_0.mpr (by rw [hy]; rfl)))⟩
  | succ f ih =>
    intro a b k x y hb hk hx hy
    by_cases h0 : b = 0
    · subst h0
      exact ⟨x, by rw [hx, Nat.gcd_zero_right], sg_X3_commonDivisor_9_1 _ _ _ _ _ (k_nle (a := 100) rfl rfl (by omega) (by omega)) ((lg_cmp_eq _ _).mpr (l_0.mpr (by rw [hy]; rfl)))⟩
    · have hy0 : ¬ y = 0 := fun e => h0 (by have := l_0.mp e; omega)
      have hr : (x - x / y * y).toInt = (a % b : Nat) := by rw [l_rem (by omega) (by omega), hx, hy]; exact (Int.natCast_emod a b).symm
      have hm := Nat.mod_lt a (show 0 < b by omega)
      have e1 : Nat.gcd a b = Nat.gcd b (a % b) := by rw [Nat.gcd_comm b (a % b), ← Nat.gcd_rec, Nat.gcd_comm]
      by_cases h1 : a % b = 0
      · refine ⟨y, by rw [hy, e1, h1, Nat.gcd_zero_right], sg_X3_commonDivisor_9_2 _ _ _ _ _ (k_nle (a := 100) rfl rfl (by omega) (by omega)) (fun e => hy0 ((lg_cmp_eq _ _).mp e)) hy0 ?_⟩
        rw [nI_1]
        exact sg_X3_commonDivisor_9_1 _ _ _ _ _ (k_nle (a := 100) rfl rfl (by omega) (by omega)) ((lg_cmp_eq _ _).mpr (l_0.mpr (by rw [hr, h1]; rfl)))
      · have hz0 : ¬ x - x / y * y = 0 := fun e => h1 (by have := l_0.mp e; omega)
        have hr2 : (y - y / (x - x / y * y) * (x - x / y * y)).toInt = (b % (a % b) : Nat) := by rw [l_rem (by omega) (by omega), hr, hy]; exact (Int.natCast_emod b (a % b)).symm
        have hh := half2 (b := b) (c := a % b) (by omega) hm
        have e2 : Nat.gcd b (a % b) = Nat.gcd (a % b) (b % (a % b)) := by rw [Nat.gcd_comm (a % b) (b % (a % b)), ← Nat.gcd_rec, Nat.gcd_comm]
        rw [Nat.pow_succ] at hb
        obtain ⟨g, g1, g2⟩ := ih (a % b) (b % (a % b)) (k + 1 + 1) (x - x / y * y) _ (by omega) (by omega) hr hr2
        refine ⟨g, by rw [g1, e1, e2], sg_X3_commonDivisor_9_2 _ _ _ _ _ (k_nle (a := 100) rfl rfl (by omega) (by omega)) (fun e => hy0 ((lg_cmp_eq _ _).mp e)) hy0 ?_⟩
        rw [nI_1]
        refine sg_X3_commonDivisor_9_2 _ _ _ _ _ (k_nle (a := 100) rfl rfl (by omega) (by omega)) (fun e => hz0 ((lg_cmp_eq _ _).mp e)) hz0 ?_
        rw [nI_1]
        exact g2
end CG
