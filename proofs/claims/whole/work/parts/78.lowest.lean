section LW
variable {X : zSc} {im : Option Nat} {tl : List zS} {I J : zI} {L K : zL}
theorem l_divx {x g : Int64} {A : Int} {G : Nat} (hx : x.toInt = A) (hg : g.toInt = (G : Int)) (h0 : 0 < G) (hd : (G : Int) ∣ A) (h1 : -(2 ^ 62) < A) (h2 : A < 2 ^ 62) : (x / g).toInt = A / G := by
  rw [Int64.toInt_div, hx, hg, Int.tdiv_eq_ediv_of_dvd hd]
  obtain ⟨c, rfl⟩ := hd
  have hG : (G : Int) ≠ 0 := by omega
  rw [Int.mul_ediv_cancel_left _ hG]
  have h3 : c.natAbs ≤ ((G : Int) * c).natAbs := by
    rw [Int.natAbs_mul]
    exact Nat.le_mul_of_pos_left _ (by omega)
  exact Int.bmod_eq_of_le (by omega) (by omega)
theorem g_dvd {A : Int} {B : Nat} : ((Nat.gcd A.natAbs B : Nat) : Int) ∣ A := Int.dvd_natAbs.mp (Int.natCast_dvd_natCast.mpr (Nat.gcd_dvd_left _ _))
theorem g_dvd2 {A : Int} {B : Nat} : ((Nat.gcd A.natAbs B : Nat) : Int) ∣ (B : Int) := Int.natCast_dvd_natCast.mpr (Nat.gcd_dvd_right _ _)
theorem m_fraction {x y : Int64} {A : Int} {B : Nat} (hx : x.toInt = A) (hy : y.toInt = (B : Int)) (hB : 0 < B) (h1 : -(2 ^ 62) < A) (h2 : A < 2 ^ 62) (h3 : B < 2 ^ 62) : ∃ p q : Int64, p.toInt = A / (Nat.gcd A.natAbs B : Nat) ∧ q.toInt = (B : Int) / (Nat.gcd A.natAbs B : Nat) ∧ zEv X mt_X11_fraction 0 [.ref 39, .long x, .null, .long y, .null, .null, .null, .null, .null, .null, .null] [] (zSH im tl, J, K) (none, (zSH im tl, J, va_up K 39 (vp_updL (vp_updL (K 39) 6 p) 7 q))) := by
  have hG : 0 < Nat.gcd A.natAbs B := Nat.gcd_pos_of_pos_right _ hB
  have z0 : (0 : Int64).toInt = 0 := by decide +kernel
  have fin : ∀ w : Int64, w.toInt = (A.natAbs : Nat) → ∀ p q : Int64, p.toInt = A / (Nat.gcd A.natAbs B : Nat) → q.toInt = (B : Int) / (Nat.gcd A.natAbs B : Nat) → zEv X mt_X11_fraction 17 [.ref 39, .long x, .null, .long y, .null, .long w, .null, .long y, .null, .null, .null] [] (zSH im tl, J, K) (none, (zSH im tl, J, va_up K 39 (vp_updL (vp_updL (K 39) 6 p) 7 q))) := by
    intro w hw p q hp hq
    refine m_gcd x y B B A.natAbs w y (Nat.le_refl _) hw hy (fun g z hg hz => ?_)
    have g0 : ¬ g = 0 := fun e => by have := l_0.mp e; omega
    refine ev_r (sg_X11_fraction_17_0 _ _ _ _ ((lg_cmp_eq _ _).mpr hz) g0 g0) ?_
    have e1 : x / g = p := Int64.toInt_inj.mp (by rw [hp]; exact l_divx hx hg hG g_dvd h1 h2)
    have e2 : y / g = q := Int64.toInt_inj.mp (by rw [hq]; exact l_divx hy hg hG g_dvd2 (by omega) (by omega))
    rw [e1, e2, va_up2]
  obtain ⟨p, hp⟩ : ∃ p : Int64, p.toInt = A / (Nat.gcd A.natAbs B : Nat) := ⟨x / Int64.ofNat (Nat.gcd A.natAbs B), l_divx hx (by
    have : Nat.gcd A.natAbs B ≤ B := Nat.le_of_dvd hB (Nat.gcd_dvd_right _ _)
    exact Int64.toInt_ofNat_of_lt (by omega)) hG g_dvd h1 h2⟩
  obtain ⟨q, hq⟩ : ∃ q : Int64, q.toInt = (B : Int) / (Nat.gcd A.natAbs B : Nat) := ⟨y / Int64.ofNat (Nat.gcd A.natAbs B), l_divx hy (by
    have : Nat.gcd A.natAbs B ≤ B := Nat.le_of_dvd hB (Nat.gcd_dvd_right _ _)
    exact Int64.toInt_ofNat_of_lt (by omega)) hG g_dvd2 (by omega) (by omega)⟩
  refine ⟨p, q, hp, hq, ?_⟩
  by_cases hs : 0 ≤ lg_cmp x 0
  · have h4 := (lg_cmp_ge _ _).mp hs
    rw [Int64.le_iff_toInt_le, z0, hx] at h4
    exact sg_X11_fraction_0_0 _ _ hs (fin x (by rw [hx]; omega) p q hp hq)
  · have h4 : ¬ (0 : Int64) ≤ x := fun e => hs ((lg_cmp_ge _ _).mpr e)
    rw [Int64.le_iff_toInt_le, z0, hx] at h4
    refine sg_X11_fraction_0_1 _ _ hs (fin (-x) ?_ p q hp hq)
    rw [Int64.toInt_neg, hx, Int.bmod_eq_of_le (by omega) (by omega)]
    omega
end LW
