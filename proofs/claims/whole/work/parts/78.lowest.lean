section LW
variable {X : zSc} {im : Option Nat} {tl : List zS} {I J : zI} {L K : zL}
theorem l_divx {x g : Int64} {A : Int} {G : Nat} (hx : x.toInt = A) (hg : g.toInt = (G : Int)) (h0 : 0 < G) (hd : (G : Int) ∣ A) (h1 : -(2 ^ 62) < A) (h2 : A < 2 ^ 62) : (x / g).toInt = A / G := by
  rw [Int64.toInt_div, hx, hg, Int.tdiv_eq_ediv_of_dvd hd]
  obtain ⟨c, rfl⟩ := hd
  have hG : (G : Int) ≠ 0 := by omega
  rw [Int.mul_ediv_cancel_left _ hG]
  have h3 : c.natAbs ≤ ((G : Int) * c).natAbs := by
    rw [Int.natAbs_mul]
    exact Nat.le_mul_of_pos_left _ (by omega)
  exact Int.bmod_eq_of_le (by omega) (by omega)
end LW
