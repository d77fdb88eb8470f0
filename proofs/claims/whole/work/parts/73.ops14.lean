section OE
variable {X : zSc} {im : Option Nat} {tl : List zS} {I J : zI} {L K : zL} {d : zD} {n : Nat → Int32}
theorem c_isRatePart0 {a : Int32} (h : a < 1 ∨ 999 < a) : zEv X mt_X10_isRatePart 0 [.int a] [] (zSH im tl, J, K) (some (.int 0), (zSH im tl, J, K)) := by
  by_cases h1 : a < 1
  · exact sg_X10_isRatePart_0_0 _ h1
  · exact sg_X10_isRatePart_0_1 _ h1 (h.resolve_left h1)
theorem m_rloop {c t : Nat} {cnt : Nat → Nat} {D : Nat → Int32} (hc : c < 4) (h20 : cnt c ≤ 20) (hd : ∀ k, k < cnt c → n (1024 + (20 * c + k)) = D (20 * c + k)) (a b : Int32) {k1 : Nat} (hk1 : k1 ≤ cnt c) (hn : ∀ i, i < k1 → ¬ D (20 * c + i) = nI t) {r : Option Value × zM} (h : zEv X mt_X11_rate 75 [.ref 39, .int (nI c), .int (nI t), .int a, .int b, .int (nI (cnt c)), .int (nI k1)] [] (zSH im tl, va_up J 40 n, K) r) : zEv X mt_X11_rate 75 [.ref 39, .int (nI c), .int (nI t), .int a, .int b, .int (nI (cnt c)), .int (nI 0)] [] (zSH im tl, va_up J 40 n, K) r := by
  have loop : ∀ f k, k + f = k1 → zEv X mt_X11_rate 75 [.ref 39, .int (nI c), .int (nI t), .int a, .int b, .int (nI (cnt c)), .int (nI k)] [] (zSH im tl, va_up J 40 n, K) r := by
    intro f
    induction f with
    | zero => intro k hk; have : k = k1 := by omega
              subst this; exact h
    | succ f ih =>
      intro k hk
      refine sg_X11_rate_75_3 _ _ _ _ _ _ (nI_ge (by omega) (by omega)) m_rateAt (sg_X11_rate_95_3 _ _ _ _ _ _ _ _ (k_in (nI_add 1024 _) (by omega) (by omega)) ?_ (by rw [nI_1]; exact ih (k + 1) (by omega)))
      rw [kx 1024 (a := 1024) rfl (by omega), va_up_self, hd k (by omega)]
      exact hn k (by omega)
  exact loop k1 0 (by omega)
end OE
