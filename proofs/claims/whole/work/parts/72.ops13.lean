section OD
variable {X : zSc} {im : Option Nat} {tl : List zS} {I J : zI} {L K : zL} {d : zD} {n : Nat → Int32}
theorem fh_le (D : Nat → Int32) (c : Nat) (t : Int32) : ∀ k b, fh D c t k = some b → ¬ t < D (20 * c + b)
  | 0, b, h => by rw [fh] at h; cases h
  | k + 1, b, h => by
    rw [fh] at h
    split at h
    · exact fh_le D c t k b h
    · rename_i hk
      split at h
      · injection h with h; rw [← h]; exact hk
      · rename_i b' hb
        split at h
        · injection h with h; rw [← h]; exact fh_le D c t k b' hb
        · injection h with h; rw [← h]; exact hk
theorem fh_first {D : Nat → Int32} {c : Nat} {t : Int32} {k0 : Nat} (h0 : D (20 * c + k0) = t) (h1 : ∀ k, k < k0 → D (20 * c + k) ≠ t) : ∀ f, fh D c t (k0 + 1 + f) = some k0
  | 0 => by
    show fh D c t (k0 + 1) = some k0
    rw [fh, if_neg (by rw [h0]; exact fun q => Int32.lt_irrefl q)]
    cases hb : fh D c t k0 with
    | none => rfl
    | some b =>
      have hlt := fh_lt _ _ _ _ _ hb
      have hle := fh_le _ _ _ _ _ hb
      have hne := h1 b hlt
      show (if D (20 * c + k0) ≤ D (20 * c + b) then some b else some k0) = some k0
      rw [if_neg]
      rw [h0]
      intro hq
      exact hne (Int32.le_antisymm (Int32.not_lt.mp hle) hq)
  | f + 1 => by
    show fh D c t (k0 + 1 + f + 1) = some k0
    rw [fh, fh_first h0 h1 f]
    split
    · rfl
    · rename_i hk
      show (if D (20 * c + (k0 + 1 + f)) ≤ D (20 * c + k0) then some k0 else some (k0 + 1 + f)) = some k0
      rw [if_pos]
      rw [h0]; exact Int32.not_lt.mp hk
/-- a first place with a property, or none -/
theorem k_first (q : Nat → Prop) : ∀ m, (∃ k, k < m ∧ q k ∧ ∀ i, i < k → ¬ q i) ∨ ∀ i, i < m → ¬ q i := by
  intro m
  induction m with
  | zero => exact Or.inr (fun i hi => by omega)
  | succ m ih =>
    rcases ih with ⟨k, h1, h2⟩ | h
    · exact Or.inl ⟨k, by omega, h2⟩
    · by_cases e : q m
      · exact Or.inl ⟨m, by omega, e, h⟩
      · refine Or.inr (fun i hi => ?_)
        by_cases e2 : i = m
        · subst e2; exact e
        · exact h i (by omega)
theorem k20a {c k : Nat} : (20 : Int32) * nI c + nI k = nI (20 * c + k) := by rw [show (20 : Int32) = nI 20 from rfl, pk_mul, nI_add]
theorem m_rateAt {c k : Nat} : zEv X mt_X11_rateAt 0 [.int (nI c), .int (nI k)] [] (zSH im tl, J, K) (some (.int (nI (20 * c + k))), (zSH im tl, J, K)) := ev_r (sg_X11_rateAt_0_0 _ _) (by rw [k20a])
theorem m_rset {c k : Nat} (hc : c < 4) (hk : k < 20) (t a b v5 : Int32) : zEv X mt_X11_rate 151 [.ref 39, .int (nI c), .int t, .int a, .int b, .int v5, .int (nI k)] [.int (nI (20 * c + k)), .int 1024, .ref 40] (zSH im tl, va_up J 40 n, K) (some (.int (n (1020 + c))), (zSH im tl, va_up J 40 (upd (upd (upd n (1024 + (20 * c + k)) t) (1104 + (20 * c + k)) a) (1184 + (20 * c + k)) b), K)) := by
  have e1 : ((1024 : Int32) + nI (20 * c + k)).toNatClampNeg = 1024 + (20 * c + k) := kx 1024 (a := 1024) rfl (by omega)
  have e2 : ((1104 : Int32) + nI (20 * c + k)).toNatClampNeg = 1104 + (20 * c + k) := kx 1104 (a := 1104) rfl (by omega)
  have e3 : ((1184 : Int32) + nI (20 * c + k)).toNatClampNeg = 1184 + (20 * c + k) := kx 1184 (a := 1184) rfl (by omega)
  have e4 : ((1020 : Int32) + nI c).toNatClampNeg = 1020 + c := kx 1020 (a := 1020) rfl (by omega)
  refine sg_X11_rate_151_0 _ _ _ _ _ _ _ _ (k_in (nI_add 1024 _) (by omega) (by omega)) m_rateAt (sg_X11_rate_167_0 _ _ _ _ _ _ _ _ (k_in (nI_add 1104 _) (by omega) (by omega)) m_rateAt (ev_r (sg_X11_rate_183_0 _ _ _ _ _ _ _ _ (k_in (nI_add 1184 _) (by omega) (by omega)) (k_in (nI_add 1020 _) (by omega) (by omega))) ?_))
  rw [e1, e2, e3, e4]
  simp only [va_up_self, va_up2]
  rw [pk_un (f := upd (upd n (1024 + (20 * c + k)) t) (1104 + (20 * c + k)) a) (j := 1020 + c) (by omega), pk_un (f := upd n (1024 + (20 * c + k)) t) (j := 1020 + c) (by omega), pk_un (f := n) (j := 1020 + c) (by omega)]
end OD
