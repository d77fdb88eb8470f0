section RT1
variable {X : zSc} {im : Option Nat} {tl : List zS} {I J : zI} {L K : zL} {d : zD} {n : Nat → Int32}
/-- which of a currency's first k rates holds by a day -/
def fh (D : Nat → Int32) (c : Nat) (t : Int32) : Nat → Option Nat
  | 0 => none
  | k + 1 => if t < D (20 * c + k) then fh D c t k else match fh D c t k with
    | none => some k
    | some b => if D (20 * c + k) ≤ D (20 * c + b) then some b else some k
theorem fh_lt (D : Nat → Int32) (c : Nat) (t : Int32) : ∀ k b, fh D c t k = some b → b < k
  | 0, b, h => by rw [fh] at h; cases h
  | k + 1, b, h => by
    rw [fh] at h
    split at h
    · have := fh_lt D c t k b h; omega
    · split at h
      · injection h with h; omega
      · rename_i b' hb
        have := fh_lt D c t k b' hb
        split at h
        · injection h with h; omega
        · injection h with h; omega
def fe (c : Nat) : Option Nat → Int32
  | none => -5
  | some b => nI (20 * c + b)
def fm (c : Nat) : Option Nat → Int32
  | none => -1
  | some b => nI (20 * c + b)
theorem k20b {c k : Nat} : nI c * (20 : Int32) = nI (20 * c) := by rw [show (20 : Int32) = nI 20 from rfl, pk_mul, Nat.mul_comm]
theorem c_findHeld {cnt : Nat → Nat} {n : Nat → Int32} (h : RR cnt (I 17) (I 18) (I 19) (I 20) n) {c : Nat} (hc : c < 4) (t : Int32) : zEv X mt_X5_findHeld 0 [.ref 16, .int (nI c), .int t, .null, .null, .null] [] (zSH im tl, I, L) (some (.int (fe c (fh (I 18) c t (cnt c)))), (zSH im tl, I, L)) := by
  obtain ⟨h20, hK⟩ := h.t c hc
  have cc : (nI c).toNatClampNeg = c := kc (by omega)
  have ci := k_in (x := nI c) (n := 4) rfl hc (by omega)
  refine sg_X5_findHeld_0_0 _ _ ?_
  rw [k20b (k := 0)]
  have loop : ∀ (f k : Nat), k + f = cnt c → zEv X mt_X5_findHeld 13 [.ref 16, .int (nI c), .int t, .int (fe c (fh (I 18) c t k)), .int (nI (20 * c)), .int (nI (20 * c + k))] [] (zSH im tl, I, L) (some (.int (fe c (fh (I 18) c t (cnt c)))), (zSH im tl, I, L)) := by
    intro f
    induction f with
    | zero =>
      intro k hk
      have : k = cnt c := by omega
      subst this
      exact sg_X5_findHeld_13_0 _ _ _ _ _ ci (by rw [cc, hK, nI_add]; exact Int32.le_refl _)
    | succ f ih =>
      intro k hk
      have h2 := ih (k + 1) (by omega)
      have hn : ¬ nI (20 * c) + I 17 (nI c).toNatClampNeg ≤ nI (20 * c + k) := by rw [cc, hK, nI_add]; exact nI_ge (by omega) (by omega)
      have c5 : (nI (20 * c + k)).toNatClampNeg = 20 * c + k := kc (by omega)
      have i5 := k_in (x := nI (20 * c + k)) (n := 80) rfl (by omega) (by omega)
      rw [show 20 * c + (k + 1) = 20 * c + k + 1 by omega, ← nI_1 (20 * c + k), fh] at h2
      by_cases e : t < I 18 (20 * c + k)
      · rw [if_pos e] at h2
        exact sg_X5_findHeld_13_1 _ _ _ _ _ ci hn i5 (by rw [c5]; exact e) h2
      · rw [if_neg e] at h2
        cases hb : fh (I 18) c t k with
        | none =>
          rw [hb] at h2
          exact sg_X5_findHeld_13_2 _ _ _ _ _ ci hn i5 (by rw [c5]; exact e) rfl h2
        | some b =>
          have hbk := fh_lt _ _ _ _ _ hb
          have cb : (fe c (some b)).toNatClampNeg = 20 * c + b := kc (by omega)
          have ib := k_in (x := fe c (some b)) (n := 80) (a := 20 * c + b) rfl (by omega) (by omega)
          have nb : ¬ fe c (some b) = -5 := n5 (k := 20 * c + b) (by omega)
          rw [hb] at h2
          by_cases e2 : I 18 (20 * c + k) ≤ I 18 (20 * c + b)
          · simp only [if_pos e2] at h2
            exact sg_X5_findHeld_13_3 _ _ _ _ _ ci hn i5 (by rw [c5]; exact e) nb i5 ib (by rw [c5, cb]; exact e2) h2
          · simp only [if_neg e2] at h2
            exact sg_X5_findHeld_13_4 _ _ _ _ _ ci hn i5 (by rw [c5]; exact e) nb i5 ib (by rw [c5, cb]; exact e2) h2
  exact loop (cnt c) 0 (by omega)
end RT1
