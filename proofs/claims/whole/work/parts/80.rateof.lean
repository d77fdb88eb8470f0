section RO2
variable {X : zSc} {im : Option Nat} {tl : List zS} {I J : zI} {L K : zL} {d : zD}
/-- the parts of the rate that holds -/
def qa (I : zI) (c : Nat) : Option Nat → Int64
  | none => 1
  | some b => (I 19 (20 * c + b)).toInt64
def qb (I : zI) (c : Nat) : Option Nat → Int64
  | none => 1
  | some b => (I 20 (20 * c + b)).toInt64
abbrev qh (d : zD) (I : zI) (c : Nat) (t : Int32) : Option Nat := fh (I 18) c t (d.cnt c)
theorem q_rng (h : RR d.cnt (I 17) (I 18) (I 19) (I 20) (J 40)) {c : Nat} (hc : c < 4) (t : Int32) : ∃ a b : Nat, 1 ≤ a ∧ a ≤ 999 ∧ 1 ≤ b ∧ b ≤ 999 ∧ (qa I c (qh d I c t)).toInt = (a : Int) ∧ (qb I c (qh d I c t)).toInt = (b : Int) ∧ (c = 0 → a = 1 ∧ b = 1) := by
  have z1 : (1 : Int64).toInt = 1 := by decide +kernel
  cases hb : qh d I c t with
  | none => exact ⟨1, 1, by omega, by omega, by omega, by omega, z1, z1, fun _ => ⟨rfl, rfl⟩⟩
  | some k =>
    have hk := fh_lt _ _ _ _ _ hb
    obtain ⟨⟨a, a1, a2, ea⟩, -⟩ := h.a c hc k hk
    obtain ⟨⟨b, b1, b2, eb⟩, -⟩ := h.b c hc k hk
    refine ⟨a, b, a1, a2, b1, b2, ?_, ?_, fun e => ?_⟩
    · show (I 19 (20 * c + k)).toInt64.toInt = _
      rw [ea, Int32.toInt_toInt64, nI_toInt (by omega)]
    · show (I 20 (20 * c + k)).toInt64.toInt = _
      rw [eb, Int32.toInt_toInt64, nI_toInt (by omega)]
    · subst e
      rw [h.z] at hk
      omega
theorem c_aboveAt (h : RR d.cnt (I 17) (I 18) (I 19) (I 20) (J 40)) {c : Nat} (hc : c < 4) (t : Int32) (L : zL) : zEv X mt_X5_aboveAt 0 [.ref 16, .int (fe c (qh d I c t))] [] (zSH im tl, I, L) (some (.long (qa I c (qh d I c t))), (zSH im tl, I, L)) := by
  cases hb : qh d I c t with
  | none => exact sg_X5_aboveAt_0_0 _ rfl
  | some k =>
    have hk := fh_lt _ _ _ _ _ hb
    have h20 := (h.t c hc).1
    refine ev_r (sg_X5_aboveAt_0_1 _ (n5 (k := 20 * c + k) (by omega)) (k_in (a := 20 * c + k) rfl (by omega) (by omega))) ?_
    rw [show (fe c (some k)).toNatClampNeg = 20 * c + k from kc (by omega)]
    rfl
theorem c_belowAt (h : RR d.cnt (I 17) (I 18) (I 19) (I 20) (J 40)) {c : Nat} (hc : c < 4) (t : Int32) (L : zL) : zEv X mt_X5_belowAt 0 [.ref 16, .int (fe c (qh d I c t))] [] (zSH im tl, I, L) (some (.long (qb I c (qh d I c t))), (zSH im tl, I, L)) := by
  cases hb : qh d I c t with
  | none => exact sg_X5_belowAt_0_0 _ rfl
  | some k =>
    have hk := fh_lt _ _ _ _ _ hb
    have h20 := (h.t c hc).1
    refine ev_r (sg_X5_belowAt_0_1 _ (n5 (k := 20 * c + k) (by omega)) (k_in (a := 20 * c + k) rfl (by omega) (by omega))) ?_
    rw [show (fe c (some k)).toNatClampNeg = 20 * c + k from kc (by omega)]
    rfl
theorem m_rateBy (h : RR d.cnt (I 17) (I 18) (I 19) (I 20) (J 40)) {c : Nat} (hc : c < 4) (t : Int32) {a b : Nat} (ha : (qa I c (qh d I c t)).toInt = (a : Int)) (hb : (qb I c (qh d I c t)).toInt = (b : Int)) (a2 : a ≤ 999) (b1 : 1 ≤ b) (b2 : b ≤ 999) (K : zL) : zEv X mt_X11_rateBy 0 [.ref 39, .int (nI c), .int t, .null, .null, .null] [] (zSH im tl, J, K) (none, (zSH im tl, J, va_up K 39 (g39 (K 39) (gA a b) (gB a b)))) := by
  obtain ⟨h20, -⟩ := h.t c hc
  have hm := h.m c hc
  have ci := k_in (x := (1020 : Int32) + nI c) (n := 1280) (nI_add 1020 c) (by omega) (by omega)
  have cc : J 40 ((1020 : Int32) + nI c).toNatClampNeg = nI (d.cnt c) := by rw [kx 1020 (a := 1020) rfl (by omega)]; exact hm
  refine sg_X11_rateBy_0_0 _ _ ?_
  have loop : ∀ (f k : Nat), k + f = d.cnt c → zEv X mt_X11_rateBy 5 [.ref 39, .int (nI c), .int t, .int (fm c (fh (I 18) c t k)), .int (nI k), .null] [] (zSH im tl, J, K) (none, (zSH im tl, J, va_up K 39 (g39 (K 39) (gA a b) (gB a b)))) := by
    intro f
    induction f with
    | zero =>
      intro k hk
      have hk2 : k = d.cnt c := by omega
      subst hk2
      have hle : J 40 ((1020 : Int32) + nI c).toNatClampNeg ≤ nI (d.cnt c) := by rw [cc]; exact Int32.le_refl _
      cases ho : fh (I 18) c t (d.cnt c) with
      | none =>
        have ho2 : qh d I c t = none := ho
        rw [ho2] at ha hb
        exact sg_X11_rateBy_5_1 _ _ _ _ ci hle (show ¬ (0 : Int32) ≤ -1 by decide) (m_frac ha hb (by omega) (by omega) (by omega) (by omega)) (sg_X11_rateBy_90_0 _ _ _ _)
      | some w =>
        have hw := fh_lt _ _ _ _ _ ho
        have ho2 : qh d I c t = some w := ho
        rw [ho2] at ha hb
        have e1 : J 40 ((1104 : Int32) + fm c (some w)).toNatClampNeg = I 19 (20 * c + w) := by
          rw [show fm c (some w) = nI (20 * c + w) from rfl, kx 1104 (a := 1104) rfl (by omega)]; exact (h.a c hc w hw).2
        have e2 : J 40 ((1184 : Int32) + fm c (some w)).toNatClampNeg = I 20 (20 * c + w) := by
          rw [show fm c (some w) = nI (20 * c + w) from rfl, kx 1184 (a := 1184) rfl (by omega)]; exact (h.b c hc w hw).2
        refine sg_X11_rateBy_5_0 _ _ _ _ ci hle (nI_pos' (n := 20 * c + w) (by omega)) (k_in (nI_add 1104 (20 * c + w)) (by omega) (by omega)) (k_in (nI_add 1184 (20 * c + w)) (by omega) (by omega)) (m_frac ?_ ?_ (by omega) (by omega) (by omega) (by omega)) (sg_X11_rateBy_119_0 _ _ _ _)
        · rw [e1]; exact ha
        · rw [e2]; exact hb
    | succ f ih =>
      intro k hk
      have h2 := ih (k + 1) (by omega)
      have hn : ¬ J 40 ((1020 : Int32) + nI c).toNatClampNeg ≤ nI k := by rw [cc]; exact nI_ge (by omega) (by omega)
      have e1 : J 40 ((1024 : Int32) + nI (20 * c + k)).toNatClampNeg = I 18 (20 * c + k) := by
        rw [kx 1024 (a := 1024) rfl (by omega)]; exact (h.d c hc k (by omega)).2
      have i1 := k_in (x := (1024 : Int32) + nI (20 * c + k)) (n := 1280) (nI_add 1024 (20 * c + k)) (by omega) (by omega)
      refine sg_X11_rateBy_5_2 _ _ _ _ ci hn m_rateAt ?_
      rw [← nI_1 k, fh] at h2
      by_cases e : t < I 18 (20 * c + k)
      · rw [if_pos e] at h2
        exact sg_X11_rateBy_26_0 _ _ _ _ _ i1 (by rw [e1]; exact e) h2
      · rw [if_neg e] at h2
        cases ho : fh (I 18) c t k with
        | none =>
          rw [ho] at h2
          exact sg_X11_rateBy_26_1 _ _ _ _ _ i1 (by rw [e1]; exact e) (by decide : (-1 : Int32) < 0) h2
        | some w =>
          have hw := fh_lt _ _ _ _ _ ho
          rw [ho] at h2
          have e3 : J 40 ((1024 : Int32) + fm c (some w)).toNatClampNeg = I 18 (20 * c + w) := by
            rw [show fm c (some w) = nI (20 * c + w) from rfl, kx 1024 (a := 1024) rfl (by omega)]; exact (h.d c hc w (by omega)).2
          have i3 := k_in (x := (1024 : Int32) + fm c (some w)) (n := 1280) (nI_add 1024 (20 * c + w)) (by omega) (by omega)
          have n3 : ¬ fm c (some w) < 0 := nI_pos (n := 20 * c + w) (by omega)
          by_cases e2 : I 18 (20 * c + k) ≤ I 18 (20 * c + w)
          · simp only [if_pos e2] at h2
            exact sg_X11_rateBy_26_2 _ _ _ _ _ i1 (by rw [e1]; exact e) n3 i1 i3 (by rw [e1, e3]; exact e2) h2
          · simp only [if_neg e2] at h2
            exact sg_X11_rateBy_26_3 _ _ _ _ _ i1 (by rw [e1]; exact e) n3 i1 i3 (by rw [e1, e3]; exact e2) h2
  exact loop (d.cnt c) 0 (by omega)
end RO2
