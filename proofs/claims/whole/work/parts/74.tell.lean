section OF
variable {X : zSc} {im : Option Nat} {tl : List zS} {I J : zI} {L K : zL} {d : zD} {n : Nat → Int32}
theorem k20c {c x : Nat} : nI c * (20 : Int32) + nI x = nI (20 * c + x) := by rw [show (20 : Int32) = nI 20 from rfl, pk_mul, nI_add, Nat.mul_comm]
theorem j_tell (hRR : RR d.cnt (I 17) (I 18) (I 19) (I 20) (I 40)) {c t x y : Nat} (hc : c < 4) (hc0 : c ≠ 0) (ht : t < 1000) (x1 : 1 ≤ x) (x2 : x ≤ 999) (y1 : 1 ≤ y) (y2 : y ≤ 999) : ∃ (v : Int32) (r17 r18 r19 r20 n' : Nat → Int32) (cnt' : Nat → Nat), zEv X mt_X5_tell 0 [.ref 16, .int (nI c), .int (nI t), .int (nI x), .int (nI y), .null] [] (zSH im tl, I, L) (some (.int v), (zSH im tl, va_up (va_up (va_up (va_up I 18 r18) 17 r17) 19 r19) 20 r20, L)) ∧ (∀ J : zI, J 40 = I 40 → zEv X mt_X11_rate 75 [.ref 39, .int (nI c), .int (nI t), .int (nI x), .int (nI y), .int (nI (d.cnt c)), .int (nI 0)] [] (zSH im tl, J, K) (some (.int v), (zSH im tl, va_up J 40 n', K))) ∧ RR cnt' r17 r18 r19 r20 n' ∧ (∀ k, k < 1020 ∨ 1264 ≤ k → n' k = I 40 k) := by
  obtain ⟨h20, hK⟩ := hRR.t c hc
  have cc : (nI c).toNatClampNeg = c := kc (by omega)
  have ci := k_in (x := nI c) (n := 4) rfl hc (by omega)
  have hfind := c_findHeld (X := X) (im := im) (tl := tl) (L := L) hRR hc (nI t)
  have eK : I 17 (nI c).toNatClampNeg = nI (d.cnt c) := by rw [cc]; exact hK
  have hJid : ∀ J : zI, J 40 = I 40 → J = va_up J 40 (I 40) := fun J h => by rw [← h, va_upid]
  rcases k_first (fun k => I 18 (20 * c + k) = nI t) (d.cnt c) with ⟨k0, h1, h2, h3⟩ | hno
  · have hf := fh_first (D := I 18) (c := c) (t := nI t) h2 h3 (d.cnt c - (k0 + 1))
    rw [show k0 + 1 + (d.cnt c - (k0 + 1)) = d.cnt c by omega] at hf
    rw [hf] at hfind
    have i0 := k_in (x := fe c (some k0)) (n := 80) (a := 20 * c + k0) rfl (by omega) (by omega)
    have c0 : (fe c (some k0)).toNatClampNeg = 20 * c + k0 := kc (by omega)
    refine ⟨nI (d.cnt c), I 17, I 18, upd (I 19) (20 * c + k0) (nI x), upd (I 20) (20 * c + k0) (nI y), upd (upd (upd (I 40) (1024 + (20 * c + k0)) (nI t)) (1104 + (20 * c + k0)) (nI x)) (1184 + (20 * c + k0)) (nI y), d.cnt, sg_X5_tell_0_0 _ _ _ _ hfind (ev_r (sg_X5_tell_6_2 _ _ _ _ _ (n5 (k := 20 * c + k0) (by omega)) i0 (by rw [c0]; exact h2) i0 i0 ci) ?_), fun J h => ?_, rr_set hRR hc h1 h2 x1 x2 y1 y2, fun k hk => ?_⟩
    · rw [c0, eK, va_upid, va_upid]
    · rw [hJid J h]
      refine m_rloop hc h20 (fun k hk => (hRR.d c hc k hk).2) _ _ (k1 := k0) (by omega) h3 (sg_X11_rate_75_3 _ _ _ _ _ _ (nI_ge (by omega) (by omega)) m_rateAt (sg_X11_rate_95_2 _ _ _ _ _ _ _ _ (k_in (nI_add 1024 _) (by omega) (by omega)) ?_ (k_ne (b := 20) rfl rfl (by omega) (by omega) (by omega)) (k_ne rfl rfl (by omega) (by omega) (by omega)) m_rateAt (ev_r (m_rset hc (by omega) _ _ _ _) ?_)))
      · rw [kx 1024 (a := 1024) rfl (by omega), va_up_self, (hRR.d c hc k0 h1).2]; exact h2
      · rw [hRR.m c hc, va_up2]
    · rw [pk_un (by omega), pk_un (by omega), pk_un (by omega)]
  · have hs0 : ∀ s0 : Int32, s0 = fe c (fh (I 18) c (nI t) (d.cnt c)) → s0 = -5 ∨ (¬ s0 = -5 ∧ ¬ (s0 < 0 ∨ 80 ≤ s0.toNatClampNeg) ∧ ¬ I 18 s0.toNatClampNeg = nI t) := by
      intro s0 e
      cases hb : fh (I 18) c (nI t) (d.cnt c) with
      | none => rw [hb] at e; exact Or.inl e
      | some b =>
        rw [hb] at e
        have hlt := fh_lt _ _ _ _ _ hb
        have e' : s0 = nI (20 * c + b) := e
        subst e'
        exact Or.inr ⟨n5 (by omega), k_in rfl (by omega) (by omega), by rw [kc (by omega)]; exact hno b hlt⟩
    by_cases hfull : d.cnt c = 20
    · refine ⟨-4, I 17, I 18, I 19, I 20, I 40, d.cnt, sg_X5_tell_0_0 _ _ _ _ hfind ?_, fun J h => ?_, hRR, fun _ _ => rfl⟩
      · have hnl : ¬ I 17 (nI c).toNatClampNeg < 20 := by rw [eK, hfull]; decide
        rcases hs0 _ rfl with e | ⟨e1, e2, e3⟩
        · refine ev_r (sg_X5_tell_6_1 _ _ _ _ _ e ci hnl) ?_
          rw [va_upid, va_upid, va_upid, va_upid]
        · refine ev_r (sg_X5_tell_6_4 _ _ _ _ _ e1 e2 e3 ci hnl) ?_
          rw [va_upid, va_upid, va_upid, va_upid]
      · rw [hJid J h]
        refine m_rloop hc h20 (fun k hk => (hRR.d c hc k hk).2) _ _ (k1 := d.cnt c) (Nat.le_refl _) hno (ev_r (sg_X11_rate_75_0 _ _ _ _ _ _ (Int32.le_refl _) (by rw [hfull]; rfl)) ?_)
        rw [va_up2]
    · have ek : nI c * (20 : Int32) + I 17 (nI c).toNatClampNeg = nI (20 * c + d.cnt c) := by rw [eK, k20c]
      have ik : ¬ (nI c * (20 : Int32) + I 17 (nI c).toNatClampNeg < 0 ∨ 80 ≤ (nI c * (20 : Int32) + I 17 (nI c).toNatClampNeg).toNatClampNeg) := by rw [ek]; exact k_in rfl (by omega) (by omega)
      have hlt : I 17 (nI c).toNatClampNeg < 20 := by rw [eK]; exact k_lt (b := 20) rfl rfl (by omega) (by omega)
      refine ⟨nI (d.cnt c + 1), upd (I 17) c (nI (d.cnt c + 1)), upd (I 18) (20 * c + d.cnt c) (nI t), upd (I 19) (20 * c + d.cnt c) (nI x), upd (I 20) (20 * c + d.cnt c) (nI y), upd (upd (upd (upd (I 40) (1020 + c) (nI (d.cnt c + 1))) (1024 + (20 * c + d.cnt c)) (nI t)) (1104 + (20 * c + d.cnt c)) (nI x)) (1184 + (20 * c + d.cnt c)) (nI y), _, sg_X5_tell_0_0 _ _ _ _ hfind ?_, fun J h => ?_, rr_new hRR hc hc0 (by omega) (by omega) x1 x2 y1 y2, fun k hk => ?_⟩
      · rcases hs0 _ rfl with e | ⟨e1, e2, e3⟩
        · refine ev_r (sg_X5_tell_6_0 _ _ _ _ _ e ci hlt ci ik ci ci ik ik ci) ?_
          rw [ek, eK, cc, kc (by omega), nI_1, pk_us]
        · refine ev_r (sg_X5_tell_6_3 _ _ _ _ _ e1 e2 e3 ci hlt ci ik ci ci ik ik ci) ?_
          rw [ek, eK, cc, kc (by omega), nI_1, pk_us]
      · rw [hJid J h]
        have e10 : ((1020 : Int32) + nI c).toNatClampNeg = 1020 + c := kx 1020 (a := 1020) rfl (by omega)
        refine m_rloop hc h20 (fun k hk => (hRR.d c hc k hk).2) _ _ (k1 := d.cnt c) (Nat.le_refl _) hno (sg_X11_rate_75_1 _ _ _ _ _ _ (Int32.le_refl _) (k_ne (b := 20) rfl rfl hfull (by omega) (by omega)) rfl (k_in (nI_add 1020 c) (by omega) (by omega)) (k_in (nI_add 1020 c) (by omega) (by omega)) m_rateAt ?_)
        rw [e10, va_up_self, hRR.m c hc, nI_1, va_up2, va_up2]
        refine ev_r (m_rset hc (by omega) _ _ _ _) ?_
        rw [pk_us]
      · rw [pk_un (by omega), pk_un (by omega), pk_un (by omega), pk_un (by omega)]
end OF
