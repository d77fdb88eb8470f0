section O9
variable {X : zSc} {im : Option Nat} {tl : List zS} {I J : zI} {L K : zL} {d : zD}
theorem c_isHeld0 {i : Nat} (hi : i < 4) (h : I 36 i = -5) : zEv X mt_X6_isHeld 0 [.ref 35, .int (nI i)] [] (zSH im tl, I, L) (some (.int 0), (zSH im tl, I, L)) :=
  sg_X6_isHeld_0_0 _ (k_in rfl hi (by omega)) (by rw [kc (by omega)]; exact h)
theorem n5 {k : Nat} (h : k < 2 ^ 31) : ¬ nI k = -5 := fun e => absurd (e ▸ (by decide : (-5 : Int32) < 0) : nI k < 0) (nI_pos h)
theorem c_isHeld1 {i k : Nat} (hi : i < 4) (hk : k ≤ 40) (h : I 36 i = nI k) : zEv X mt_X6_isHeld 0 [.ref 35, .int (nI i)] [] (zSH im tl, I, L) (some (.int 1), (zSH im tl, I, L)) :=
  sg_X6_isHeld_0_1 _ (k_in rfl hi (by omega)) (by rw [kc (by omega), h]; exact n5 (by omega))
theorem c_hasPlace1 {i k x : Nat} (hi : i < 4) (hk : k ≤ 40) (h : I 36 i = nI k) (hx : x < k) : zEv X mt_X6_hasPlace 0 [.ref 35, .int (nI i), .int (nI x)] [] (zSH im tl, I, L) (some (.int 1), (zSH im tl, I, L)) :=
  sg_X6_hasPlace_0_2 _ _ (nI_pos (by omega)) (k_in rfl hi (by omega)) (by rw [kc (by omega), h]; exact nI_ge hx (by omega))
theorem c_hasPlace0 {i k : Nat} {x : Int32} (hi : i < 4) (h : I 36 i = nI k) (hx : x < 0 ∨ nI k ≤ x) : zEv X mt_X6_hasPlace 0 [.ref 35, .int (nI i), .int x] [] (zSH im tl, I, L) (some (.int 0), (zSH im tl, I, L)) := by
  by_cases h0 : x < 0
  · exact sg_X6_hasPlace_0_0 _ _ h0
  · exact sg_X6_hasPlace_0_1 _ _ h0 (k_in rfl hi (by omega)) (by rw [kc (by omega), h]; exact hx.resolve_left h0)
theorem c_hasPlace5 {i : Nat} {x : Int32} (hi : i < 4) (h : I 36 i = -5) : zEv X mt_X6_hasPlace 0 [.ref 35, .int (nI i), .int x] [] (zSH im tl, I, L) (some (.int 0), (zSH im tl, I, L)) := by
  by_cases h0 : x < 0
  · exact sg_X6_hasPlace_0_0 _ _ h0
  · exact sg_X6_hasPlace_0_1 _ _ h0 (k_in rfl hi (by omega)) (by rw [kc (by omega), h]; exact Int32.le_trans (by decide : (-5 : Int32) ≤ 0) (Int32.not_lt.mp h0))
theorem c_put {i x : Nat} (hi : i < 4) (hx : x < 40) (v : Int64) : zEv X mt_X6_put 0 [.ref 35, .int (nI i), .int (nI x), .long v, .null] [] (zSH im tl, I, L) (none, (zSH im tl, I, va_up L 37 (vp_updL (L 37) (40 * i + x) v))) :=
  ev_r (sg_X6_put_0_0 _ _ _ (by rw [k40b]; exact k_in rfl (by omega) (by omega))) (by rw [k40b, kc (by omega)])
theorem c_at {i x : Nat} (hi : i < 4) (hx : x < 40) : zEv X mt_X6_at 0 [.ref 35, .int (nI i), .int (nI x)] [] (zSH im tl, I, L) (some (.long (L 37 (40 * i + x))), (zSH im tl, I, L)) :=
  ev_r (sg_X6_at_0_0 _ _ (by rw [k40b]; exact k_in rfl (by omega) (by omega))) (by rw [k40b, kc (by omega)])
theorem rl_fill {S H Z : Nat → Int32} {P Q : Nat → Int64} (h : RL S H Z P Q) (b m : Nat) (g : Nat → Int64) : RL S H Z (fill P b g m) (fill Q b g m) := by
  refine RL.mk (fun j hj => ?_)
  rcases h.s j hj with h | ⟨k, k40, e1, e2, e3, e4⟩
  · exact Or.inl h
  · refine Or.inr ⟨k, k40, e1, e2, e3, fun x hx => ?_⟩
    unfold fill
    split
    · rfl
    · exact e4 x hx
theorem op_set (hR : rAll d im tl I L) (a b : Int32) (v : Int64) : zOpI X im tl I L mt_X10_set mt_X11_set [.ref 0, .int a, .int b, .long v, .null] [.ref 39, .int a, .int b, .long v, .null] := by
  have hL := hR.2.l
  rcases k_ix a 4 (by omega) with h | ⟨i, hi, rfl⟩
  · exact op_roI hR _ (sg_X10_set_0_0 _ _ _ (c_isList0 h) (sg_X10_set_4_0 _ _ _ _ rfl)) (sg_X11_set_0_0 _ _ _ (mo_isList0 h) (sg_X11_set_4_0 _ _ _ _ rfl))
  · have cc : (nI i).toNatClampNeg = i := kc (by omega)
    have ci := k_in (x := nI i) (n := 4) rfl hi (by omega)
    rcases hL.s i hi with ⟨e1, e2⟩ | ⟨k, k40, e1, e2, e3, e4⟩
    · exact op_roI hR _ (sg_X10_set_0_0 _ _ _ (c_isList1 hi) (sg_X10_set_4_1 _ _ _ _ (by decide) (c_isHeld0 hi e1) (sg_X10_set_17_0 _ _ _ _ rfl))) (sg_X11_set_0_0 _ _ _ (mo_isList1 hi) (sg_X11_set_4_1 _ _ _ _ (by decide) ci (by rw [cc]; exact e2)))
    · have h48 : ¬ I 48 (nI i).toNatClampNeg = 0 := by rw [cc, e2]; decide
      have e49 : I 49 (nI i).toNatClampNeg = nI k := by rw [cc]; exact e3
      rcases k_ix b k (by omega) with h | ⟨x, hx, rfl⟩
      · exact op_roI hR _ (sg_X10_set_0_0 _ _ _ (c_isList1 hi) (sg_X10_set_4_1 _ _ _ _ (by decide) (c_isHeld1 hi k40 e1) (sg_X10_set_17_1 _ _ _ _ (by decide) (c_hasPlace0 hi e1 h) (sg_X10_set_32_0 _ _ _ _ rfl)))) (sg_X11_set_0_0 _ _ _ (mo_isList1 hi) (sg_X11_set_4_2 _ _ _ _ (by decide) ci h48 ci (m_inN_0 (n := k) (by rw [e49]) (by omega) h) (sg_X11_set_34_0 _ _ _ _ rfl)))
      · refine ⟨1, I, va_up L 37 (vp_updL (L 37) (40 * i + x) v), I, va_up (va_up L 37 (vp_updL (L 37) (40 * i + x) v)) 50 (vp_updL (L 50) (40 * i + x) v), d, sg_X10_set_0_0 _ _ _ (c_isList1 hi) (sg_X10_set_4_1 _ _ _ _ (by decide) (c_isHeld1 hi k40 e1) (sg_X10_set_17_1 _ _ _ _ (by decide) (c_hasPlace1 hi k40 e1 hx) (sg_X10_set_32_1 _ _ _ _ (by decide) (c_put hi (by omega) v) (sg_X10_set_48_0 _ _ _)))), sg_X11_set_0_0 _ _ _ (mo_isList1 hi) (sg_X11_set_4_2 _ _ _ _ (by decide) ci h48 ci (m_inN_1 (n := k) (by rw [e49, nI_sub1 (by omega)]) hx (by omega)) (ev_r (sg_X11_set_34_1 _ _ _ _ (by decide) (by rw [k40a]; exact k_in rfl (by omega) (by omega))) ?_)), hR.1, hR.2.t, hR.2.p, ?_, hR.2.i⟩
        · rw [k40a, kc (by omega)]; rfl
        · have := rl_fill hL (40 * i + x) 1 (fun _ => v)
          rw [← fill_s, fill_0, ← fill_s, fill_0, Nat.add_zero] at this
          exact this
theorem op_get (hR : rAll d im tl I L) (a b : Int32) : zOpL X im tl I L mt_X10_get mt_X11_get [.ref 0, .int a, .int b] [.ref 39, .int a, .int b] := by
  have hL := hR.2.l
  rcases k_ix a 4 (by omega) with h | ⟨i, hi, rfl⟩
  · exact op_roL hR _ (sg_X10_get_0_0 _ _ (c_isList0 h) (sg_X10_get_4_0 _ _ _ rfl)) (sg_X11_get_0_0 _ _ (mo_isList0 h) (sg_X11_get_4_0 _ _ _ rfl))
  · have cc : (nI i).toNatClampNeg = i := kc (by omega)
    have ci := k_in (x := nI i) (n := 4) rfl hi (by omega)
    rcases hL.s i hi with ⟨e1, e2⟩ | ⟨k, k40, e1, e2, e3, e4⟩
    · exact op_roL hR _ (sg_X10_get_0_0 _ _ (c_isList1 hi) (sg_X10_get_4_1 _ _ _ (by decide) (c_hasPlace5 hi e1) (sg_X10_get_16_0 _ _ _ rfl))) (sg_X11_get_0_0 _ _ (mo_isList1 hi) (sg_X11_get_4_1 _ _ _ (by decide) ci (by rw [cc]; exact e2)))
    · have h48 : ¬ I 48 (nI i).toNatClampNeg = 0 := by rw [cc, e2]; decide
      have e49 : I 49 (nI i).toNatClampNeg = nI k := by rw [cc]; exact e3
      rcases k_ix b k (by omega) with h | ⟨x, hx, rfl⟩
      · exact op_roL hR _ (sg_X10_get_0_0 _ _ (c_isList1 hi) (sg_X10_get_4_1 _ _ _ (by decide) (c_hasPlace0 hi e1 h) (sg_X10_get_16_0 _ _ _ rfl))) (sg_X11_get_0_0 _ _ (mo_isList1 hi) (sg_X11_get_4_2 _ _ _ (by decide) ci h48 ci (m_inN_0 (n := k) (by rw [e49]) (by omega) h) (sg_X11_get_29_0 _ _ _ rfl)))
      · refine op_roL hR (L 37 (40 * i + x)) (sg_X10_get_0_0 _ _ (c_isList1 hi) (sg_X10_get_4_1 _ _ _ (by decide) (c_hasPlace1 hi k40 e1 hx) (sg_X10_get_16_1 _ _ _ (by decide) (c_at hi (by omega)) (sg_X10_get_32_0 _ _ _)))) (sg_X11_get_0_0 _ _ (mo_isList1 hi) (sg_X11_get_4_2 _ _ _ (by decide) ci h48 ci (m_inN_1 (n := k) (by rw [e49, nI_sub1 (by omega)]) hx (by omega)) (ev_r (sg_X11_get_29_1 _ _ _ (by decide) (by rw [k40a]; exact k_in rfl (by omega) (by omega))) ?_)))
        rw [k40a, kc (by omega), e4 x hx]
/-- a place x + a of a list of k: in it just when x < k - a -/
theorem k_plc {x k a : Nat} (hk : k ≤ 40) (ha : a < 30) (hx : x < 2 ^ 31) : (nI x < nI k - nI a ↔ x + a < k) ∧ (x + a < k ∨ (nI x + nI a < 0 ∨ nI k ≤ nI x + nI a)) := by
  have e : (nI k - nI a).toInt = (k : Int) - a := pk_sub_toInt (by omega) (by omega)
  constructor
  · rw [Int32.lt_iff_toInt_lt, e, nI_toInt hx]; omega
  · by_cases h : x + a < k
    · exact Or.inl h
    · refine Or.inr ?_
      by_cases h2 : x + a < 2 ^ 31
      · rw [nI_add]; exact Or.inr (nI_le (by omega) h2)
      · refine Or.inl ?_
        rw [Int32.lt_iff_toInt_lt, Int32.toInt_add, nI_toInt hx, nI_toInt (by omega)]
        have e0 : (0 : Int32).toInt = 0 := by decide +kernel
        rw [e0]
        have : ((x : Int) + a).bmod (2 ^ 32) = (x : Int) + a - 2 ^ 32 := by
          rw [Int.bmod_def]; omega
        rw [this]; omega
theorem op_judge (hR : rAll d im tl I L) (a b : Int32) : zOpI X im tl I L mt_X10_judge mt_X11_judge [.ref 0, .int a, .int b, .null] [.ref 39, .int a, .int b, .null] := by
  have hL := hR.2.l
  have hA := hR.1.ra
  have hJ := hR.1.rj
  have hD := hR.1.rd
  have h30 := hA.n30
  have h1 := hA.n1
  rcases k_ix a 4 (by omega) with h | ⟨i, hi, rfl⟩
  · exact op_roI hR _ (sg_X10_judge_0_0 _ _ (c_isList0 h) (sg_X10_judge_4_0 _ _ _ rfl)) (sg_X11_judge_0_0 _ _ (mo_isList0 h) (sg_X11_judge_4_0 _ _ _ rfl))
  · have cc : (nI i).toNatClampNeg = i := kc (by omega)
    have ci := k_in (x := nI i) (n := 4) rfl hi (by omega)
    rcases hL.s i hi with ⟨e1, e2⟩ | ⟨k, k40, e1, e2, e3, e4⟩
    · exact op_roI hR _ (sg_X10_judge_0_0 _ _ (c_isList1 hi) (sg_X10_judge_4_1 _ _ _ (by decide) (c_isHeld0 hi e1) (sg_X10_judge_17_0 _ _ _ rfl))) (sg_X11_judge_0_0 _ _ (mo_isList1 hi) (sg_X11_judge_4_1 _ _ _ (by decide) ci (by rw [cc]; exact e2)))
    · have h48 : ¬ I 48 (nI i).toNatClampNeg = 0 := by rw [cc, e2]; decide
      have e49 : I 49 (nI i).toNatClampNeg = nI k := by rw [cc]; exact e3
      have key : ∀ f c, c + f = d.nA → ∃ v, zEv X mt_X10_judge 25 [.ref 0, .int (nI i), .int b, .int (nI c)] [] (zSH im tl, I, L) (some (.int v), (zSH im tl, I, L)) ∧ zEv X mt_X11_judge 23 [.ref 39, .int (nI i), .int b, .int (nI c)] [] (zSH im tl, I, L) (some (.int v), (zSH im tl, I, L)) := by
        intro f
        induction f with
        | zero =>
          intro c hc
          have : c = d.nA := by omega
          subst this
          exact ⟨-5, sg_X10_judge_25_0 _ _ _ (k_le hA.c rfl (Nat.le_refl _) (by omega)), sg_X11_judge_23_0 _ _ _ (k_le hA.m rfl (Nat.le_refl _) (by omega))⟩
        | succ f ih =>
          intro c hc
          have n1 := k_nle hA.c (rfl : nI c = nI c) (by omega) (by omega)
          have n2 := k_nle hA.m (rfl : nI c = nI c) (by omega) (by omega)
          by_cases b0 : b < 0
          · exact ⟨_, sg_X10_judge_25_1 _ _ _ n1 b0, sg_X11_judge_23_1 _ _ _ n2 b0⟩
          · obtain ⟨x, hx, rfl⟩ := nI_of b0
            obtain ⟨p1, p2⟩ := k_plc (x := x) (k := k) (a := c) k40 (by omega) hx
            by_cases hlt : x + c < k
            · have e5 : nI x + nI c = nI (x + c) := nI_add x c
              have e6 : (40 : Int32) * nI i + nI x + nI c = nI (40 * i + (x + c)) := by rw [k40a, nI_add, Nat.add_assoc]
              have e7 : L 50 ((40 : Int32) * nI i + nI x + nI c).toNatClampNeg = L 37 (40 * i + (x + c)) := by rw [e6, kc (by omega), e4 _ hlt]
              have main : ∃ v, zEv X mt_X10_judge 81 [.ref 0, .int (nI i), .int (nI x), .int (nI c)] [.long (cSum I d.sz d.nJ (nI c) 0 999), .long (L 37 (40 * i + (x + c)))] (zSH im tl, I, L) (some (.int v), (zSH im tl, I, L)) ∧ zEv X mt_X11_judge 75 [.ref 39, .int (nI i), .int (nI x), .int (nI c)] [.long (cSum I d.sz d.nJ (nI c) 0 999), .long (L 37 (40 * i + (x + c)))] (zSH im tl, I, L) (some (.int v), (zSH im tl, I, L)) := by
                by_cases he : lg_cmp (L 37 (40 * i + (x + c))) (cSum I d.sz d.nJ (nI c) 0 999) = 0
                · obtain ⟨v, v1, v2⟩ := ih (c + 1) (by omega)
                  rw [← nI_1 c] at v1 v2
                  exact ⟨v, sg_X10_judge_81_0 _ _ _ _ _ he v1, sg_X11_judge_75_0 _ _ _ _ _ he v2⟩
                · exact ⟨_, sg_X10_judge_81_1 _ _ _ _ _ he, sg_X11_judge_75_1 _ _ _ _ _ he⟩
              obtain ⟨v, v1, v2⟩ := main
              refine ⟨v, sg_X10_judge_25_2 _ _ _ n1 b0 (by rw [e5]; exact c_hasPlace1 hi k40 e1 hlt) (sg_X10_judge_54_1 _ _ _ _ (by decide) (by rw [e5]; exact c_at hi (by omega)) (sg_X10_judge_73_0 _ _ _ _ (c_sumByNow hJ hD.d hD.bd _) v1)), sg_X11_judge_23_2 _ _ _ n2 b0 ci (by rw [e49]; exact p1.mpr hlt) (by rw [e6]; exact k_in rfl (by omega) (by omega)) (mo_balanceBy hJ hD.d _ _) ?_⟩
              rw [e7]; exact v2
            · exact ⟨_, sg_X10_judge_25_2 _ _ _ n1 b0 (c_hasPlace0 hi e1 (p2.resolve_left hlt)) (sg_X10_judge_54_0 _ _ _ _ rfl), sg_X11_judge_23_3 _ _ _ n2 b0 ci (by rw [e49]; exact fun y => hlt (p1.mp y))⟩
      obtain ⟨v, v1, v2⟩ := key d.nA 0 (by omega)
      exact op_roI hR v (sg_X10_judge_0_0 _ _ (c_isList1 hi) (sg_X10_judge_4_1 _ _ _ (by decide) (c_isHeld1 hi k40 e1) (sg_X10_judge_17_1 _ _ _ (by decide) v1))) (sg_X11_judge_0_0 _ _ (mo_isList1 hi) (sg_X11_judge_4_2 _ _ _ (by decide) ci h48 v2))
theorem op_lay (hR : rAll d im tl I L) (a b : Int32) : zOpI X im tl I L mt_X10_lay mt_X11_lay [.ref 0, .int a, .int b, .null] [.ref 39, .int a, .int b, .null] := by
  have hL := hR.2.l
  have hA := hR.1.ra
  have hJ := hR.1.rj
  have hD := hR.1.rd
  have h30 := hA.n30
  have h1 := hA.n1
  rcases k_ix a 4 (by omega) with h | ⟨i, hi, rfl⟩
  · exact op_roI hR _ (sg_X10_lay_0_0 _ _ (c_isList0 h) (sg_X10_lay_4_0 _ _ _ rfl)) (sg_X11_lay_0_0 _ _ (mo_isList0 h) (sg_X11_lay_4_0 _ _ _ rfl))
  · have cc : (nI i).toNatClampNeg = i := kc (by omega)
    have ci := k_in (x := nI i) (n := 4) rfl hi (by omega)
    rcases hL.s i hi with ⟨e1, e2⟩ | ⟨k, k40, e1, e2, e3, e4⟩
    · exact op_roI hR _ (sg_X10_lay_0_0 _ _ (c_isList1 hi) (sg_X10_lay_4_1 _ _ _ (by decide) (c_isHeld0 hi e1) (sg_X10_lay_17_0 _ _ _ rfl))) (sg_X11_lay_0_0 _ _ (mo_isList1 hi) (sg_X11_lay_4_1 _ _ _ (by decide) ci (by rw [cc]; exact e2)))
    · have h48 : ¬ I 48 (nI i).toNatClampNeg = 0 := by rw [cc, e2]; decide
      have e49 : I 49 (nI i).toNatClampNeg = nI k := by rw [cc]; exact e3
      by_cases b0 : b < 0
      · exact op_roI hR _ (sg_X10_lay_0_0 _ _ (c_isList1 hi) (sg_X10_lay_4_1 _ _ _ (by decide) (c_isHeld1 hi k40 e1) (sg_X10_lay_17_1 _ _ _ (by decide) (sg_X10_lay_25_1 _ _ _ (k_nle (b := 0) hA.c rfl (by omega) (by omega)) b0)))) (sg_X11_lay_0_0 _ _ (mo_isList1 hi) (sg_X11_lay_4_3 _ _ _ (by decide) ci h48 (Int32.not_le.mpr b0)))
      · obtain ⟨x, hx, rfl⟩ := nI_of b0
        have key : ∀ f c, c + f = d.nA → ∃ v m, zEv X mt_X10_lay 25 [.ref 0, .int (nI i), .int (nI x), .int (nI c)] [] (zSH im tl, I, va_up L 37 (fill (L 37) (40 * i + x) (fun c => cSum I d.sz d.nJ (nI c) 0 999) c)) (some (.int v), (zSH im tl, I, va_up L 37 (fill (L 37) (40 * i + x) (fun c => cSum I d.sz d.nJ (nI c) 0 999) m))) ∧ ∀ K : zL, zEv X mt_X11_lay 30 [.ref 39, .int (nI i), .int (nI x), .int (nI c)] [] (zSH im tl, I, va_up (va_up L 37 (K 37)) 50 (fill (L 50) (40 * i + x) (fun c => cSum I d.sz d.nJ (nI c) 0 999) c)) (some (.int v), (zSH im tl, I, va_up (va_up L 37 (K 37)) 50 (fill (L 50) (40 * i + x) (fun c => cSum I d.sz d.nJ (nI c) 0 999) m))) := by
          intro f
          induction f with
          | zero =>
            intro c hc
            have : c = d.nA := by omega
            subst this
            exact ⟨nI d.nA, d.nA, ev_r (sg_X10_lay_25_0 _ _ _ (k_le hA.c rfl (Nat.le_refl _) (by omega))) (by rw [hA.c]), fun K => ev_r (sg_X11_lay_30_0 _ _ _ (k_le hA.m rfl (Nat.le_refl _) (by omega))) (by rw [hA.m])⟩
          | succ f ih =>
            intro c hc
            have n1 := k_nle hA.c (rfl : nI c = nI c) (by omega) (by omega)
            have n2 := k_nle hA.m (rfl : nI c = nI c) (by omega) (by omega)
            obtain ⟨p1, p2⟩ := k_plc (x := x) (k := k) (a := c) k40 (by omega) hx
            by_cases hlt : x + c < k
            · obtain ⟨v, m, v1, v2⟩ := ih (c + 1) (by omega)
              rw [← fill_s, ← nI_1 c] at v1
              refine ⟨v, m, ?_, fun K => ?_⟩
              · have e5 : nI x + nI c = nI (x + c) := nI_add x c
                refine sg_X10_lay_25_2 _ _ _ n1 b0 (by rw [e5]; exact c_hasPlace1 hi k40 e1 hlt) (sg_X10_lay_54_1 _ _ _ _ (by decide) (c_sumByNow (J := I) (K := L) (d := d) hJ hD.d hD.bd _) (sg_X10_lay_76_0 _ _ _ _ _ _ (by rw [e5]; exact c_put hi (by omega) _) (sg_X10_lay_79_0 _ _ _ ?_)))
                rw [va_upL]
                rw [Nat.add_assoc] at v1
                exact v1
              · have v3 := v2 K
                rw [← fill_s, ← nI_1 c] at v3
                have e6 : (40 : Int32) * nI i + nI x + nI c = nI (40 * i + x + c) := by rw [k40a, nI_add]
                refine sg_X11_lay_30_1 _ _ _ n2 ci (by rw [e49]; exact p1.mpr hlt) (mo_balanceBy (I := I) (d := d) (by exact hJ) hD.d _ _) (sg_X11_lay_75_0 _ _ _ _ _ (by rw [e6]; exact k_in rfl (by omega) (by omega)) ?_)
                rw [e6, kc (by omega), va_upL]
                exact v3
            · refine ⟨-13, c, ?_, fun K => ?_⟩
              · exact sg_X10_lay_25_2 _ _ _ n1 b0 (c_hasPlace0 hi e1 (p2.resolve_left hlt)) (sg_X10_lay_54_0 _ _ _ _ rfl)
              · exact sg_X11_lay_30_2 _ _ _ n2 ci (by rw [e49]; exact fun y => hlt (p1.mp y))
        obtain ⟨v, m, v1, v2⟩ := key d.nA 0 (by omega)
        have v3 := v2 (va_up L 37 (fill (L 37) (40 * i + x) (fun c => cSum I d.sz d.nJ (nI c) 0 999) m))
        rw [fill_0, va_upself] at v1
        have e : va_up (va_up L 37 (fill (L 37) (40 * i + x) (fun c => cSum I d.sz d.nJ (nI c) 0 999) m)) 50 (L 50) = va_up L 37 (fill (L 37) (40 * i + x) (fun c => cSum I d.sz d.nJ (nI c) 0 999) m) := va_upself (va_up L 37 (fill (L 37) (40 * i + x) (fun c => cSum I d.sz d.nJ (nI c) 0 999) m)) 50
        rw [fill_0, va_up_self, e] at v3
        exact ⟨v, I, va_up L 37 (fill (L 37) (40 * i + x) (fun c => cSum I d.sz d.nJ (nI c) 0 999) m), I, va_up (va_up L 37 (fill (L 37) (40 * i + x) (fun c => cSum I d.sz d.nJ (nI c) 0 999) m)) 50 (fill (L 50) (40 * i + x) (fun c => cSum I d.sz d.nJ (nI c) 0 999) m), d, sg_X10_lay_0_0 _ _ (c_isList1 hi) (sg_X10_lay_4_1 _ _ _ (by decide) (c_isHeld1 hi k40 e1) (sg_X10_lay_17_1 _ _ _ (by decide) v1)), sg_X11_lay_0_0 _ _ (mo_isList1 hi) (sg_X11_lay_4_2 _ _ _ (by decide) ci h48 (Int32.not_lt.mp b0) v3), hR.1, hR.2.t, hR.2.p, rl_fill hL (40 * i + x) m (fun c => cSum I d.sz d.nJ (nI c) 0 999), hR.2.i⟩
end O9
