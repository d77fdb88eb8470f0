section O2
variable {X : zSc} {im : Option Nat} {tl : List zS} {I J : zI} {L K : zL} {d : zD}
theorem kmx {j i : Nat} (h : 10 * j + i < 2 ^ 31) : ((nI j * 10) + nI i).toNatClampNeg = 10 * j + i := by
  rw [show (10 : Int32) = nI 10 from rfl, pk_mul, nI_add, Nat.mul_comm, kc h]
theorem kmi {j i n : Nat} (h : 10 * j + i < n) (hn : n < 2 ^ 31) : ¬ (((nI j * 10) + nI i) < 0 ∨ n ≤ ((nI j * 10) + nI i).toNatClampNeg) := by
  rw [show (10 : Int32) = nI 10 from rfl, pk_mul, nI_add, Nat.mul_comm]
  exact k_in rfl h hn
theorem op_part (hR : rAll d im tl I L) (a b w : Int32) : zOpL X im tl I L mt_X10_part mt_X11_part [.ref 0, .int a, .int b, .int w, .null, .null] [.ref 39, .int a, .int b, .int w, .null] := by
  have hJ := hR.1.rj
  have h60 := hJ.j60
  have hP := rj_p hJ
  rcases k_ix a d.nJ (by omega) with h | ⟨j, hj, rfl⟩
  · exact op_roL hR _ (sg_X10_part_0_0 _ _ _ (cj_has0 hJ.c h) (sg_X10_part_15_0 _ _ _ _ rfl)) (sg_X11_part_0_0 _ _ _ (mo_isJournal0 hJ.m h60 h) (sg_X11_part_5_0 _ _ _ _ rfl))
  · have ci := k_in (x := nI j) (n := 60) rfl (by omega) (by omega)
    have cc : (nI j).toNatClampNeg = j := kc (by omega)
    obtain ⟨hz, hz10⟩ := hJ.z j hj
    have i2 := k_in (x := 220 + nI j) (n := 1280) (nI_add 220 j) (by omega) (by omega)
    have c2 : I 40 ((220 : Int32) + nI j).toNatClampNeg = nI (d.sz j) := by rw [kx 220 (a := 220) rfl (by omega), hJ.zm j hj]
    have i1 := k_in (x := 160 + nI j) (n := 1280) (nI_add 160 j) (by omega) (by omega)
    have c1 : I 40 ((160 : Int32) + nI j).toNatClampNeg = nI (d.fs j) := by rw [kx 160 (a := 160) rfl (by omega), hJ.fm j hj]
    have hfz := rj_fz hJ hj
    rcases k_ix b (d.sz j) (by omega) with h | ⟨i, hi, rfl⟩
    · refine op_roL hR (-9223372036854775808) (sg_X10_part_0_0 _ _ _ (cj_has1 hJ.c hj h60) ?_) (sg_X11_part_0_0 _ _ _ (mo_isJournal1 hJ.m hj h60) (sg_X11_part_5_1 _ _ _ _ (by decide) i2 (m_inN_0 (n := d.sz j) (by rw [c2]) (by omega) h) (sg_X11_part_25_0 _ _ _ _ rfl)))
      by_cases h0 : b < 0
      · exact sg_X10_part_15_1 _ _ _ _ (by decide) h0
      · exact sg_X10_part_15_2 _ _ _ _ (by decide) h0 ci (by rw [cc, hz]; exact h.resolve_left h0)
    · have nlt : ¬ I 11 (nI j).toNatClampNeg ≤ nI i := by rw [cc, hz]; exact nI_ge hi (by omega)
      have mi : zEv X mt_X11_in 0 [.int (nI i), .int 0, .int ((I 40 ((220 : Int32) + nI j).toNatClampNeg) - 1)] [] (zSH im tl, I, L) (some (.int 1), (zSH im tl, I, L)) := m_inN_1 (n := d.sz j) (by rw [c2, nI_sub1 (by omega)]) hi (by omega)
      rcases k_ix w 2 (by omega) with h | ⟨q, hq, rfl⟩
      · exact op_roL hR (-9223372036854775808) (sg_X10_part_0_0 _ _ _ (cj_has1 hJ.c hj h60) (sg_X10_part_15_3 _ _ _ _ (by decide) (k_pos rfl (by omega)) ci nlt (c_isOneOfTwo0 h) (sg_X10_part_37_0 _ _ _ _ rfl))) (sg_X11_part_0_0 _ _ _ (mo_isJournal1 hJ.m hj h60) (sg_X11_part_5_1 _ _ _ _ (by decide) i2 mi (sg_X11_part_25_1 _ _ _ _ (by decide) (m_in2_0 h) (sg_X11_part_34_0 _ _ _ _ rfl))))
      · have hA := hJ.a j hj i hi
        have hX := hJ.x j hj i hi
        have k1 := kmi (j := j) (i := i) (n := 600) (by omega) (by omega)
        have kk : ((nI j * 10) + nI i).toNatClampNeg = 10 * j + i := kmx (by omega)
        have key : ∃ v, zEv X mt_X10_part 37 [.ref 0, .int (nI j), .int (nI i), .int (nI q), .ref 9, .null] [.int 1] (zSH im tl, I, L) (some (.long v), (zSH im tl, I, L)) ∧ zEv X mt_X11_part 34 [.ref 39, .int (nI j), .int (nI i), .int (nI q), .null] [.int 1] (zSH im tl, I, L) (some (.long v), (zSH im tl, I, L)) := by
          by_cases hq0 : q = 0
          · subst hq0
            refine ⟨(I 14 (10 * j + i)).toInt64, ev_r (sg_X10_part_37_1 _ _ _ _ (by decide) rfl k1) (by rw [kk]), ev_r (sg_X11_part_34_1 _ _ _ _ (by decide) i1 rfl ?_) ?_⟩
            · rw [c1, nI_add]; exact k_in (nI_add 400 _) (by omega) (by omega)
            · rw [c1, nI_add, kx 400 (a := 400) rfl (by omega), hA.2]
          · have hq1 : ¬ nI q = 0 := nI_ne0 (by omega) (by omega)
            refine ⟨(I 15 (10 * j + i)).toInt64, ev_r (sg_X10_part_37_2 _ _ _ _ (by decide) hq1 k1) (by rw [kk]), ev_r (sg_X11_part_34_2 _ _ _ _ (by decide) i1 hq1 ?_) ?_⟩
            · rw [c1, nI_add]; exact k_in (nI_add 60 _) (by omega) (by omega)
            · rw [c1, nI_add, kx 60 (a := 60) rfl (by omega), hX.2]
        obtain ⟨v, e1, e2⟩ := key
        exact op_roL hR v (sg_X10_part_0_0 _ _ _ (cj_has1 hJ.c hj h60) (sg_X10_part_15_3 _ _ _ _ (by decide) (k_pos rfl (by omega)) ci nlt (c_isOneOfTwo1 hq) e1)) (sg_X11_part_0_0 _ _ _ (mo_isJournal1 hJ.m hj h60) (sg_X11_part_5_1 _ _ _ _ (by decide) i2 mi (sg_X11_part_25_1 _ _ _ _ (by decide) (m_in2_1 hq) e2)))
theorem op_cause (hR : rAll d im tl I L) (a w : Int32) : zOpI X im tl I L mt_X10_cause mt_X11_cause [.ref 0, .int a, .int w] [.ref 39, .int a, .int w] := by
  have hC := hR.1.rc
  have h3 := hC.n3
  by_cases h0 : a < 0
  · exact op_roI hR _ (sg_X10_cause_0_0 _ _ h0) (sg_X11_cause_0_0 _ _ h0)
  · rcases k_ix w 2 (by omega) with h | ⟨q, hq, rfl⟩
    · exact op_roI hR _ (sg_X10_cause_0_1 _ _ h0 (c_isOneOfTwo0 h) (sg_X10_cause_8_0 _ _ _ rfl)) (sg_X11_cause_0_1 _ _ h0 (m_in2_0 h) (sg_X11_cause_10_0 _ _ _ rfl))
    · rcases k_ix a d.nC (by omega) with h | ⟨i, hi, rfl⟩
      · have h2 : ¬ a < nI d.nC := Int32.not_lt.mpr (h.resolve_left h0)
        exact op_roI hR _ (sg_X10_cause_0_1 _ _ h0 (c_isOneOfTwo1 hq) (sg_X10_cause_8_3 _ _ _ (by decide) (by rw [hC.c]; exact h2))) (sg_X11_cause_0_1 _ _ h0 (m_in2_1 hq) (sg_X11_cause_10_3 _ _ _ (by decide) (by rw [hC.m]; exact h2)))
      · have ci := k_in (x := nI i) (n := 3) rfl (by omega) (by omega)
        have cc : (nI i).toNatClampNeg = i := kc (by omega)
        by_cases hq0 : q = 0
        · subst hq0
          refine op_roI hR (I 22 i) (sg_X10_cause_0_1 _ _ h0 (c_isOneOfTwo1 hq) (ev_r (sg_X10_cause_8_1 _ _ _ (by decide) (k_lt rfl hC.c hi (by omega)) rfl ci) (by rw [cc]))) (sg_X11_cause_0_1 _ _ h0 (m_in2_1 hq) (ev_r (sg_X11_cause_10_1 _ _ _ (by decide) (k_lt rfl hC.m hi (by omega)) rfl (k_in (nI_add 1264 i) (by omega) (by omega))) ?_))
          rw [kx 1264 (a := 1264) rfl (by omega), hC.w i hi]
        · have hq1 : ¬ nI q = 0 := nI_ne0 (by omega) (by omega)
          refine op_roI hR (I 23 i) (sg_X10_cause_0_1 _ _ h0 (c_isOneOfTwo1 hq) (ev_r (sg_X10_cause_8_2 _ _ _ (by decide) (k_lt rfl hC.c hi (by omega)) hq1 ci) (by rw [cc]))) (sg_X11_cause_0_1 _ _ h0 (m_in2_1 hq) (ev_r (sg_X11_cause_10_2 _ _ _ (by decide) (k_lt rfl hC.m hi (by omega)) hq1 (k_in (nI_add 1270 i) (by omega) (by omega))) ?_))
          rw [kx 1270 (a := 1270) rfl (by omega), hC.h i hi]
theorem op_seal (hR : rAll d im tl I L) (a : Int32) : zOpL X im tl I L mt_X10_seal mt_X11_seal [.ref 0, .int a] [.ref 39, .int a] := by
  have hD := hR.1.rd
  have h1 := hD.d
  have h2 := hD.c
  rcases k_ix a d.cl (by omega) with h | ⟨i, hi, rfl⟩
  · refine op_roL hR (-9223372036854775808) ?_ (sg_X11_seal_0_0 _ (m_inN_0 (n := d.cl) (by rw [hD.mc]) (by omega) h) (sg_X11_seal_13_0 _ _ rfl))
    rcases k_ix a 10 (by omega) with h' | ⟨i, hi, rfl⟩
    · exact sg_X10_seal_0_0 _ (c_isPeriod0 h') (sg_X10_seal_4_0 _ _ rfl)
    · refine sg_X10_seal_0_0 _ (c_isPeriod1 hi) (sg_X10_seal_4_2 _ _ (by decide) ?_)
      rw [hD.bc]
      exact Int32.not_lt.mpr (h.resolve_left (nI_pos (by omega)))
  · refine op_roL hR (L 27 i) (sg_X10_seal_0_0 _ (c_isPeriod1 (by omega)) (ev_r (sg_X10_seal_4_1 _ _ (by decide) (k_lt rfl hD.bc hi (by omega)) (k_in rfl (by omega) (by omega))) (by rw [kc (by omega)]))) (sg_X11_seal_0_0 _ (m_inN_1 (n := d.cl) (by rw [hD.mc, nI_sub1 (by omega)]) hi (by omega)) (ev_r (sg_X11_seal_13_1 _ _ (by decide) (k_in (nI_add 980 i) (by omega) (by omega))) ?_))
    rw [kx 980 (a := 980) rfl (by omega), hD.e i hi]
theorem op_audit (hR : rAll d im tl I L) : zOpI X im tl I L mt_X10_audit mt_X11_audit [.ref 0, .null] [.ref 39, .null] := by
  have hD := hR.1.rd
  have hJ := hR.1.rj
  have h1 := hD.d
  have h2 := hD.c
  have loop : ∀ f k : Nat, k + f = d.cl → ∃ v, zEv X mt_X10_audit 2 [.ref 0, .int (nI k)] [] (zSH im tl, I, L) (some (.int v), (zSH im tl, I, L)) ∧ zEv X mt_X11_audit 2 [.ref 39, .int (nI k)] [] (zSH im tl, I, L) (some (.int v), (zSH im tl, I, L)) := by
    intro f
    induction f with
    | zero =>
      intro k hk
      have : k = d.cl := by omega
      subst this
      exact ⟨-5, sg_X10_audit_2_1 _ (k_nle (a := 10) rfl rfl (by omega) (by omega)) (k_le hD.bc rfl (Nat.le_refl _) (by omega)), sg_X11_audit_2_0 _ (k_le hD.mc rfl (Nat.le_refl _) (by omega))⟩
    | succ f ih =>
      intro k hk
      have hE : L 41 ((980 : Int32) + nI k).toNatClampNeg = L 27 k := by rw [kx 980 (a := 980) rfl (by omega), hD.e k (by omega)]
      have cc : (nI k).toNatClampNeg = k := kc (by omega)
      have key : ∃ v, zEv X mt_X10_audit 46 [.ref 0, .int (nI k)] [.long (cSo I d.sz d.nJ (nI (100 * k)) (nI (100 * k + 99))), .long (L 27 k)] (zSH im tl, I, L) (some (.int v), (zSH im tl, I, L)) ∧ zEv X mt_X11_audit 27 [.ref 39, .int (nI k)] [.long (cSo I d.sz d.nJ (nI (100 * k)) (nI (100 * k + 99))), .long (L 27 k)] (zSH im tl, I, L) (some (.int v), (zSH im tl, I, L)) := by
        by_cases he : lg_cmp (L 27 k) (cSo I d.sz d.nJ (nI (100 * k)) (nI (100 * k + 99))) = 0
        · obtain ⟨v, e1, e2⟩ := ih (k + 1) (by omega)
          exact ⟨v, sg_X10_audit_46_0 _ _ _ he (by rw [nI_1]; exact e1), sg_X11_audit_27_0 _ _ _ he (by rw [nI_1]; exact e2)⟩
        · exact ⟨_, sg_X10_audit_46_1 _ _ _ he, sg_X11_audit_27_1 _ _ _ he⟩
      obtain ⟨v, e1, e2⟩ := key
      refine ⟨v, sg_X10_audit_2_2 _ (k_nle (a := 10) rfl rfl (by omega) (by omega)) (k_nle hD.bc rfl (by omega) (by omega)) (k_in rfl (by omega) (by omega)) c_firstDay (sg_X10_audit_39_0 _ _ _ c_lastDay (sg_X10_audit_43_0 _ _ _ _ (cj_sealOver hJ.c hJ.z hJ.j60 _ _) ?_)), sg_X11_audit_2_1 _ (k_nle hD.mc rfl (by omega) (by omega)) (k_in (nI_add 980 k) (by omega) (by omega)) (mo_sealOf hJ h1 k (by omega)) ?_⟩
      · rw [cc]; exact e1
      · rw [hE]; exact e2
  obtain ⟨v, e1, e2⟩ := loop d.cl 0 (by omega)
  exact op_roI hR v (sg_X10_audit_0_0 e1) (sg_X11_audit_0_0 e2)
/-! meet -/
theorem mee_fuel {p : Nat → Nat} {nA : Nat} (hp : ∀ k, 1 ≤ k → k < nA → p k < k) : ∀ (s x y f g : Nat), x + y ≤ s → x < nA → y < nA → x + y < f → x + y < g → mee p f x y = mee p g x y := by
  intro s
  induction s with
  | zero =>
    intro x y f g h1 hx hy hf hg
    obtain ⟨f, rfl⟩ : ∃ m, f = m + 1 := ⟨f - 1, by omega⟩
    obtain ⟨g, rfl⟩ : ∃ m, g = m + 1 := ⟨g - 1, by omega⟩
    rw [mee, mee, if_pos (by omega), if_pos (by omega)]
  | succ s ih =>
    intro x y f g h1 hx hy hf hg
    obtain ⟨f, rfl⟩ : ∃ m, f = m + 1 := ⟨f - 1, by omega⟩
    obtain ⟨g, rfl⟩ : ∃ m, g = m + 1 := ⟨g - 1, by omega⟩
    rw [mee, mee]
    by_cases e : x = y
    · rw [if_pos e, if_pos e]
    · rw [if_neg e, if_neg e]
      by_cases e2 : y < x
      · rw [if_pos e2, if_pos e2]
        have := hp x (by omega) hx
        exact ih _ _ _ _ (by omega) (by omega) hy (by omega) (by omega)
      · rw [if_neg e2, if_neg e2]
        have := hp y (by omega) hy
        exact ih _ _ _ _ (by omega) hx (by omega) (by omega) (by omega)
theorem ib_fuel {p : Nat → Nat} {nA : Nat} (hp : ∀ k, 1 ≤ k → k < nA → p k < k) (t : Nat) : ∀ (s x f g : Nat), x ≤ s → x < nA → x < f → x < g → ib p f x t = ib p g x t := by
  intro s
  induction s with
  | zero =>
    intro x f g h1 hx hf hg
    obtain ⟨f, rfl⟩ : ∃ m, f = m + 1 := ⟨f - 1, by omega⟩
    obtain ⟨g, rfl⟩ : ∃ m, g = m + 1 := ⟨g - 1, by omega⟩
    rw [ib, ib, if_pos (by omega), if_pos (by omega)]
  | succ s ih =>
    intro x f g h1 hx hf hg
    obtain ⟨f, rfl⟩ : ∃ m, f = m + 1 := ⟨f - 1, by omega⟩
    obtain ⟨g, rfl⟩ : ∃ m, g = m + 1 := ⟨g - 1, by omega⟩
    rw [ib, ib]
    by_cases e : x ≤ t
    · rw [if_pos e, if_pos e]
    · rw [if_neg e, if_neg e]
      have := hp x (by omega) hx
      exact ih _ _ _ (by omega) (by omega) (by omega) (by omega)
theorem ib_up {p : Nat → Nat} {nA : Nat} (h30 : nA ≤ 30) (hp : ∀ k, 1 ≤ k → k < nA → p k < k) {b x : Nat} (hb : b < nA) (h : x < b) : ib p 30 b x = ib p 30 (p b) x := by
  have := hp b (by omega) hb
  rw [show ib p 30 b x = (if b ≤ x then decide (b = x) else ib p 29 (p b) x) from rfl, if_neg (by omega)]
  exact ib_fuel hp x b _ _ _ (by omega) (by omega) (by omega) (by omega)
theorem ib_self {p : Nat → Nat} {x : Nat} : ib p 30 x x = true := by
  rw [show ib p 30 x x = (if x ≤ x then decide (x = x) else ib p 29 (p x) x) from rfl, if_pos (Nat.le_refl _), decide_eq_true rfl]
theorem mee_in {p : Nat → Nat} {nA : Nat} (h30 : nA ≤ 30) (hp : ∀ k, 1 ≤ k → k < nA → p k < k) {x : Nat} (hx : x < nA) : ∀ (s b : Nat), b ≤ s → b < nA → ib p 30 b x = true → mee p 60 x b = x := by
  intro s
  induction s with
  | zero =>
    intro b h1 hb h
    by_cases e : x = b
    · rw [show mee p 60 x b = (if x = b then x else if b < x then mee p 59 (p x) b else mee p 59 x (p b)) from rfl, if_pos e]
    · rw [ib_lt (by omega)] at h; cases h
  | succ s ih =>
    intro b h1 hb h
    rw [show mee p 60 x b = (if x = b then x else if b < x then mee p 59 (p x) b else mee p 59 x (p b)) from rfl]
    by_cases e : x = b
    · rw [if_pos e]
    · by_cases e2 : b < x
      · rw [ib_lt e2] at h; cases h
      · have := hp b (by omega) hb
        rw [if_neg e, if_neg e2, mee_fuel hp (x + p b) x (p b) 59 60 (Nat.le_refl _) hx (by omega) (by omega) (by omega)]
        exact ih (p b) (by omega) (by omega) (by rw [← ib_up h30 hp hb (by omega)]; exact h)
theorem mee_out {p : Nat → Nat} {nA : Nat} (h30 : nA ≤ 30) (hp : ∀ k, 1 ≤ k → k < nA → p k < k) {x : Nat} (hx1 : 1 ≤ x) (hx : x < nA) : ∀ (s b : Nat), b ≤ s → b < nA → ib p 30 b x = false → mee p 60 x b = mee p 60 (p x) b := by
  have hpx := hp x hx1 hx
  intro s
  induction s with
  | zero =>
    intro b h1 hb h
    rw [show mee p 60 x b = (if x = b then x else if b < x then mee p 59 (p x) b else mee p 59 x (p b)) from rfl, if_neg (by omega), if_pos (by omega)]
    exact mee_fuel hp (p x + b) _ _ _ _ (Nat.le_refl _) (by omega) hb (by omega) (by omega)
  | succ s ih =>
    intro b h1 hb h
    rw [show mee p 60 x b = (if x = b then x else if b < x then mee p 59 (p x) b else mee p 59 x (p b)) from rfl]
    by_cases e : x = b
    · subst e; rw [ib_self] at h; cases h
    · rw [if_neg e]
      by_cases e2 : b < x
      · rw [if_pos e2]
        exact mee_fuel hp (p x + b) _ _ _ _ (Nat.le_refl _) (by omega) hb (by omega) (by omega)
      · have hpb := hp b (by omega) hb
        rw [if_neg e2, mee_fuel hp (x + p b) x (p b) 59 60 (Nat.le_refl _) hx (by omega) (by omega) (by omega), ih (p b) (by omega) (by omega) (by rw [← ib_up h30 hp hb (by omega)]; exact h)]
        rw [show mee p 60 (p x) b = (if p x = b then p x else if b < p x then mee p 59 (p (p x)) b else mee p 59 (p x) (p b)) from rfl, if_neg (by omega), if_neg (by omega)]
        exact mee_fuel hp (p x + p b) _ _ _ _ (Nat.le_refl _) (by omega) (by omega) (by omega) (by omega)
theorem ib_root {p : Nat → Nat} {nA : Nat} (h30 : nA ≤ 30) (hp : ∀ k, 1 ≤ k → k < nA → p k < k) : ∀ (s b : Nat), b ≤ s → b < nA → ib p 30 b 0 = true := by
  intro s
  induction s with
  | zero => intro b h1 hb; have : b = 0 := by omega
            subst this; exact ib_self
  | succ s ih =>
    intro b h1 hb
    by_cases e : b = 0
    · subst e; exact ib_self
    · have := hp b (by omega) hb
      rw [ib_up h30 hp hb (by omega)]
      exact ih _ (by omega) (by omega)
theorem op_meet (hR : rAll d im tl I L) (a b : Int32) : zOpI X im tl I L mt_X10_meet mt_X11_meet [.ref 0, .int a, .int b] [.ref 39, .int a, .int b, .null] := by
  have hA := hR.1.ra
  have h30 := hA.n30
  have hp : ∀ k, 1 ≤ k → k < d.nA → d.p k < k := fun k h1 h2 => (hA.pp k h1 h2).1
  rcases k_ix a d.nA (by omega) with h | ⟨j, hj, rfl⟩
  · exact op_roI hR _ (sg_X10_meet_0_0 _ _ (cv_has0 hA.c h) (sg_X10_meet_11_0 _ _ _ rfl)) (sg_X11_meet_0_0 _ _ (mo_isAccount0 hA.m hA.n1 h30 h) (sg_X11_meet_5_0 _ _ _ rfl))
  · rcases k_ix b d.nA (by omega) with h | ⟨i, hi, rfl⟩
    · exact op_roI hR _ (sg_X10_meet_0_0 _ _ (cv_has1 hA.c hj h30) (sg_X10_meet_11_1 _ _ _ (by decide) (cv_has0 hA.c h) (sg_X10_meet_25_0 _ _ _ rfl))) (sg_X11_meet_0_0 _ _ (mo_isAccount1 hA.m hj h30) (sg_X11_meet_5_1 _ _ _ (by decide) (mo_isAccount0 hA.m hA.n1 h30 h) (sg_X11_meet_13_0 _ _ _ rfl)))
    · refine op_roI hR (nI (mee d.p 60 j i)) (sg_X10_meet_0_0 _ _ (cv_has1 hA.c hj h30) (sg_X10_meet_11_1 _ _ _ (by decide) (cv_has1 hA.c hi h30) (sg_X10_meet_25_1 _ _ _ (by decide) (cv_findMeeting h30 hA.pp hj hi) (sg_X10_meet_42_0 _ _ _)))) (sg_X11_meet_0_0 _ _ (mo_isAccount1 hA.m hj h30) (sg_X11_meet_5_1 _ _ _ (by decide) (mo_isAccount1 hA.m hi h30) (sg_X11_meet_13_1 _ _ _ (by decide) ?_)))
      have loop : ∀ s x, x ≤ s → x < d.nA → zEv X mt_X11_meet 20 [.ref 39, .int (nI j), .int (nI i), .int (nI x)] [] (zSH im tl, I, L) (some (.int (nI (mee d.p 60 x i))), (zSH im tl, I, L)) := by
        intro s
        induction s with
        | zero =>
          intro x h1 hx
          have : x = 0 := by omega
          subst this
          refine sg_X11_meet_20_0 _ _ _ (mo_isOf h30 hp hA.pm hA.pm0 hi hx) ?_
          have hb := ib_root h30 hp i i (Nat.le_refl _) hi
          rw [hb, mee_in h30 hp hx i i (Nat.le_refl _) hi hb]
          exact sg_X11_meet_26_1 _ _ _ _ (by decide)
        | succ s ih =>
          intro x h1 hx
          refine sg_X11_meet_20_0 _ _ _ (mo_isOf h30 hp hA.pm hA.pm0 hi hx) ?_
          cases hb : ib d.p 30 i x with
          | true =>
            rw [mee_in h30 hp hx i i (Nat.le_refl _) hi hb]
            exact sg_X11_meet_26_1 _ _ _ _ (by decide)
          | false =>
            have hx1 : 1 ≤ x := by
              by_cases e : x = 0
              · subst e; rw [ib_root h30 hp i i (Nat.le_refl _) hi] at hb; cases hb
              · omega
            have hpx := hp x hx1 hx
            refine sg_X11_meet_26_0 _ _ _ _ (by decide) (k_in (nI_add 10 x) (by omega) (by omega)) ?_
            rw [kx 10 (a := 10) rfl (by omega), hA.pm x hx1 hx, mee_out h30 hp hx1 hx i i (Nat.le_refl _) hi hb]
            exact ih _ (by omega) (by omega)
      exact loop j j (Nat.le_refl _) hj
end O2
