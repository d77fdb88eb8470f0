section O5
variable {X : zSc} {im : Option Nat} {tl : List zS} {I J : zI} {L K : zL} {d : zD}
theorem op_limits (hR : rAll d im tl I L) (a : Int32) (f c : Int64) : zOpI X im tl I L mt_X10_limits mt_X11_limits [.ref 0, .int a, .long f, .null, .long c, .null, .null, .null] [.ref 39, .int a, .long f, .null, .long c, .null, .null, .null] := by
  have hA := hR.1.ra
  have hJ := hR.1.rj
  have hD := hR.1.rd
  have h30 := hA.n30
  have h1 := hA.n1
  rcases k_ix a d.nA (by omega) with h | ⟨j, hj, rfl⟩
  · exact op_roI hR _ (sg_X10_limits_0_0 _ _ _ (cv_has0 hA.c h) (sg_X10_limits_11_0 _ _ _ _ rfl)) (sg_X11_limits_0_0 _ _ _ (mo_isAccount0 hA.m h1 h30 h) (sg_X11_limits_5_0 _ _ _ _ rfl))
  · by_cases hfc : lg_cmp f c ≤ 0
    · by_cases hs1 : lg_cmp (cSum I d.sz d.nJ (nI j) 0 999) f < 0
      · exact op_roI hR _ (sg_X10_limits_0_0 _ _ _ (cv_has1 hA.c hj h30) (sg_X10_limits_11_1 _ _ _ _ (by decide) hfc (c_sumByNow hJ hD.d hD.bd _) (sg_X10_limits_34_0 _ _ _ _ hs1))) (sg_X11_limits_0_0 _ _ _ (mo_isAccount1 hA.m hj h30) (sg_X11_limits_5_1 _ _ _ _ (by decide) hfc (mo_balanceBy hJ hD.d _ _) (sg_X11_limits_28_0 _ _ _ _ hs1)))
      · by_cases hs2 : lg_cmp (cSum I d.sz d.nJ (nI j) 0 999) c ≤ 0
        · have ci := k_in (x := nI j) (n := 30) rfl (by omega) (by omega)
          have cc : (nI j).toNatClampNeg = j := kc (by omega)
          have c0 : ((0 : Int32) + nI j).toNatClampNeg = j := by rw [kx 0 (a := 0) rfl (by omega), Nat.zero_add]
          have c3 : ((30 : Int32) + nI j).toNatClampNeg = 30 + j := kx 30 (a := 30) rfl (by omega)
          refine ⟨1, I, va_up (va_up L 6 (vp_updL (L 6) j f)) 7 (vp_updL (L 7) j c), I, va_up (va_up (va_up L 6 (vp_updL (L 6) j f)) 7 (vp_updL (L 7) j c)) 41 (vp_updL (vp_updL (L 41) j f) (30 + j) c), d, sg_X10_limits_0_0 _ _ _ (cv_has1 hA.c hj h30) (sg_X10_limits_11_1 _ _ _ _ (by decide) hfc (c_sumByNow hJ hD.d hD.bd _) (ev_r (sg_X10_limits_34_1 _ _ _ _ hs1 hs2 ci ci) (by rw [cc]))), sg_X11_limits_0_0 _ _ _ (mo_isAccount1 hA.m hj h30) (sg_X11_limits_5_1 _ _ _ _ (by decide) hfc (mo_balanceBy (I := I) (d := d) (by exact hJ) hD.d _ _) (ev_r (sg_X11_limits_28_1 _ _ _ _ hs1 hs2 (k_in (nI_add 0 j) (by omega) (by omega)) (k_in (nI_add 30 j) (by omega) (by omega))) ?_)), ?_, hR.2⟩
          · rw [c0, c3, va_up2]; rfl
          · refine RB.mk ?_ ?_ ?_ ?_ hR.1.rc hR.1.rr
            · refine RA.mk h1 h30 hA.c hA.m hA.pp hA.pm hA.p0 hA.pm0 hA.cu hA.so hA.so0 ?_ ?_ ?_ ?_
              · intro k hk
                show vp_updL (vp_updL (L 41) j f) (30 + j) c k = vp_updL (L 6) j f k
                rw [pk_uLn (by omega)]
                by_cases e : k = j
                · subst e; rw [pk_uLs, pk_uLs]
                · rw [pk_uLn e, pk_uLn e]; exact hA.fl k hk
              · intro k hk
                show vp_updL (vp_updL (L 41) j f) (30 + j) c (30 + k) = vp_updL (L 7) j c k
                by_cases e : k = j
                · subst e; rw [pk_uLs, pk_uLs]
                · rw [pk_uLn (by omega), pk_uLn (by omega), pk_uLn e]; exact hA.ce k hk
              · intro k k1 k2
                have e : k ≠ j := by omega
                exact ⟨(pk_uLn e).trans (hA.fr k k1 k2).1, (pk_uLn e).trans (hA.fr k k1 k2).2⟩
              · intro k hk
                exact ((pk_uLn (by omega)).trans (pk_uLn (by omega))).trans (hA.bu k hk)
            · exact RJ.cg hJ (fun k hk => rfl) (fun k hk => (pk_uLn (by omega)).trans (pk_uLn (by omega)))
            · exact RO.cg hR.1.ro (fun k hk => rfl) (fun k hk => (pk_uLn (by omega)).trans (pk_uLn (by omega)))
            · exact RD.cg hD (fun k hk => rfl) (fun k hk => (pk_uLn (by omega)).trans (pk_uLn (by omega)))
        · exact op_roI hR _ (sg_X10_limits_0_0 _ _ _ (cv_has1 hA.c hj h30) (sg_X10_limits_11_1 _ _ _ _ (by decide) hfc (c_sumByNow hJ hD.d hD.bd _) (sg_X10_limits_34_2 _ _ _ _ hs1 hs2))) (sg_X11_limits_0_0 _ _ _ (mo_isAccount1 hA.m hj h30) (sg_X11_limits_5_1 _ _ _ _ (by decide) hfc (mo_balanceBy hJ hD.d _ _) (sg_X11_limits_28_2 _ _ _ _ hs1 hs2)))
    · exact op_roI hR _ (sg_X10_limits_0_0 _ _ _ (cv_has1 hA.c hj h30) (sg_X10_limits_11_2 _ _ _ _ (by decide) hfc)) (sg_X11_limits_0_0 _ _ _ (mo_isAccount1 hA.m hj h30) (sg_X11_limits_5_2 _ _ _ _ (by decide) hfc))
theorem op_days (hR : rAll d im tl I L) (a : Int32) : zOpI X im tl I L mt_X10_days mt_X11_days [.ref 0, .int a] [.ref 39, .int a] := by
  have hD := hR.1.rd
  have h1 := hD.d
  have h2 := hD.c
  by_cases ha : a < 1
  · exact op_roI hR _ (sg_X10_days_0_0 _ ha) (sg_X11_days_0_0 _ (mo_in0 (Or.inl ha)) (sg_X11_days_7_0 _ _ rfl))
  · by_cases hb : 100 < a
    · exact op_roI hR _ (sg_X10_days_0_1 _ ha hb) (sg_X11_days_0_0 _ (mo_in0 (Or.inr hb)) (sg_X11_days_7_0 _ _ rfl))
    · have ha0 : ¬ a < 0 := fun e => ha (Int32.lt_trans e (by decide))
      obtain ⟨j, hj, rfl⟩ : ∃ j : Nat, j ≤ 100 ∧ a = nI j := nI_of2 (M := 100) (by decide +kernel) ha0 (Int32.not_lt.mp hb)
      have s1 : I 1 6 + nI j = nI (d.day + j) := by rw [hD.bd, nI_add]
      have s2 : I 40 4 + nI j = nI (d.day + j) := by rw [hD.md, nI_add]
      by_cases hc : d.day + j < 1000
      · refine ⟨nI (d.day + j), va_up I 1 (upd (I 1) 6 (nI (d.day + j))), L, va_up (va_up I 1 (upd (I 1) 6 (nI (d.day + j)))) 40 (upd (I 40) 4 (nI (d.day + j))), L, (d.nA, d.nJ, d.nP, d.day + j, d.cl, d.nC, d.p, d.sz, d.fs, d.dy, d.cnt, d.op), ev_r (sg_X10_days_0_2 _ ha hb (k_lt (b := 1000) s1 rfl hc (by omega))) (by rw [s1]), sg_X11_days_0_0 _ (mo_in1 ha hb) (ev_r (sg_X11_days_7_1 _ _ (by decide) (k_le (b := 999) s2 rfl (by omega) (by omega))) ?_), RB.mk ?_ ?_ ?_ ?_ ?_ ?_, hR.2⟩
        · show (some (Value.int (I 40 4 + nI j)), zSH im tl, va_up (va_up I 1 (upd (I 1) 6 (nI (d.day + j)))) 40 (upd (I 40) 4 (I 40 4 + nI j)), L) = _
          rw [s2]
        · exact RA.cg hR.1.ra (fun k hk => pk_un (by omega)) (fun k hk => rfl)
        · exact RJ.cg (hR.1.rj.up (Nat.le_refl _) (Nat.le_add_right _ _)) (fun k hk => pk_un (by omega)) (fun k hk => rfl)
        · have := RO.cg hR.1.ro (n' := upd (I 40) 4 (nI (d.day + j))) (fun k hk => pk_un (by omega)) (fun k hk => rfl)
          exact this
        · exact RD.mk (by show d.day + j ≤ 999; omega) (by show 100 * d.cl ≤ d.day + j; omega) rfl rfl hD.bc hD.mc hD.e
        · exact RC.cg hR.1.rc (fun k hk => pk_un (by omega))
        · exact RR.cg hR.1.rr (fun k hk => pk_un (by omega))
      · exact op_roI hR _ (sg_X10_days_0_3 _ ha hb (k_nlt (b := 1000) s1 rfl (by omega) (by omega))) (sg_X11_days_0_0 _ (mo_in1 ha hb) (sg_X11_days_7_2 _ _ (by decide) (k_nle (b := 999) s2 rfl (by omega) (by omega))))
theorem op_begin (hR : rAll d im tl I L) : zOpI X im tl I L mt_X10_begin mt_X11_begin [.ref 0] [.ref 39] := by
  have hJ := hR.1.rj
  have hO := hR.1.ro
  have h60 := hJ.j60
  cases hop : d.op with
  | some k =>
    obtain ⟨k10, _, e1, e2, e3⟩ := hO.yes k hop
    exact op_roI hR _ (sg_X10_begin_0_1 (by rw [e1]; decide)) (sg_X11_begin_0_2 (by rw [e3]; exact nI_pos (by omega)))
  | none =>
    obtain ⟨e1, e2⟩ := hO.no hop
    by_cases hf : d.nJ = 60
    · exact op_roI hR _ (sg_X10_begin_0_0 e1 (cj_isFull hJ.c h60) (sg_X10_begin_23_1 _ (by rw [decide_eq_true hf]; decide))) (sg_X11_begin_0_0 (by rw [e2]; decide) (by rw [hJ.m, hf]; rfl))
    · refine ⟨nI d.nJ, va_up (va_up I 1 (upd (I 1) 5 1)) 24 (upd (I 24) 0 0), L, va_up (va_up (va_up I 1 (upd (I 1) 5 1)) 24 (upd (I 24) 0 0)) 40 (upd (I 40) 3 0), L, (d.nA, d.nJ, d.nP, d.day, d.cl, d.nC, d.p, d.sz, d.fs, d.dy, d.cnt, some 0), sg_X10_begin_0_0 e1 (cj_isFull hJ.c h60) (ev_r (sg_X10_begin_23_0 _ (by rw [decide_eq_false hf]; rfl)) (by rw [hJ.c])), ev_r (sg_X11_begin_0_1 (by show I 40 3 < 0; rw [e2]; decide) (k_ne (a := d.nJ) (b := 60) hJ.m rfl hf (by omega) (by omega))) ?_, RB.mk ?_ ?_ ?_ ?_ ?_ ?_, hR.2⟩
      · show (some (Value.int (I 40 1)), zSH im tl, va_up (va_up (va_up I 1 (upd (I 1) 5 1)) 24 (upd (I 24) 0 0)) 40 (upd (I 40) 3 0), L) = _
        rw [hJ.m]
      · exact RA.cg hR.1.ra (fun k hk => pk_un (by omega)) (fun k hk => rfl)
      · exact RJ.cg hJ (fun k hk => pk_un (by omega)) (fun k hk => rfl)
      · refine RO.mk (fun e => ?_) (fun k e => ?_) (fun k e i hi => ?_) (fun k e i hi => ?_)
        · exact absurd (show (some 0 : Option Nat) = none from e) (by simp)
        · have e' : (some 0 : Option Nat) = some k := e
          obtain rfl : 0 = k := by injection e'
          exact ⟨by omega, by show d.nJ < 60; omega, rfl, rfl, rfl⟩
        · have e' : (some 0 : Option Nat) = some k := e
          obtain rfl : 0 = k := by injection e'
          omega
        · have e' : (some 0 : Option Nat) = some k := e
          obtain rfl : 0 = k := by injection e'
          omega
      · exact RD.mk hR.1.rd.d hR.1.rd.c hR.1.rd.bd hR.1.rd.md hR.1.rd.bc hR.1.rd.mc hR.1.rd.e
      · exact RC.cg hR.1.rc (fun k hk => pk_un (by omega))
      · exact RR.cg hR.1.rr (fun k hk => pk_un (by omega))
theorem op_cancel (hR : rAll d im tl I L) : zOpI X im tl I L mt_X10_cancel mt_X11_cancel [.ref 0] [.ref 39, .null] := by
  have hO := hR.1.ro
  cases hop : d.op with
  | none =>
    obtain ⟨e1, e2⟩ := hO.no hop
    exact op_roI hR _ (sg_X10_cancel_0_0 e1) (sg_X11_cancel_0_1 (by rw [e2]; decide))
  | some k =>
    obtain ⟨k10, _, e1, e2, e3⟩ := hO.yes k hop
    refine ⟨nI k, va_up I 1 (upd (I 1) 5 0), L, va_up (va_up I 1 (upd (I 1) 5 0)) 40 (upd (I 40) 3 (-1)), L, (d.nA, d.nJ, d.nP, d.day, d.cl, d.nC, d.p, d.sz, d.fs, d.dy, d.cnt, none), ev_r (sg_X10_cancel_0_1 (by rw [e1]; decide)) (by rw [e2]), ev_r (sg_X11_cancel_0_0 (by show (0 : Int32) ≤ I 40 3; rw [e3]; exact nI_pos' (by omega))) ?_, RB.mk ?_ ?_ ?_ ?_ ?_ ?_, hR.2⟩
    · show (some (Value.int (I 40 3)), zSH im tl, va_up (va_up I 1 (upd (I 1) 5 0)) 40 (upd (I 40) 3 (-1)), L) = _
      rw [e3]
    · exact RA.cg hR.1.ra (fun k hk => pk_un (by omega)) (fun k hk => rfl)
    · exact RJ.cg hR.1.rj (fun k hk => pk_un (by omega)) (fun k hk => rfl)
    · refine RO.mk (fun e => ⟨rfl, rfl⟩) (fun k e => ?_) (fun k e i hi => ?_) (fun k e i hi => ?_)
      · exact absurd (show (none : Option Nat) = some k from e) (by simp)
      · exact absurd (show (none : Option Nat) = some k from e) (by simp)
      · exact absurd (show (none : Option Nat) = some k from e) (by simp)
    · exact RD.mk hR.1.rd.d hR.1.rd.c hR.1.rd.bd hR.1.rd.md hR.1.rd.bc hR.1.rd.mc hR.1.rd.e
    · exact RC.cg hR.1.rc (fun k hk => pk_un (by omega))
    · exact RR.cg hR.1.rr (fun k hk => pk_un (by omega))
theorem op_close (hR : rAll d im tl I L) (a : Int32) : zOpI X im tl I L mt_X10_close mt_X11_close [.ref 0, .int a] [.ref 39, .int a] := by
  have hD := hR.1.rd
  have hJ := hR.1.rj
  have h1 := hD.d
  have h2 := hD.c
  rcases k_ix a 10 (by omega) with h | ⟨j, hj, rfl⟩
  · exact op_roI hR _ (sg_X10_close_0_0 _ (c_isPeriod0 h) (sg_X10_close_4_0 _ _ rfl)) (sg_X11_close_0_0 _ (m_inN_0 (n := 10) (by decide +kernel) (by omega) h) (sg_X11_close_7_0 _ _ rfl))
  · have mi : zEv X mt_X11_in 0 [.int (nI j), .int 0, .int 9] [] (zSH im tl, I, L) (some (.int 1), (zSH im tl, I, L)) := m_inN_1 (n := 10) rfl hj (by omega)
    by_cases hc : j = d.cl
    · subst hc
      have e1 : nI d.cl + 1 = nI (d.cl + 1) := nI_1 _
      have e2 : (100 : Int32) * (nI d.cl + 1) = nI (100 * (d.cl + 1)) := by rw [e1, show (100 : Int32) = nI 100 from rfl, pk_mul]
      by_cases hd : 100 * (d.cl + 1) ≤ d.day
      · refine ⟨nI (d.cl + 1), va_up I 1 (upd (I 1) 7 (nI (d.cl + 1))), va_up L 27 (vp_updL (L 27) d.cl (cSo I d.sz d.nJ (nI (100 * d.cl)) (nI (100 * d.cl + 99)))), va_up (va_up I 1 (upd (I 1) 7 (nI (d.cl + 1)))) 40 (upd (I 40) 5 (nI (d.cl + 1))), va_up (va_up L 27 (vp_updL (L 27) d.cl (cSo I d.sz d.nJ (nI (100 * d.cl)) (nI (100 * d.cl + 99))))) 41 (vp_updL (L 41) (980 + d.cl) (cSo I d.sz d.nJ (nI (100 * d.cl)) (nI (100 * d.cl + 99)))), (d.nA, d.nJ, d.nP, d.day, d.cl + 1, d.nC, d.p, d.sz, d.fs, d.dy, d.cnt, d.op), sg_X10_close_0_0 _ (c_isPeriod1 hj) (sg_X10_close_4_1 _ _ (by decide) hD.bc.symm (by rw [e1]; exact c_firstDay) (sg_X10_close_33_0 _ _ _ (k_le rfl hD.bd hd (by omega)) c_firstDay (sg_X10_close_58_0 _ _ _ c_lastDay (sg_X10_close_62_0 _ _ _ _ (cj_sealOver hJ.c hJ.z hJ.j60 _ _) (ev_r (sg_X10_close_65_0 _ _ _ (k_in rfl (by omega) (by omega))) ?_))))), sg_X11_close_0_0 _ (m_inN_1 (n := 10) rfl hj (by omega)) (sg_X11_close_7_1 _ _ (by decide) hD.mc.symm (by rw [e2]; exact k_le rfl hD.md hd (by omega)) (mo_sealOf (I := I) (d := d) (by exact hJ) h1 _ (by omega)) (ev_r (sg_X11_close_54_0 _ _ _ (k_in (nI_add 980 d.cl) (by omega) (by omega))) ?_)), RB.mk ?_ ?_ ?_ ?_ ?_ ?_, hR.2⟩
        · rw [hD.bc, e1, kc (by omega)]
        · rw [kx 980 (a := 980) rfl (by omega)]
          show (some (Value.int (I 40 5 + 1)), zSH im tl, va_up (va_up I 1 (upd (I 1) 7 (nI (d.cl + 1)))) 40 (upd (I 40) 5 (I 40 5 + 1)), va_up (va_up L 27 (vp_updL (L 27) d.cl (cSo I d.sz d.nJ (nI (100 * d.cl)) (nI (100 * d.cl + 99))))) 41 (vp_updL (L 41) (980 + d.cl) (cSo I d.sz d.nJ (nI (100 * d.cl)) (nI (100 * d.cl + 99))))) = _
          rw [hD.mc, e1]
        · exact RA.cg hR.1.ra (fun k hk => pk_un (by omega)) (fun k hk => pk_uLn (by omega))
        · have hP := rj_p hJ
          have h60 := hJ.j60
          exact RJ.cg (nP := d.nP) hJ (fun k hk => pk_un (by omega)) (fun k hk => pk_uLn (by omega))
        · have hP := rj_p hJ
          have h60 := hJ.j60
          exact RO.cg (nP := d.nP) hR.1.ro (fun k hk => pk_un (by omega)) (fun k hk => pk_uLn (by omega))
        · refine RD.mk h1 (by show 100 * (d.cl + 1) ≤ d.day; exact hd) hD.bd hD.md rfl rfl (fun k hk => ?_)
          show vp_updL (L 41) (980 + d.cl) (cSo I d.sz d.nJ (nI (100 * d.cl)) (nI (100 * d.cl + 99))) (980 + k) = vp_updL (L 27) d.cl (cSo I d.sz d.nJ (nI (100 * d.cl)) (nI (100 * d.cl + 99))) k
          have hk' : k < d.cl + 1 := hk
          by_cases e : k = d.cl
          · subst e; rw [pk_uLs, pk_uLs]
          · rw [pk_uLn (by omega), pk_uLn e]; exact hD.e k (by omega)
        · exact RC.cg hR.1.rc (fun k hk => pk_un (by omega))
        · exact RR.cg hR.1.rr (fun k hk => pk_un (by omega))
      · exact op_roI hR _ (sg_X10_close_0_0 _ (c_isPeriod1 hj) (sg_X10_close_4_1 _ _ (by decide) hD.bc.symm (by rw [e1]; exact c_firstDay) (sg_X10_close_33_1 _ _ _ (k_nle rfl hD.bd (by omega) (by omega))))) (sg_X11_close_0_0 _ mi (sg_X11_close_7_2 _ _ (by decide) hD.mc.symm (by rw [e2]; exact k_nle rfl hD.md (by omega) (by omega))))
    · exact op_roI hR _ (sg_X10_close_0_0 _ (c_isPeriod1 hj) (sg_X10_close_4_2 _ _ (by decide) (k_ne rfl hD.bc hc (by omega) (by omega)))) (sg_X11_close_0_0 _ mi (sg_X11_close_7_3 _ _ (by decide) (k_ne rfl hD.mc hc (by omega) (by omega))))
theorem op_budget (hR : rAll d im tl I L) (a t : Int32) (v : Int64) : zOpI X im tl I L mt_X10_budget mt_X11_budget [.ref 0, .int a, .int t, .long v, .null] [.ref 39, .int a, .int t, .long v, .null] := by
  have hA := hR.1.ra
  have hD := hR.1.rd
  have h30 := hA.n30
  have h1 := hA.n1
  have hd1 := hD.d
  have hd2 := hD.c
  rcases k_ix a d.nA (by omega) with h | ⟨j, hj, rfl⟩
  · exact op_roI hR _ (sg_X10_budget_0_0 _ _ _ (cv_has0 hA.c h) (sg_X10_budget_11_0 _ _ _ _ rfl)) (sg_X11_budget_0_0 _ _ _ (mo_isAccount0 hA.m h1 h30 h) (sg_X11_budget_5_0 _ _ _ _ rfl))
  · rcases k_ix t 10 (by omega) with h | ⟨t, ht, rfl⟩
    · exact op_roI hR _ (sg_X10_budget_0_0 _ _ _ (cv_has1 hA.c hj h30) (sg_X10_budget_11_1 _ _ _ _ (by decide) (c_isPeriod0 h) (sg_X10_budget_18_0 _ _ _ _ rfl))) (sg_X11_budget_0_0 _ _ _ (mo_isAccount1 hA.m hj h30) (sg_X11_budget_5_1 _ _ _ _ (by decide) (m_inN_0 (n := 10) (by decide +kernel) (by omega) h) (sg_X11_budget_15_0 _ _ _ _ rfl)))
    · by_cases hc : d.cl ≤ t
      · have em : (680 : Int32) + 10 * nI j + nI t = nI (680 + (10 * j + t)) := by
          rw [show (680 : Int32) = nI 680 from rfl, show (10 : Int32) = nI 10 from rfl, pk_mul, nI_add, nI_add, Nat.add_assoc]
        refine ⟨1, I, va_up L 8 (vp_updL (L 8) (10 * j + t) v), I, va_up (va_up L 8 (vp_updL (L 8) (10 * j + t) v)) 41 (vp_updL (L 41) (680 + (10 * j + t)) v), d, sg_X10_budget_0_0 _ _ _ (cv_has1 hA.c hj h30) (sg_X10_budget_11_1 _ _ _ _ (by decide) (c_isPeriod1 ht) (ev_r (sg_X10_budget_18_1 _ _ _ _ (by decide) (k_le hD.bc rfl hc (by omega)) (kmi (by omega) (by omega))) (by rw [kmx (by omega)]))), sg_X11_budget_0_0 _ _ _ (mo_isAccount1 hA.m hj h30) (sg_X11_budget_5_1 _ _ _ _ (by decide) (m_inN_1 (n := 10) rfl ht (by omega)) (ev_r (sg_X11_budget_15_1 _ _ _ _ (by decide) (k_le hD.mc rfl hc (by omega)) (k_in em (by omega) (by omega))) ?_)), RB.mk ?_ ?_ ?_ ?_ hR.1.rc hR.1.rr, hR.2⟩
        · rw [em, kc (by omega)]; rfl
        · refine RA.mk h1 h30 hA.c hA.m hA.pp hA.pm hA.p0 hA.pm0 hA.cu hA.so hA.so0 ?_ ?_ hA.fr ?_
          · intro k hk
            exact (pk_uLn (by omega)).trans (hA.fl k hk)
          · intro k hk
            exact (pk_uLn (by omega)).trans (hA.ce k hk)
          · intro k hk
            show vp_updL (L 41) (680 + (10 * j + t)) v (680 + k) = vp_updL (L 8) (10 * j + t) v k
            by_cases e : k = 10 * j + t
            · subst e; rw [pk_uLs, pk_uLs]
            · rw [pk_uLn (by omega), pk_uLn e]; exact hA.bu k hk
        · have hP := rj_p hR.1.rj
          have h60 := hR.1.rj.j60
          exact RJ.cg hR.1.rj (fun k hk => rfl) (fun k hk => pk_uLn (by omega))
        · have hO := hR.1.ro
          have hP := rj_p hR.1.rj
          have h60 := hR.1.rj.j60
          refine RO.mk hO.no hO.yes hO.a (fun k e i hi => ?_)
          have h2 := hO.yes k e
          obtain ⟨q1, q2⟩ := hO.x k e i hi
          exact ⟨q1, (pk_uLn (by omega)).trans q2⟩
        · exact RD.cg hD (fun k hk => rfl) (fun k hk => pk_uLn (by omega))
      · exact op_roI hR _ (sg_X10_budget_0_0 _ _ _ (cv_has1 hA.c hj h30) (sg_X10_budget_11_1 _ _ _ _ (by decide) (c_isPeriod1 ht) (sg_X10_budget_18_2 _ _ _ _ (by decide) (k_nle hD.bc rfl (by omega) (by omega))))) (sg_X11_budget_0_0 _ _ _ (mo_isAccount1 hA.m hj h30) (sg_X11_budget_5_1 _ _ _ _ (by decide) (m_inN_1 (n := 10) rfl ht (by omega)) (sg_X11_budget_15_2 _ _ _ _ (by decide) (k_nle hD.mc rfl (by omega) (by omega)))))
end O5
