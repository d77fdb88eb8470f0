section O4
variable {X : zSc} {im : Option Nat} {tl : List zS} {I J : zI} {L K : zL} {d : zD}
theorem va_up2 {α : Type} (f : Nat → α) (k : Nat) (v w : α) : va_up (va_up f k v) k w = va_up f k w := by
  funext j
  unfold va_up
  by_cases h : j = k
  · rw [if_pos h, if_pos h]
  · rw [if_neg h, if_neg h, if_neg h]
theorem RJ.up {nA nA' nJ nP day day' : Nat} {sz fs dy : Nat → Nat} {C D Z V W A M : Nat → Int32} {n : Nat → Int32} {l : Nat → Int64} (h : RJ nA nJ nP day sz fs dy C D Z V W A M n l) (hA : nA ≤ nA') (hD : day ≤ day') : RJ nA' nJ nP day' sz fs dy C D Z V W A M n l := by
  refine RJ.mk h.j60 h.c h.m h.mp h.f0 h.fS h.fE h.z h.z2 h.zm h.fm ?_ h.dm h.v h.w ?_ h.x
  · intro j hj
    exact ⟨(h.d j hj).1, Nat.le_trans (h.d j hj).2 hD⟩
  · intro j hj i hi
    obtain ⟨⟨a, h1, h2⟩, h3⟩ := h.a j hj i hi
    exact ⟨⟨a, by omega, h2⟩, h3⟩
theorem RO.up {nA nA' nJ nP : Nat} {op : Option Nat} {B O A M : Nat → Int32} {n : Nat → Int32} {l : Nat → Int64} (h : RO nA nJ nP op B O A M n l) (hA : nA ≤ nA') : RO nA' nJ nP op B O A M n l := by
  refine RO.mk h.no h.yes ?_ h.x
  intro k e i hi
  obtain ⟨⟨a, h1, h2⟩, h3⟩ := h.a k e i hi
  exact ⟨⟨a, by omega, h2⟩, h3⟩
theorem ra_account {nA : Nat} {p : Nat → Nat} {C P U S : Nat → Int32} {F G B : Nat → Int64} {n : Nat → Int32} {l : Nat → Int64} (h : RA nA p C P U S F G B n l) {par : Nat} (c s : Int32) (hp : par < nA) (h30 : nA < 30) : RA (nA + 1) (fun k => if k = nA then par else p k) (upd C 0 (nI (nA + 1))) (upd P nA (nI par)) (upd U nA c) (upd S nA s) F G B (upd (upd (upd (upd n (10 + nA) (nI par)) (40 + nA) c) (70 + nA) s) 0 (nI (nA + 1))) (vp_updL (vp_updL l nA (-9223372036854775808)) (30 + nA) 9223372036854775807) := by
  have h1 := h.n1
  refine RA.mk (by omega) (by omega) pk_us pk_us ?_ ?_ ?_ ?_ ?_ ?_ ?_ ?_ ?_ ?_ ?_
  · intro k k1 k2
    by_cases e : k = nA
    · subst e
      exact ⟨by rw [if_pos rfl]; exact hp, by rw [if_pos rfl]; exact pk_us⟩
    · obtain ⟨x1, x2⟩ := h.pp k k1 (by omega)
      exact ⟨by rw [if_neg e]; exact x1, by rw [if_neg e, pk_un e]; exact x2⟩
  · intro k k1 k2
    rw [pk_un (by omega), pk_un (by omega), pk_un (by omega)]
    by_cases e : k = nA
    · subst e
      rw [if_pos rfl]; exact pk_us
    · rw [if_neg e, pk_un (by omega)]; exact h.pm k k1 (by omega)
  · rw [pk_un (by omega)]; exact h.p0
  · rw [pk_un (by omega), pk_un (by omega), pk_un (by omega), pk_un (by omega)]; exact h.pm0
  · intro k k1
    rw [pk_un (by omega), pk_un (by omega)]
    by_cases e : k = nA
    · subst e; rw [pk_us, pk_us]
    · rw [pk_un (by omega), pk_un (by omega), pk_un e]; exact h.cu k (by omega)
  · intro k k1 k2
    rw [pk_un (by omega)]
    by_cases e : k = nA
    · subst e; rw [pk_us, pk_us]
    · rw [pk_un (by omega), pk_un (by omega), pk_un (by omega), pk_un e]; exact h.so k k1 (by omega)
  · rw [pk_un (by omega)]; exact h.so0
  · intro k k1
    rw [pk_uLn (by omega)]
    by_cases e : k = nA
    · subst e; rw [pk_uLs, (h.fr k (by omega) h30).1]
    · rw [pk_uLn e]; exact h.fl k (by omega)
  · intro k k1
    by_cases e : k = nA
    · subst e; rw [pk_uLs, (h.fr k (by omega) h30).2]
    · rw [pk_uLn (by omega), pk_uLn (by omega)]; exact h.ce k (by omega)
  · intro k k1 k2
    exact h.fr k (by omega) k2
  · intro k k1
    rw [pk_uLn (by omega), pk_uLn (by omega)]; exact h.bu k k1
theorem op_account (hR : rAll d im tl I L) (a c s : Int32) : zOpI X im tl I L mt_X10_account mt_X11_account [.ref 0, .int a, .int c, .int s] [.ref 39, .int a, .int c, .int s] := by
  have hA := hR.1.ra
  have h30 := hA.n30
  have h1 := hA.n1
  rcases k_ix a d.nA (by omega) with h | ⟨j, hj, rfl⟩
  · exact op_roI hR _ (sg_X10_account_0_0 _ _ _ (cv_has0 hA.c h) (sg_X10_account_11_0 _ _ _ _ rfl)) (sg_X11_account_0_0 _ _ _ (mo_isAccount0 hA.m h1 h30 h) (sg_X11_account_5_0 _ _ _ _ rfl))
  · rcases k_ix c 4 (by omega) with h | ⟨c, hc, rfl⟩
    · exact op_roI hR _ (sg_X10_account_0_0 _ _ _ (cv_has1 hA.c hj h30) (sg_X10_account_11_1 _ _ _ _ (by decide) (c_isCurrency0 h) (sg_X10_account_20_0 _ _ _ _ rfl))) (sg_X11_account_0_0 _ _ _ (mo_isAccount1 hA.m hj h30) (sg_X11_account_5_1 _ _ _ _ (by decide) (mo_isCurrency0 h) (sg_X11_account_14_0 _ _ _ _ rfl)))
    · rcases k_ix s 4 (by omega) with h | ⟨s, hs, rfl⟩
      · exact op_roI hR _ (sg_X10_account_0_0 _ _ _ (cv_has1 hA.c hj h30) (sg_X10_account_11_1 _ _ _ _ (by decide) (c_isCurrency1 hc) (sg_X10_account_20_1 _ _ _ _ (by decide) (c_isSort0 h) (sg_X10_account_27_0 _ _ _ _ rfl)))) (sg_X11_account_0_0 _ _ _ (mo_isAccount1 hA.m hj h30) (sg_X11_account_5_1 _ _ _ _ (by decide) (mo_isCurrency1 hc) (sg_X11_account_14_1 _ _ _ _ (by decide) (m_inN_0 (n := 4) (by decide +kernel) (by omega) h) (sg_X11_account_23_0 _ _ _ _ rfl))))
      · by_cases hf : d.nA = 30
        · exact op_roI hR _ (sg_X10_account_0_0 _ _ _ (cv_has1 hA.c hj h30) (sg_X10_account_11_1 _ _ _ _ (by decide) (c_isCurrency1 hc) (sg_X10_account_20_1 _ _ _ _ (by decide) (c_isSort1 hs) (sg_X10_account_27_1 _ _ _ _ (by decide) (sg_X2_add_0_1 _ _ _ (k_nlt (b := 30) hA.c rfl (by omega) (by omega))) (sg_X10_account_46_0 _ _ _ _))))) (sg_X11_account_0_0 _ _ _ (mo_isAccount1 hA.m hj h30) (sg_X11_account_5_1 _ _ _ _ (by decide) (mo_isCurrency1 hc) (sg_X11_account_14_1 _ _ _ _ (by decide) (m_inN_1 (n := 4) rfl hs (by omega)) (sg_X11_account_23_1 _ _ _ _ (by decide) (by rw [hA.m, hf]; rfl)))))
        · have ci : ¬ (I 2 0 < 0 ∨ 30 ≤ (I 2 0).toNatClampNeg) := k_in hA.c (by omega) (by omega)
          have cc : (I 2 0).toNatClampNeg = d.nA := by rw [hA.c, kc (by omega)]
          have e0 : I 40 0 = nI d.nA := hA.m
          have m1 : ((0 : Int32) + I 40 0).toNatClampNeg = d.nA := by rw [e0, show (0 : Int32) + nI d.nA = nI (0 + d.nA) from nI_add 0 d.nA, Nat.zero_add, kc (by omega)]
          have m2 : ((10 : Int32) + I 40 0).toNatClampNeg = 10 + d.nA := by rw [e0, kx 10 (a := 10) rfl (by omega)]
          have m3 : ((40 : Int32) + I 40 0).toNatClampNeg = 40 + d.nA := by rw [e0, kx 40 (a := 40) rfl (by omega)]
          have m4 : ((70 : Int32) + I 40 0).toNatClampNeg = 70 + d.nA := by rw [e0, kx 70 (a := 70) rfl (by omega)]
          have m5 : ((30 : Int32) + I 40 0).toNatClampNeg = 30 + d.nA := by rw [e0, kx 30 (a := 30) rfl (by omega)]
          have hc1 : zEv X mt_X2_add 0 [.ref 2, .int (nI j), .int (nI c), .int (nI s)] [] (zSH im tl, I, L) (some (.int (nI d.nA)), (zSH im tl, va_up (va_up (va_up (va_up I 3 (upd (I 3) d.nA (nI j))) 4 (upd (I 4) d.nA (nI c))) 5 (upd (I 5) d.nA (nI s))) 2 (upd (I 2) 0 (nI (d.nA + 1))), L)) := by
            refine ev_r (sg_X2_add_0_0 _ _ _ (k_lt (b := 30) hA.c rfl (by omega) (by omega)) ci ci ci) ?_
            rw [cc, hA.c, nI_1, nI_pred]
          have hm1 : ∀ J : zI, J 40 = I 40 → zEv X mt_X11_addAccount 0 [.ref 39, .int (nI j), .int (nI c), .int (nI s), .null] [] (zSH im tl, J, L) (some (.int (nI d.nA)), (zSH im tl, va_up J 40 (upd (upd (upd (upd (I 40) (10 + d.nA) (nI j)) (40 + d.nA) (nI c)) (70 + d.nA) (nI s)) 0 (nI (d.nA + 1))), va_up L 41 (vp_updL (vp_updL (L 41) d.nA (-9223372036854775808)) (30 + d.nA) 9223372036854775807))) := by
            intro J hJ
            refine ev_r (sg_X11_addAccount_0_0 _ _ _ ?_ ?_ ?_ ?_ ?_) ?_
            · rw [hJ, e0]; exact k_in (nI_add 10 d.nA) (by omega) (by omega)
            · rw [hJ, e0]; exact k_in (nI_add 40 d.nA) (by omega) (by omega)
            · rw [hJ, e0]; exact k_in (nI_add 70 d.nA) (by omega) (by omega)
            · rw [hJ, e0]; exact k_in (nI_add 0 d.nA) (by omega) (by omega)
            · rw [hJ, e0]; exact k_in (nI_add 30 d.nA) (by omega) (by omega)
            · rw [hJ, m1, m2, m3, m4, m5, pk_un (j := 0) (k := 70 + d.nA) (by omega), pk_un (j := 0) (k := 40 + d.nA) (by omega), pk_un (j := 0) (k := 10 + d.nA) (by omega), e0, nI_1, va_up2, va_up2, va_up2, va_up2]
          refine ⟨nI d.nA, _, _, _, _, (d.nA + 1, d.nJ, d.nP, d.day, d.cl, d.nC, (fun k => if k = d.nA then j else d.p k), d.sz, d.fs, d.dy, d.cnt, d.op), (sg_X10_account_0_0 _ _ _ (cv_has1 hA.c hj h30) (sg_X10_account_11_1 _ _ _ _ (by decide) (c_isCurrency1 hc) (sg_X10_account_20_1 _ _ _ _ (by decide) (c_isSort1 hs) (sg_X10_account_27_1 _ _ _ _ (by decide) hc1 (sg_X10_account_46_0 _ _ _ _))))), (sg_X11_account_0_0 _ _ _ (mo_isAccount1 (nA := d.nA) e0 hj h30) (sg_X11_account_5_1 _ _ _ _ (by decide) (mo_isCurrency1 hc) (sg_X11_account_14_1 _ _ _ _ (by decide) (m_inN_1 (n := 4) rfl hs (by omega)) (sg_X11_account_23_2 _ _ _ _ (by decide) (k_ne (a := d.nA) (b := 30) e0 rfl hf (by omega) (by omega)) (hm1 _ rfl) (sg_X11_account_52_0 _ _ _ _))))), ?_, ?_⟩
          · refine RB.mk (ra_account hA _ _ hj (by omega)) ?_ ?_ ?_ ?_ ?_
            · refine RJ.cg (hR.1.rj.up (Nat.le_succ _) (Nat.le_refl _)) (fun k hk => ?_) (fun k hk => ?_)
              · exact (pk_un (by omega)).trans ((pk_un (by omega)).trans ((pk_un (by omega)).trans (pk_un (by omega))))
              · exact (pk_uLn (by omega)).trans (pk_uLn (by omega))
            · refine RO.cg (hR.1.ro.up (Nat.le_succ _)) (fun k hk => ?_) (fun k hk => ?_)
              · exact (pk_un (by omega)).trans ((pk_un (by omega)).trans ((pk_un (by omega)).trans (pk_un (by omega))))
              · exact (pk_uLn (by omega)).trans (pk_uLn (by omega))
            · refine RD.cg hR.1.rd (fun k hk => ?_) (fun k hk => ?_)
              · exact (pk_un (by omega)).trans ((pk_un (by omega)).trans ((pk_un (by omega)).trans (pk_un (by omega))))
              · exact (pk_uLn (by omega)).trans (pk_uLn (by omega))
            · refine RC.cg hR.1.rc (fun k hk => ?_)
              exact (pk_un (by omega)).trans ((pk_un (by omega)).trans ((pk_un (by omega)).trans (pk_un (by omega))))
            · refine RR.cg hR.1.rr (fun k hk => ?_)
              exact (pk_un (by omega)).trans ((pk_un (by omega)).trans ((pk_un (by omega)).trans (pk_un (by omega))))
          · exact hR.2
end O4
