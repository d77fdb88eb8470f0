section O3
variable {X : zSc} {im : Option Nat} {tl : List zS} {I J : zI} {L K : zL} {d : zD}
theorem op_of (hR : rAll d im tl I L) (a w : Int32) : zOpI X im tl I L mt_X10_of mt_X11_of [.ref 0, .int a, .int w, .null] [.ref 39, .int a, .int w, .null, .null] := by
  have hA := hR.1.ra
  have hJ := hR.1.rj
  have h30 := hA.n30
  have h1 := hA.n1
  have hp : ∀ k, 1 ≤ k → k < d.nA → d.p k < k := fun k h1 h2 => (hA.pp k h1 h2).1
  rcases k_ix a d.nA (by omega) with h | ⟨j, hj, rfl⟩
  · exact op_roI hR _ (sg_X10_of_0_0 _ _ (cv_has0 hA.c h) (sg_X10_of_13_0 _ _ _ rfl)) (sg_X11_of_0_0 _ _ (mo_isAccount0 hA.m h1 h30 h) (sg_X11_of_5_0 _ _ _ rfl))
  · rcases k_ix w 7 (by omega) with h | ⟨q, hq, rfl⟩
    · have n0 : ∀ k, k < 7 → w ≠ nI k := fun k hk e => by subst e; exact k_nout (n := 7) (by omega) hk (k_out (by omega) h)
      exact op_roI hR (-1) (sg_X10_of_0_0 _ _ (cv_has1 hA.c hj h30) (sg_X10_of_13_1 _ _ _ (by decide) (fun e => absurd e (n0 0 (by omega))) (fun e => absurd e (n0 1 (by omega))) (fun e => absurd e (n0 2 (by omega))) (fun e => absurd e (n0 3 (by omega))) (fun e => absurd e (n0 4 (by omega))) (fun e => absurd e (n0 5 (by omega))) (fun e => absurd e (n0 6 (by omega))) (fun _ => sg_X10_of_111_0 _ _))) (sg_X11_of_0_0 _ _ (mo_isAccount1 hA.m hj h30) (sg_X11_of_5_1 _ _ _ (by decide) (m_inN_0 (n := 7) (by decide +kernel) (by omega) h) (sg_X11_of_15_0 _ _ _ rfl)))
    · have ci := k_in (x := nI j) (n := 30) rfl (by omega) (by omega)
      have cc : (nI j).toNatClampNeg = j := kc (by omega)
      have i1 := k_in (x := 10 + nI j) (n := 1280) (nI_add 10 j) (by omega) (by omega)
      have i2 := k_in (x := 40 + nI j) (n := 1280) (nI_add 40 j) (by omega) (by omega)
      have i3 := k_in (x := 70 + nI j) (n := 1280) (nI_add 70 j) (by omega) (by omega)
      have c1 : ((10 : Int32) + nI j).toNatClampNeg = 10 + j := kx 10 (a := 10) rfl (by omega)
      have c2 : ((40 : Int32) + nI j).toNatClampNeg = 40 + j := kx 40 (a := 40) rfl (by omega)
      have c3 : ((70 : Int32) + nI j).toNatClampNeg = 70 + j := kx 70 (a := 70) rfl (by omega)
      have key : ∃ v, zEv X mt_X10_of 13 [.ref 0, .int (nI j), .int (nI q), .ref 2] [.int 1] (zSH im tl, I, L) (some (.int v), (zSH im tl, I, L)) ∧ zEv X mt_X11_of 15 [.ref 39, .int (nI j), .int (nI q), .null, .null] [.int 1] (zSH im tl, I, L) (some (.int v), (zSH im tl, I, L)) := by
        rcases (show q = 0 ∨ q = 1 ∨ q = 2 ∨ q = 3 ∨ q = 4 ∨ q = 5 ∨ q = 6 by omega) with rfl | rfl | rfl | rfl | rfl | rfl | rfl
        · have m0 : zEv X mt_X11_of 60 [.ref 39, .int (nI j), .int (nI 0), .int 0, .null] [] (zSH im tl, I, L) (some (.int (I 3 j)), (zSH im tl, I, L)) := by
            by_cases hj0 : j = 0
            · subst hj0
              exact ev_r (sg_X11_of_60_0 _ _ _ rfl) (by rw [hA.p0])
            · exact ev_r (sg_X11_of_60_1 _ _ _ (nI_ne0 (by omega) (by omega)) i1) (by rw [c1, hA.pm j (by omega) hj, (hA.pp j (by omega) hj).2])
          refine ⟨I 3 j, sg_X10_of_13_1 _ _ _ (by decide) (fun _ => ev_r (sg_X10_of_60_0 _ _ ci) (by rw [cc])) ?_ ?_ ?_ ?_ ?_ ?_ ?_, sg_X11_of_15_1 _ _ _ (by decide) (fun _ => m0) ?_ ?_ ?_ ?_ ?_ ?_⟩ <;> exact fun e => absurd e (by decide)
        · refine ⟨I 4 j, sg_X10_of_13_1 _ _ _ (by decide) ?_ (fun _ => ev_r (sg_X10_of_67_0 _ _ ci) (by rw [cc])) ?_ ?_ ?_ ?_ ?_ ?_, sg_X11_of_15_1 _ _ _ (by decide) ?_ (fun _ => ev_r (sg_X11_of_79_0 _ _ _ i2) (by rw [c2, hA.cu j hj])) ?_ ?_ ?_ ?_ ?_⟩ <;> exact fun e => absurd e (by decide)
        · have m0 : zEv X mt_X11_of 89 [.ref 39, .int (nI j), .int (nI 2), .int 0, .null] [] (zSH im tl, I, L) (some (.int (I 5 j)), (zSH im tl, I, L)) := by
            by_cases hj0 : j = 0
            · subst hj0
              exact ev_r (sg_X11_of_89_0 _ _ _ rfl) (by rw [hA.so0])
            · exact ev_r (sg_X11_of_89_1 _ _ _ (nI_ne0 (by omega) (by omega)) i3) (by rw [c3, hA.so j (by omega) hj])
          refine ⟨I 5 j, sg_X10_of_13_1 _ _ _ (by decide) ?_ ?_ (fun _ => ev_r (sg_X10_of_74_0 _ _ ci) (by rw [cc])) ?_ ?_ ?_ ?_ ?_, sg_X11_of_15_1 _ _ _ (by decide) ?_ ?_ (fun _ => m0) ?_ ?_ ?_ ?_⟩ <;> exact fun e => absurd e (by decide)
        · have loop : ∀ (f k : Nat), k + f = d.nA → 1 ≤ k → zEv X mt_X11_of 111 [.ref 39, .int (nI j), .int (nI 3), .int (nI (ncnt (fun k => decide (1 ≤ k) && decide (d.p k = j)) k)), .int (nI k)] [] (zSH im tl, I, L) (some (.int (nI (ncnt (fun k => decide (1 ≤ k) && decide (d.p k = j)) d.nA))), (zSH im tl, I, L)) := by
            intro f
            induction f with
            | zero =>
              intro k h2 h3
              have : k = d.nA := by omega
              subst this
              exact sg_X11_of_111_0 _ _ _ _ (k_le hA.m rfl (Nat.le_refl _) (by omega))
            | succ f ih =>
              intro k h2 h3
              have h4 := ih (k + 1) (by omega) (by omega)
              rw [ncnt, ← nI_1 k] at h4
              have i4 := k_in (x := 10 + nI k) (n := 1280) (nI_add 10 k) (by omega) (by omega)
              have c4 : I 40 ((10 : Int32) + nI k).toNatClampNeg = nI (d.p k) := by rw [kx 10 (a := 10) rfl (by omega), hA.pm k h3 (by omega)]
              have := hp k h3 (by omega)
              by_cases hk : d.p k = j
              · rw [if_pos (by simp [h3, hk]), ← nI_1 (ncnt _ k)] at h4
                exact sg_X11_of_111_1 _ _ _ _ (k_nle hA.m rfl (by omega) (by omega)) i4 (by rw [c4, hk]) h4
              · rw [if_neg (by simp [hk])] at h4
                exact sg_X11_of_111_2 _ _ _ _ (k_nle hA.m rfl (by omega) (by omega)) i4 (by rw [c4]; exact k_ne rfl rfl hk (by omega) (by omega)) h4
          refine ⟨nI (ncnt (fun k => decide (1 ≤ k) && decide (d.p k = j)) d.nA), sg_X10_of_13_1 _ _ _ (by decide) ?_ ?_ ?_ (fun _ => sg_X10_of_81_0 _ _ (cv_countStraightBelow hA.c h1 h30 hA.pp hj) (sg_X10_of_86_0 _ _ _)) ?_ ?_ ?_ ?_, sg_X11_of_15_1 _ _ _ (by decide) ?_ ?_ ?_ (fun _ => sg_X11_of_108_0 _ _ _ (loop (d.nA - 1) 1 (by omega) (Nat.le_refl _))) ?_ ?_ ?_⟩ <;> exact fun e => absurd e (by decide)
        · have loop : ∀ (f k : Nat), k + f = d.nA → zEv X mt_X11_of 150 [.ref 39, .int (nI j), .int (nI 4), .int (nI (ncnt (fun k => ib d.p 30 k j) k)), .int (nI k)] [] (zSH im tl, I, L) (some (.int (nI (ncnt (fun k => ib d.p 30 k j) d.nA))), (zSH im tl, I, L)) := by
            intro f
            induction f with
            | zero =>
              intro k h2
              have : k = d.nA := by omega
              subst this
              exact sg_X11_of_150_0 _ _ _ _ (k_le hA.m rfl (Nat.le_refl _) (by omega))
            | succ f ih =>
              intro k h2
              have h4 := ih (k + 1) (by omega)
              rw [ncnt, ← nI_1 k] at h4
              refine sg_X11_of_150_1 _ _ _ _ (k_nle hA.m rfl (by omega) (by omega)) (mo_isOf h30 hp hA.pm hA.pm0 (by omega) hj) ?_
              cases hb : ib d.p 30 k j with
              | false =>
                rw [hb, if_neg (by decide)] at h4
                exact sg_X11_of_168_0 _ _ _ _ _ (by decide) h4
              | true =>
                rw [hb, if_pos rfl, ← nI_1 (ncnt _ k)] at h4
                exact sg_X11_of_168_1 _ _ _ _ _ (by decide) h4
          refine ⟨nI (ncnt (fun k => ib d.p 30 k j) d.nA), sg_X10_of_13_1 _ _ _ (by decide) ?_ ?_ ?_ ?_ (fun _ => sg_X10_of_87_0 _ _ (cv_countBranch hA.c h30 hA.pp hj) (sg_X10_of_92_0 _ _ _)) ?_ ?_ ?_, sg_X11_of_15_1 _ _ _ (by decide) ?_ ?_ ?_ ?_ (fun _ => sg_X11_of_147_0 _ _ _ (loop d.nA 0 (by omega))) ?_ ?_⟩ <;> exact fun e => absurd e (by decide)
        · refine ⟨nI (dep d.p 30 j), sg_X10_of_13_1 _ _ _ (by decide) ?_ ?_ ?_ ?_ ?_ (fun _ => sg_X10_of_93_0 _ _ (cv_countAbove h30 hA.pp hj) (sg_X10_of_98_0 _ _ _)) ?_ ?_, sg_X11_of_15_1 _ _ _ (by decide) ?_ ?_ ?_ ?_ ?_ (fun _ => sg_X11_of_182_0 _ _ _ (mo_above h30 hp hA.pm hA.pm0 hj) (sg_X11_of_187_0 _ _ _ _)) ?_⟩ <;> exact fun e => absurd e (by decide)
        · refine ⟨nI (ncnt (cL I d.sz (nI j)) (10 * d.nJ)), sg_X10_of_13_1 _ _ _ (by decide) ?_ ?_ ?_ ?_ ?_ ?_ (fun _ => sg_X10_of_99_0 _ _ (cj_countLines hJ.c hJ.z hJ.j60 _) (sg_X10_of_110_0 _ _ _)) ?_, sg_X11_of_15_1 _ _ _ (by decide) ?_ ?_ ?_ ?_ ?_ ?_ (fun _ => sg_X11_of_188_0 _ _ _ (mo_linesOf hJ _) (ev_r (sg_X11_of_193_0 _ _ _ _) (by rw [cl_all hJ])))⟩ <;> exact fun e => absurd e (by decide)
      obtain ⟨v, e1, e2⟩ := key
      exact op_roI hR v (sg_X10_of_0_0 _ _ (cv_has1 hA.c hj h30) e1) (sg_X11_of_0_0 _ _ (mo_isAccount1 hA.m hj h30) (sg_X11_of_5_1 _ _ _ (by decide) (m_inN_1 (n := 7) rfl hq (by omega)) e2))
theorem op_told (hR : rAll d im tl I L) (w : Int32) : zOpI X im tl I L mt_X10_told mt_X11_told [.ref 0, .int w] [.ref 39, .int w, .null, .null] := by
  have hA := hR.1.ra
  have hJ := hR.1.rj
  have hO := hR.1.ro
  have hD := hR.1.rd
  have hC := hR.1.rc
  obtain ⟨tn, hT⟩ := hR.2.t
  obtain ⟨pn, hP⟩ := hR.2.p
  have h60 := hJ.j60
  rcases k_ix w 9 (by omega) with h | ⟨q, hq, rfl⟩
  · have n0 : ∀ k, k < 9 → w ≠ nI k := fun k hk e => by subst e; exact k_nout (n := 9) (by omega) hk (k_out (by omega) h)
    exact op_roI hR (-1) (sg_X10_told_0_0 _ (fun e => absurd e (n0 0 (by omega))) (fun e => absurd e (n0 1 (by omega))) (fun e => absurd e (n0 2 (by omega))) (fun e => absurd e (n0 3 (by omega))) (fun e => absurd e (n0 4 (by omega))) (fun e => absurd e (n0 5 (by omega))) (fun e => absurd e (n0 6 (by omega))) (fun e => absurd e (n0 7 (by omega))) (fun e => absurd e (n0 8 (by omega))) (fun _ => sg_X10_told_154_0 _)) (sg_X11_told_0_0 _ (fun e => absurd e (n0 0 (by omega))) (fun e => absurd e (n0 1 (by omega))) (fun e => absurd e (n0 2 (by omega))) (fun e => absurd e (n0 3 (by omega))) (fun e => absurd e (n0 4 (by omega))) (fun e => absurd e (n0 5 (by omega))) (fun e => absurd e (n0 6 (by omega))) (fun e => absurd e (n0 7 (by omega))) (fun e => absurd e (n0 8 (by omega))) (fun _ => sg_X11_told_155_0 _ _))
  · rcases (show q = 0 ∨ q = 1 ∨ q = 2 ∨ q = 3 ∨ q = 4 ∨ q = 5 ∨ q = 6 ∨ q = 7 ∨ q = 8 by omega) with rfl | rfl | rfl | rfl | rfl | rfl | rfl | rfl | rfl
    · refine op_roI hR (nI d.nA) (sg_X10_told_0_0 _ (fun _ => ev_r (sg_X10_told_52_0 _) (by rw [hA.c])) ?_ ?_ ?_ ?_ ?_ ?_ ?_ ?_ ?_) (sg_X11_told_0_0 _ (fun _ => ev_r (sg_X11_told_52_0 _ _) (by rw [hA.m])) ?_ ?_ ?_ ?_ ?_ ?_ ?_ ?_ ?_) <;> exact fun e => absurd e (by decide)
    · refine op_roI hR (nI d.nJ) (sg_X10_told_0_0 _ ?_ (fun _ => ev_r (sg_X10_told_63_0 _) (by rw [hJ.c])) ?_ ?_ ?_ ?_ ?_ ?_ ?_ ?_) (sg_X11_told_0_0 _ ?_ (fun _ => ev_r (sg_X11_told_59_0 _ _) (by rw [hJ.m])) ?_ ?_ ?_ ?_ ?_ ?_ ?_ ?_) <;> exact fun e => absurd e (by decide)
    · have key : ∃ v, zEv X mt_X10_told 74 [.ref 0, .int (nI 2)] [] (zSH im tl, I, L) (some (.int v), (zSH im tl, I, L)) ∧ zEv X mt_X11_told 66 [.ref 39, .int (nI 2), .int 0, .null] [] (zSH im tl, I, L) (some (.int v), (zSH im tl, I, L)) := by
        cases hop : d.op with
        | none =>
          obtain ⟨e1, e2⟩ := hO.no hop
          exact ⟨-5, sg_X10_told_74_0 _ e1, sg_X11_told_66_1 _ _ (by rw [e2]; decide)⟩
        | some k =>
          obtain ⟨k10, _, e1, e2, e3⟩ := hO.yes k hop
          exact ⟨nI k, ev_r (sg_X10_told_74_1 _ (by rw [e1]; decide)) (by rw [e2]), ev_r (sg_X11_told_66_0 _ _ (by rw [e3]; exact nI_pos' (by omega))) (by rw [e3])⟩
      obtain ⟨v, e1, e2⟩ := key
      refine op_roI hR v (sg_X10_told_0_0 _ ?_ ?_ (fun _ => e1) ?_ ?_ ?_ ?_ ?_ ?_ ?_) (sg_X11_told_0_0 _ ?_ ?_ (fun _ => e2) ?_ ?_ ?_ ?_ ?_ ?_ ?_) <;> exact fun e => absurd e (by decide)
    · refine op_roI hR (nI d.day) (sg_X10_told_0_0 _ ?_ ?_ ?_ (fun _ => ev_r (sg_X10_told_100_0 _) (by rw [hD.bd])) ?_ ?_ ?_ ?_ ?_ ?_) (sg_X11_told_0_0 _ ?_ ?_ ?_ (fun _ => ev_r (sg_X11_told_87_0 _ _) (by rw [hD.md])) ?_ ?_ ?_ ?_ ?_ ?_) <;> exact fun e => absurd e (by decide)
    · refine op_roI hR (nI d.cl) (sg_X10_told_0_0 _ ?_ ?_ ?_ ?_ (fun _ => ev_r (sg_X10_told_108_0 _) (by rw [hD.bc])) ?_ ?_ ?_ ?_ ?_) (sg_X11_told_0_0 _ ?_ ?_ ?_ ?_ (fun _ => ev_r (sg_X11_told_94_0 _ _) (by rw [hD.mc])) ?_ ?_ ?_ ?_ ?_) <;> exact fun e => absurd e (by decide)
    · refine op_roI hR (nI tn) (sg_X10_told_0_0 _ ?_ ?_ ?_ ?_ ?_ (fun _ => ev_r (sg_X10_told_116_0 _) (by rw [hT.c])) ?_ ?_ ?_ ?_) (sg_X11_told_0_0 _ ?_ ?_ ?_ ?_ ?_ (fun _ => ev_r (sg_X11_told_101_0 _ _) (by rw [hT.m])) ?_ ?_ ?_ ?_) <;> exact fun e => absurd e (by decide)
    · refine op_roI hR (nI pn) (sg_X10_told_0_0 _ ?_ ?_ ?_ ?_ ?_ ?_ (fun _ => ev_r (sg_X10_told_124_0 _) (by rw [hP.c])) ?_ ?_ ?_) (sg_X11_told_0_0 _ ?_ ?_ ?_ ?_ ?_ ?_ (fun _ => ev_r (sg_X11_told_106_0 _ _) (by rw [hP.m])) ?_ ?_ ?_) <;> exact fun e => absurd e (by decide)
    · refine op_roI hR (nI d.nC) (sg_X10_told_0_0 _ ?_ ?_ ?_ ?_ ?_ ?_ ?_ (fun _ => ev_r (sg_X10_told_132_0 _) (by rw [hC.c])) ?_ ?_) (sg_X11_told_0_0 _ ?_ ?_ ?_ ?_ ?_ ?_ ?_ (fun _ => ev_r (sg_X11_told_111_0 _ _) (by rw [hC.m])) ?_ ?_) <;> exact fun e => absurd e (by decide)
    · have loop : ∀ (f k : Nat), k + f = d.nJ → zEv X mt_X11_told 121 [.ref 39, .int (nI 8), .int (nI (ncnt (fun j => !decide (I 12 j = -5)) k)), .int (nI k)] [] (zSH im tl, I, L) (some (.int (nI (ncnt (fun j => !decide (I 12 j = -5)) d.nJ))), (zSH im tl, I, L)) := by
        intro f
        induction f with
        | zero =>
          intro k h2
          have : k = d.nJ := by omega
          subst this
          exact sg_X11_told_121_0 _ _ _ (k_le hJ.m rfl (Nat.le_refl _) (by omega))
        | succ f ih =>
          intro k h2
          have h4 := ih (k + 1) (by omega)
          rw [ncnt, ← nI_1 k] at h4
          have i4 := k_in (x := 280 + nI k) (n := 1280) (nI_add 280 k) (by omega) (by omega)
          have c4 : ((280 : Int32) + nI k).toNatClampNeg = 280 + k := kx 280 (a := 280) rfl (by omega)
          rcases hJ.v k (by omega) with ⟨e1, e2⟩ | ⟨x, hx, e1, e2⟩
          · rw [if_neg (by rw [e1]; decide)] at h4
            exact sg_X11_told_121_1 _ _ _ (k_nle hJ.m rfl (by omega) (by omega)) i4 (by rw [c4, e2]; decide) h4
          · have hn : ¬ nI x = -5 := fun e => absurd (e ▸ (by decide : (-5 : Int32) < 0) : nI x < 0) (nI_pos (by omega))
            rw [if_pos (by rw [e1, decide_eq_false hn]; rfl), ← nI_1 (ncnt _ k)] at h4
            exact sg_X11_told_121_2 _ _ _ (k_nle hJ.m rfl (by omega) (by omega)) i4 (by rw [c4, e2]; exact nI_pos (by omega)) h4
      refine op_roI hR (nI (ncnt (fun j => !decide (I 12 j = -5)) d.nJ)) (sg_X10_told_0_0 _ ?_ ?_ ?_ ?_ ?_ ?_ ?_ ?_ (fun _ => sg_X10_told_143_0 _ (cj_countReversals hJ.c h60) (sg_X10_told_153_0 _ _)) ?_) (sg_X11_told_0_0 _ ?_ ?_ ?_ ?_ ?_ ?_ ?_ ?_ (fun _ => sg_X11_told_119_0 _ _ (loop d.nJ 0 (by omega))) ?_) <;> exact fun e => absurd e (by decide)
end O3
