section O1
variable {X : zSc} {im : Option Nat} {tl : List zS} {I J : zI} {L K : zL} {d : zD}
theorem op_roI {mc mm : zMt} {lc lm : List Value} (hR : rAll d im tl I L) (v : Int32) (hc : zEv X mc 0 lc [] (zSH im tl, I, L) (some (.int v), (zSH im tl, I, L))) (hm : zEv X mm 0 lm [] (zSH im tl, I, L) (some (.int v), (zSH im tl, I, L))) : zOpI X im tl I L mc mm lc lm := ⟨v, I, L, I, L, d, hc, hm, hR⟩
theorem op_roL {mc mm : zMt} {lc lm : List Value} (hR : rAll d im tl I L) (v : Int64) (hc : zEv X mc 0 lc [] (zSH im tl, I, L) (some (.long v), (zSH im tl, I, L))) (hm : zEv X mm 0 lm [] (zSH im tl, I, L) (some (.long v), (zSH im tl, I, L))) : zOpL X im tl I L mc mm lc lm := ⟨v, I, L, I, L, d, hc, hm, hR⟩
theorem c_isCurrency1 {c : Nat} (h : c < 4) : zEv X mt_X10_isCurrency 0 [.int (nI c)] [] (zSH im tl, J, K) (some (.int 1), (zSH im tl, J, K)) :=
  sg_X10_isCurrency_0_2 _ (k_pos rfl (by omega)) (k_nle (a := 4) rfl rfl h (by omega))
theorem c_isCurrency0 {c : Int32} (h : c < 0 ∨ nI 4 ≤ c) : zEv X mt_X10_isCurrency 0 [.int c] [] (zSH im tl, J, K) (some (.int 0), (zSH im tl, J, K)) := by
  by_cases h1 : c < 0
  · exact sg_X10_isCurrency_0_0 _ h1
  · exact sg_X10_isCurrency_0_1 _ h1 (h.resolve_left h1)
theorem c_isSort1 {c : Nat} (h : c < 4) : zEv X mt_X10_isSort 0 [.int (nI c)] [] (zSH im tl, J, K) (some (.int 1), (zSH im tl, J, K)) :=
  sg_X10_isSort_0_2 _ (k_pos rfl (by omega)) (k_nle (a := 4) rfl rfl h (by omega))
theorem c_isSort0 {c : Int32} (h : c < 0 ∨ nI 4 ≤ c) : zEv X mt_X10_isSort 0 [.int c] [] (zSH im tl, J, K) (some (.int 0), (zSH im tl, J, K)) := by
  by_cases h1 : c < 0
  · exact sg_X10_isSort_0_0 _ h1
  · exact sg_X10_isSort_0_1 _ h1 (h.resolve_left h1)
theorem c_isDay1 {c : Nat} (h : c < 1000) : zEv X mt_X10_isDay 0 [.int (nI c)] [] (zSH im tl, J, K) (some (.int 1), (zSH im tl, J, K)) :=
  sg_X10_isDay_0_2 _ (k_pos rfl (by omega)) (k_nle (a := 1000) rfl rfl h (by omega))
theorem c_isDay0 {c : Int32} (h : c < 0 ∨ nI 1000 ≤ c) : zEv X mt_X10_isDay 0 [.int c] [] (zSH im tl, J, K) (some (.int 0), (zSH im tl, J, K)) := by
  by_cases h1 : c < 0
  · exact sg_X10_isDay_0_0 _ h1
  · exact sg_X10_isDay_0_1 _ h1 (h.resolve_left h1)
theorem c_isPeriod1 {c : Nat} (h : c < 10) : zEv X mt_X10_isPeriod 0 [.int (nI c)] [] (zSH im tl, J, K) (some (.int 1), (zSH im tl, J, K)) :=
  sg_X10_isPeriod_0_2 _ (k_pos rfl (by omega)) (k_nle (a := 10) rfl rfl h (by omega))
theorem c_isPeriod0 {c : Int32} (h : c < 0 ∨ nI 10 ≤ c) : zEv X mt_X10_isPeriod 0 [.int c] [] (zSH im tl, J, K) (some (.int 0), (zSH im tl, J, K)) := by
  by_cases h1 : c < 0
  · exact sg_X10_isPeriod_0_0 _ h1
  · exact sg_X10_isPeriod_0_1 _ h1 (h.resolve_left h1)
theorem c_isOneOfTwo1 {c : Nat} (h : c < 2) : zEv X mt_X10_isOneOfTwo 0 [.int (nI c)] [] (zSH im tl, J, K) (some (.int 1), (zSH im tl, J, K)) := by
  by_cases h1 : c = 0
  · subst h1; exact sg_X10_isOneOfTwo_0_0 _ rfl
  · have : c = 1 := by omega
    subst this; exact sg_X10_isOneOfTwo_0_1 _ (by decide) rfl
theorem c_isOneOfTwo0 {c : Int32} (h : c < 0 ∨ nI 2 ≤ c) : zEv X mt_X10_isOneOfTwo 0 [.int c] [] (zSH im tl, J, K) (some (.int 0), (zSH im tl, J, K)) :=
  sg_X10_isOneOfTwo_0_2 _ (fun e => by subst e; revert h; decide) (fun e => by subst e; revert h; decide)
theorem m_in2_1 {c : Nat} (h : c < 2) : zEv X mt_X11_in 0 [.int (nI c), .int 0, .int 1] [] (zSH im tl, J, K) (some (.int 1), (zSH im tl, J, K)) := mo_in1 (k_pos rfl (by omega)) (k_nlt (a := 1) rfl rfl (by omega) (by omega))
theorem m_in2_0 {c : Int32} (h : c < 0 ∨ nI 2 ≤ c) : zEv X mt_X11_in 0 [.int c, .int 0, .int 1] [] (zSH im tl, J, K) (some (.int 0), (zSH im tl, J, K)) := mo_in0 (k_lt2 (n := 2) (by omega) h)
theorem m_inN_1 {b : Int32} {n c : Nat} (hb : b = nI (n - 1)) (h : c < n) (hn : n < 2 ^ 31) : zEv X mt_X11_in 0 [.int (nI c), .int 0, .int b] [] (zSH im tl, J, K) (some (.int 1), (zSH im tl, J, K)) := mo_in1 (k_pos rfl (by omega)) (k_nlt hb rfl (by omega) (by omega))
theorem m_inN_0 {b : Int32} {n : Nat} {c : Int32} (hb : b = nI n - 1) (hn : n < 2 ^ 31) (h : c < 0 ∨ nI n ≤ c) : zEv X mt_X11_in 0 [.int c, .int 0, .int b] [] (zSH im tl, J, K) (some (.int 0), (zSH im tl, J, K)) := mo_in0 (by rw [hb]; exact k_lt2 hn h)
theorem c_firstDay {t : Nat} : zEv X mt_X10_firstDay 0 [.int (nI t)] [] (zSH im tl, J, K) (some (.int (nI (100 * t))), (zSH im tl, J, K)) :=
  ev_r (sg_X10_firstDay_0_0 _) (by rw [show (100 : Int32) = nI 100 from rfl, pk_mul, Nat.mul_comm])
theorem c_lastDay {t : Nat} : zEv X mt_X10_lastDay 0 [.int (nI t)] [] (zSH im tl, J, K) (some (.int (nI (100 * t + 99))), (zSH im tl, J, K)) := by
  refine ev_r (sg_X10_lastDay_0_0 _ c_firstDay (sg_X10_lastDay_4_0 _ _)) ?_
  rw [show (100 : Int32) = nI 100 from rfl, nI_add, show 100 * t + 100 = 100 * t + 99 + 1 by omega, nI_pred]
theorem c_day999 (hJ : rJ d I J K) (hd : d.day ≤ 999) (a : Int32) : cSum I d.sz d.nJ a 0 (nI d.day) = cSum I d.sz d.nJ a 0 999 := by
  refine lsum_congr (fun j hj => ?_)
  obtain ⟨h1, h2⟩ := hJ.d j hj
  rw [if_neg (c := nI d.day < I 10 j) (by rw [h1]; exact nI_nlt h2 (by omega)), if_neg (c := 999 < I 10 j) (by rw [h1]; exact k_nlt (a := 999) rfl rfl (by omega) (by omega))]
theorem c_sumByNow (hJ : rJ d I J K) (hd : d.day ≤ 999) (hD : I 1 6 = nI d.day) (a : Int32) : zEv X mt_X0_sumByNow 0 [.ref 1, .int a] [] (zSH im tl, I, L) (some (.long (cSum I d.sz d.nJ a 0 999)), (zSH im tl, I, L)) := by
  refine sg_X0_sumByNow_0_0 _ (cj_sum hJ.c hJ.z hJ.j60 _ _ _) ?_
  rw [hD, c_day999 hJ hd]
  exact sg_X0_sumByNow_13_0 _ _
/-! balance, branch, journal, part, cause, seal, audit -/
theorem op_balance (hR : rAll d im tl I L) (a b : Int32) : zOpL X im tl I L mt_X10_balance mt_X11_balance [.ref 0, .int a, .int b] [.ref 39, .int a, .int b] := by
  have hA := hR.1.ra
  have hJ := hR.1.rj
  have hD := hR.1.rd
  rcases k_ix a d.nA (by have := hA.n30; omega) with h | ⟨j, hj, rfl⟩
  · exact op_roL hR _ (sg_X10_balance_0_0 _ _ (cv_has0 hA.c h) (sg_X10_balance_11_0 _ _ _ rfl)) (sg_X11_balance_0_0 _ _ (mo_isAccount0 hA.m hA.n1 hA.n30 h) (sg_X11_balance_5_0 _ _ _ rfl))
  · rcases k_ix b 1000 (by omega) with h | ⟨t, ht, rfl⟩
    · exact op_roL hR _ (sg_X10_balance_0_0 _ _ (cv_has1 hA.c hj hA.n30) (sg_X10_balance_11_1 _ _ _ (by decide) (c_isDay0 h) (sg_X10_balance_18_0 _ _ _ rfl))) (sg_X11_balance_0_0 _ _ (mo_isAccount1 hA.m hj hA.n30) (sg_X11_balance_5_1 _ _ _ (by decide) (mo_isDay0 h) (sg_X11_balance_12_0 _ _ _ rfl)))
    · exact op_roL hR _ (sg_X10_balance_0_0 _ _ (cv_has1 hA.c hj hA.n30) (sg_X10_balance_11_1 _ _ _ (by decide) (c_isDay1 ht) (sg_X10_balance_18_1 _ _ _ (by decide) (cj_sum hJ.c hJ.z hJ.j60 _ _ _) (sg_X10_balance_38_0 _ _ _)))) (sg_X11_balance_0_0 _ _ (mo_isAccount1 hA.m hj hA.n30) (sg_X11_balance_5_1 _ _ _ (by decide) (mo_isDay1 ht) (sg_X11_balance_12_1 _ _ _ (by decide) (mo_balanceBy hJ hD.d _ _) (sg_X11_balance_21_0 _ _ _))))
theorem op_branch (hR : rAll d im tl I L) (a c b : Int32) : zOpL X im tl I L mt_X10_branch mt_X11_branch [.ref 0, .int a, .int c, .int b] [.ref 39, .int a, .int c, .int b] := by
  have hA := hR.1.ra
  have hJ := hR.1.rj
  have hD := hR.1.rd
  rcases k_ix a d.nA (by have := hA.n30; omega) with h | ⟨j, hj, rfl⟩
  · exact op_roL hR _ (sg_X10_branch_0_0 _ _ _ (cv_has0 hA.c h) (sg_X10_branch_11_0 _ _ _ _ rfl)) (sg_X11_branch_0_0 _ _ _ (mo_isAccount0 hA.m hA.n1 hA.n30 h) (sg_X11_branch_5_0 _ _ _ _ rfl))
  · rcases k_ix c 4 (by omega) with h | ⟨c, hc, rfl⟩
    · exact op_roL hR _ (sg_X10_branch_0_0 _ _ _ (cv_has1 hA.c hj hA.n30) (sg_X10_branch_11_1 _ _ _ _ (by decide) (c_isCurrency0 h) (sg_X10_branch_18_0 _ _ _ _ rfl))) (sg_X11_branch_0_0 _ _ _ (mo_isAccount1 hA.m hj hA.n30) (sg_X11_branch_5_1 _ _ _ _ (by decide) (mo_isCurrency0 h) (sg_X11_branch_12_0 _ _ _ _ rfl)))
    · rcases k_ix b 1000 (by omega) with h | ⟨t, ht, rfl⟩
      · exact op_roL hR _ (sg_X10_branch_0_0 _ _ _ (cv_has1 hA.c hj hA.n30) (sg_X10_branch_11_1 _ _ _ _ (by decide) (c_isCurrency1 hc) (sg_X10_branch_18_1 _ _ _ _ (by decide) (c_isDay0 h) (sg_X10_branch_25_0 _ _ _ _ rfl)))) (sg_X11_branch_0_0 _ _ _ (mo_isAccount1 hA.m hj hA.n30) (sg_X11_branch_5_1 _ _ _ _ (by decide) (mo_isCurrency1 hc) (sg_X11_branch_12_1 _ _ _ _ (by decide) (mo_isDay0 h) (sg_X11_branch_19_0 _ _ _ _ rfl))))
      · exact op_roL hR _ (sg_X10_branch_0_0 _ _ _ (cv_has1 hA.c hj hA.n30) (sg_X10_branch_11_1 _ _ _ _ (by decide) (c_isCurrency1 hc) (sg_X10_branch_18_1 _ _ _ _ (by decide) (c_isDay1 ht) (sg_X10_branch_25_1 _ _ _ _ (by decide) (cb_sumOfBranch hA hJ hj _ _ _) (sg_X10_branch_43_0 _ _ _ _))))) (sg_X11_branch_0_0 _ _ _ (mo_isAccount1 hA.m hj hA.n30) (sg_X11_branch_5_1 _ _ _ _ (by decide) (mo_isCurrency1 hc) (sg_X11_branch_12_1 _ _ _ _ (by decide) (mo_isDay1 ht) (sg_X11_branch_19_1 _ _ _ _ (by decide) (mo_branchBy hA hJ hD.d hj _ _) (sg_X11_branch_29_0 _ _ _ _)))))
theorem k_out {w : Int32} {n : Nat} (hn : n < 2 ^ 31) (h : w < 0 ∨ nI n ≤ w) : w.toInt < 0 ∨ (n : Int) - 1 < w.toInt := by
  rcases h with h | h
  · rw [Int32.lt_iff_toInt_lt] at h; exact Or.inl h
  · rw [Int32.le_iff_toInt_le, nI_toInt hn] at h; exact Or.inr (by omega)
theorem k_nout {k n : Nat} (hn : n < 2 ^ 31) (hk : k < n) (h : (nI k).toInt < 0 ∨ (n : Int) - 1 < (nI k).toInt) : False := by
  rw [nI_toInt (by omega)] at h; omega
theorem op_journal (hR : rAll d im tl I L) (a w : Int32) : zOpI X im tl I L mt_X10_journal mt_X11_journal [.ref 0, .int a, .int w, .null] [.ref 39, .int a, .int w] := by
  have hJ := hR.1.rj
  have h60 := hJ.j60
  rcases k_ix a d.nJ (by omega) with h | ⟨j, hj, rfl⟩
  · exact op_roI hR _ (sg_X10_journal_0_0 _ _ (cj_has0 hJ.c h) (sg_X10_journal_13_0 _ _ _ rfl)) (sg_X11_journal_0_0 _ _ (mo_isJournal0 hJ.m hJ.j60 h) (sg_X11_journal_5_0 _ _ _ rfl))
  · have ci := k_in (x := nI j) (n := 60) rfl (by omega) (by omega)
    have cc : (nI j).toNatClampNeg = j := kc (by omega)
    rcases k_ix w 4 (by omega) with h | ⟨q, hq, rfl⟩
    · have n0 : ∀ k, k < 4 → w ≠ nI k := fun k hk e => by subst e; exact k_nout (n := 4) (by omega) hk (k_out (by omega) h)
      exact op_roI hR (-1) (sg_X10_journal_0_0 _ _ (cj_has1 hJ.c hj h60) (sg_X10_journal_13_1 _ _ _ (by decide) (fun e => absurd e (n0 0 (by omega))) (fun e => absurd e (n0 1 (by omega))) (fun e => absurd e (n0 2 (by omega))) (fun e => absurd e (n0 3 (by omega))) (fun _ => sg_X10_journal_76_0 _ _))) (sg_X11_journal_0_0 _ _ (mo_isJournal1 hJ.m hj h60) (sg_X11_journal_5_1 _ _ _ (by decide) (fun e => absurd e (n0 0 (by omega))) (fun e => absurd e (n0 1 (by omega))) (fun e => absurd e (n0 2 (by omega))) (fun e => absurd e (n0 3 (by omega))) (fun _ => sg_X11_journal_119_0 _ _)))
    · have i1 := k_in (x := 100 + nI j) (n := 1280) (nI_add 100 j) (by omega) (by omega)
      have i2 := k_in (x := 220 + nI j) (n := 1280) (nI_add 220 j) (by omega) (by omega)
      have i3 := k_in (x := 280 + nI j) (n := 1280) (nI_add 280 j) (by omega) (by omega)
      have i4 := k_in (x := 340 + nI j) (n := 1280) (nI_add 340 j) (by omega) (by omega)
      have c1 : I 40 ((100 : Int32) + nI j).toNatClampNeg = I 10 j := by rw [kx 100 (a := 100) rfl (by omega), hJ.dm j hj]
      have c2 : I 40 ((220 : Int32) + nI j).toNatClampNeg = I 11 j := by rw [kx 220 (a := 220) rfl (by omega), hJ.zm j hj, (hJ.z j hj).1]
      have c3 : ((280 : Int32) + nI j).toNatClampNeg = 280 + j := kx 280 (a := 280) rfl (by omega)
      have c4 : ((340 : Int32) + nI j).toNatClampNeg = 340 + j := kx 340 (a := 340) rfl (by omega)
      have nd : ¬ ((nI q).toInt < 0 ∨ 3 < (nI q).toInt) := fun e => k_nout (n := 4) (by omega) hq e
      have m2 : zEv X mt_X11_journal 61 [.ref 39, .int (nI j), .int (nI q)] [] (zSH im tl, I, L) (some (.int (I 12 j)), (zSH im tl, I, L)) := by
        rcases hJ.v j hj with ⟨e1, e2⟩ | ⟨k, hk, e1, e2⟩
        · refine ev_r (sg_X11_journal_61_1 _ _ i3 (by rw [c3, e2]; decide)) ?_
          rw [e1]
        · refine ev_r (sg_X11_journal_61_0 _ _ i3 (by rw [c3, e2]; exact nI_pos' (by omega)) i3) ?_
          rw [c3, e1, e2]
      have m3 : zEv X mt_X11_journal 90 [.ref 39, .int (nI j), .int (nI q)] [] (zSH im tl, I, L) (some (.int (I 13 j)), (zSH im tl, I, L)) := by
        rcases hJ.w j hj with ⟨e1, e2⟩ | ⟨k, hk, e1, e2⟩
        · refine ev_r (sg_X11_journal_90_1 _ _ i4 (by rw [c4, e2]; decide)) ?_
          rw [e1]
        · refine ev_r (sg_X11_journal_90_0 _ _ i4 (by rw [c4, e2]; exact nI_pos' (by omega)) i4) ?_
          rw [c4, e1, e2]
      have v0 : nI 0 = nI q ∨ nI 1 = nI q ∨ nI 2 = nI q ∨ nI 3 = nI q := by
        rcases (show q = 0 ∨ q = 1 ∨ q = 2 ∨ q = 3 by omega) with rfl | rfl | rfl | rfl <;> simp
      have key : ∃ v, zEv X mt_X10_journal 13 [.ref 0, .int (nI j), .int (nI q), .ref 9] [.int 1] (zSH im tl, I, L) (some (.int v), (zSH im tl, I, L)) ∧ zEv X mt_X11_journal 5 [.ref 39, .int (nI j), .int (nI q)] [.int 1] (zSH im tl, I, L) (some (.int v), (zSH im tl, I, L)) := by
        have f0 : ∀ k l : Nat, k < 4 → l < 4 → k ≠ l → nI k ≠ nI l := fun k l h1 h2 h3 => k_ne rfl rfl h3 (by omega) (by omega)
        rcases (show q = 0 ∨ q = 1 ∨ q = 2 ∨ q = 3 by omega) with rfl | rfl | rfl | rfl
        · refine ⟨I 10 j, sg_X10_journal_13_1 _ _ _ (by decide) (fun _ => ev_r (sg_X10_journal_48_0 _ _ ci) (by rw [cc])) ?_ ?_ ?_ (fun e => absurd e nd), sg_X11_journal_5_1 _ _ _ (by decide) (fun _ => ev_r (sg_X11_journal_40_0 _ _ i1) (by rw [c1])) ?_ ?_ ?_ (fun e => absurd e nd)⟩ <;> exact fun e => absurd e (by decide)
        · refine ⟨I 11 j, sg_X10_journal_13_1 _ _ _ (by decide) ?_ (fun _ => ev_r (sg_X10_journal_55_0 _ _ ci) (by rw [cc])) ?_ ?_ (fun e => absurd e nd), sg_X11_journal_5_1 _ _ _ (by decide) ?_ (fun _ => ev_r (sg_X11_journal_50_0 _ _ i2) (by rw [c2])) ?_ ?_ (fun e => absurd e nd)⟩ <;> exact fun e => absurd e (by decide)
        · refine ⟨I 12 j, sg_X10_journal_13_1 _ _ _ (by decide) ?_ ?_ (fun _ => ev_r (sg_X10_journal_62_0 _ _ ci) (by rw [cc])) ?_ (fun e => absurd e nd), sg_X11_journal_5_1 _ _ _ (by decide) ?_ ?_ (fun _ => m2) ?_ (fun e => absurd e nd)⟩ <;> exact fun e => absurd e (by decide)
        · refine ⟨I 13 j, sg_X10_journal_13_1 _ _ _ (by decide) ?_ ?_ ?_ (fun _ => ev_r (sg_X10_journal_69_0 _ _ ci) (by rw [cc])) (fun e => absurd e nd), sg_X11_journal_5_1 _ _ _ (by decide) ?_ ?_ ?_ (fun _ => m3) (fun e => absurd e nd)⟩ <;> exact fun e => absurd e (by decide)
      obtain ⟨v, k1, k2⟩ := key
      exact op_roI hR v (sg_X10_journal_0_0 _ _ (cj_has1 hJ.c hj h60) k1) (sg_X11_journal_0_0 _ _ (mo_isJournal1 hJ.m hj h60) k2)
end O1
