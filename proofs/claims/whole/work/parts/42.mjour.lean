section MJ
variable {X : zSc} {im : Option Nat} {tl : List zS} {I J : zI} {L K : zL} {d : zD}
theorem rj_f10 (h : rJ d I J K) : ∀ j, j ≤ d.nJ → d.fs j ≤ 10 * j := by
  intro j
  induction j with
  | zero => intro _; rw [h.f0]; omega
  | succ j ih =>
    intro hj
    have := ih (by omega)
    have h2 := (h.z j (by omega)).2
    rw [h.fS j (by omega)]
    omega
theorem rj_mono (h : rJ d I J K) : ∀ k j, j + k ≤ d.nJ → d.fs j ≤ d.fs (j + k) := by
  intro k
  induction k with
  | zero => intro j _; exact Nat.le_refl _
  | succ k ih =>
    intro j hj
    have h1 := ih j (by omega)
    have h2 := h.fS (j + k) (by omega)
    rw [show j + (k + 1) = j + k + 1 by omega]
    omega
theorem rj_fz (h : rJ d I J K) {j : Nat} (hj : j < d.nJ) : d.fs j + d.sz j ≤ d.nP := by
  have h1 := rj_mono h (d.nJ - (j + 1)) (j + 1) (by omega)
  rw [show j + 1 + (d.nJ - (j + 1)) = d.nJ by omega, h.fE, h.fS j hj] at h1
  exact h1
theorem rj_p (h : rJ d I J K) : d.nP ≤ 10 * d.nJ := by
  have := rj_f10 h d.nJ (Nat.le_refl _)
  rw [h.fE] at this
  exact this
theorem rj_day (h : rJ d I J K) (hd : d.day ≤ 999) {j : Nat} (hj : j < d.nJ) : ¬ I 10 j < 0 := by
  obtain ⟨h1, h2⟩ := h.d j hj
  rw [h1]; exact nI_pos (by omega)
theorem mo_balanceBy (h : rJ d I J K) (hd : d.day ≤ 999) (a day : Int32) : zEv X mt_X11_balanceBy 0 [.ref 39, .int a, .int day, .null, .null, .null, .null] [] (zSH im tl, J, K) (some (.long (cSum I d.sz d.nJ a 0 day)), (zSH im tl, J, K)) := by
  have h60 := h.j60
  have hP := rj_p h
  refine sg_X11_balanceBy_0_0 _ _ ?_
  have loop : ∀ (f k : Nat) (w : Value), k + f = d.nJ → (w = .null ∨ ∃ x, w = .int x) → zEv X mt_X11_balanceBy 5 [.ref 39, .int a, .int day, .long (lsum (fun j => if I 10 j < 0 then 0 else if day < I 10 j then 0 else cS I d.sz a j) k), .null, .int (nI k), w] [] (zSH im tl, J, K) (some (.long (cSum I d.sz d.nJ a 0 day)), (zSH im tl, J, K)) := by
    intro f
    induction f with
    | zero =>
      intro k w hk hw
      have hk2 : k = d.nJ := by omega
      subst hk2
      have hle : J 40 1 ≤ nI d.nJ := by rw [h.m]; exact nI_le (Nat.le_refl _) (by omega)
      rcases hw with rfl | ⟨x, rfl⟩
      · exact sg_X11_balanceBy_5_0 _ _ _ _ hle
      · exact sg_X11_balanceBy_5_3 _ _ _ _ _ hle
    | succ f ih =>
      intro k w hk hw
      have hk1 : k < d.nJ := by omega
      have hnle : ¬ J 40 1 ≤ nI k := k_nle h.m rfl hk1 (by omega)
      have i1 := k_in (x := 100 + _) (n := 1280) (nI_add 100 k) (by omega) (by omega)
      have i2 := k_in (x := 160 + _) (n := 1280) (nI_add 160 k) (by omega) (by omega)
      have i3 := k_in (x := 220 + _) (n := 1280) (nI_add 220 k) (by omega) (by omega)
      have c1 : ((100 : Int32) + nI k).toNatClampNeg = 100 + k := kx 100 (a := 100) rfl (by omega)
      have c2 : ((160 : Int32) + nI k).toNatClampNeg = 160 + k := kx 160 (a := 160) rfl (by omega)
      have c3 : ((220 : Int32) + nI k).toNatClampNeg = 220 + k := kx 220 (a := 220) rfl (by omega)
      have e1 : nI k + 1 = nI (k + 1) := nI_1 k
      have hfz := rj_fz h hk1
      have hs10 := (h.z k hk1).2
      by_cases hlt : day < I 10 k
      · have hn : ¬ J 40 ((100 : Int32) + nI k).toNatClampNeg ≤ day := by rw [c1, h.dm k hk1]; exact Int32.not_le.mpr hlt
        have h2 := ih (k + 1) w (by omega) hw
        rw [lsum, if_neg (rj_day h hd hk1), if_pos hlt, Int64.add_zero, ← e1] at h2
        rcases hw with rfl | ⟨x, rfl⟩
        · exact sg_X11_balanceBy_5_2 _ _ _ _ hnle i1 hn h2
        · exact sg_X11_balanceBy_5_5 _ _ _ _ _ hnle i1 hn h2
      · have hn : J 40 ((100 : Int32) + nI k).toNatClampNeg ≤ day := by rw [c1, h.dm k hk1]; exact Int32.not_lt.mp hlt
        have inner : ∀ (g i : Nat), i + g = d.sz k → zEv X mt_X11_balanceBy 46 [.ref 39, .int a, .int day, .long (lsum (fun j => if I 10 j < 0 then 0 else if day < I 10 j then 0 else cS I d.sz a j) k + lsum (fun i => if I 14 (10 * k + i) = a then (I 15 (10 * k + i)).toInt64 else 0) i), .null, .int (nI k), .int (nI (d.fs k + i))] [] (zSH im tl, J, K) (some (.long (cSum I d.sz d.nJ a 0 day)), (zSH im tl, J, K)) := by
          intro g
          induction g with
          | zero =>
            intro i hi
            have : i = d.sz k := by omega
            subst this
            refine sg_X11_balanceBy_46_0 _ _ _ _ _ i2 i3 (by rw [c2, c3, h.fm k hk1, h.zm k hk1, nI_add]; exact nI_le (Nat.le_refl _) (by omega)) ?_
            have h2 := ih (k + 1) (.int (nI (d.fs k + d.sz k))) (by omega) (Or.inr ⟨_, rfl⟩)
            rw [lsum, if_neg (rj_day h hd hk1), if_neg hlt, ← e1] at h2
            exact h2
          | succ g ihg =>
            intro i hi
            have hni : ¬ J 40 ((160 : Int32) + nI k).toNatClampNeg + J 40 ((220 : Int32) + nI k).toNatClampNeg ≤ nI (d.fs k + i) := by rw [c2, c3, h.fm k hk1, h.zm k hk1, nI_add]; exact nI_ge (by omega) (by omega)
            have i4 := k_in (x := 400 + _) (n := 1280) (nI_add 400 (d.fs k + i)) (by omega) (by omega)
            have i5 := k_in (x := 60 + _) (n := 1000) (nI_add 60 (d.fs k + i)) (by omega) (by omega)
            have c4 : ((400 : Int32) + nI (d.fs k + i)).toNatClampNeg = 400 + (d.fs k + i) := kx 400 (a := 400) rfl (by omega)
            have c5 : ((60 : Int32) + nI (d.fs k + i)).toNatClampNeg = 60 + (d.fs k + i) := kx 60 (a := 60) rfl (by omega)
            have e2 : nI (d.fs k + i) + 1 = nI (d.fs k + (i + 1)) := nI_1 _
            have hA := (h.a k hk1 i (by omega)).2
            have hX := (h.x k hk1 i (by omega)).2
            have h2 := ihg (i + 1) (by omega)
            rw [lsum, ← e2] at h2
            by_cases ha : I 14 (10 * k + i) = a
            · rw [if_pos ha] at h2
              refine sg_X11_balanceBy_46_1 _ _ _ _ _ i2 i3 hni i4 (by rw [c4, hA]; exact ha) i5 ?_
              rw [c5, hX, Int64.add_assoc]
              exact h2
            · rw [if_neg ha, Int64.add_zero] at h2
              exact sg_X11_balanceBy_46_2 _ _ _ _ _ i2 i3 hni i4 (by rw [c4, hA]; exact ha) h2
        have h3 := inner (d.sz k) 0 (by omega)
        rw [lsum, Int64.add_zero, Nat.add_zero] at h3
        have c6 : J 40 ((160 : Int32) + nI k).toNatClampNeg = nI (d.fs k) := by rw [c2, h.fm k hk1]
        rcases hw with rfl | ⟨x, rfl⟩
        · refine sg_X11_balanceBy_5_1 _ _ _ _ hnle i1 hn i2 ?_
          rw [c6]; exact h3
        · refine sg_X11_balanceBy_5_4 _ _ _ _ _ hnle i1 hn i2 ?_
          rw [c6]; exact h3
  exact loop d.nJ 0 .null (by omega) (Or.inl rfl)
theorem mo_linesOf (h : rJ d I J K) (a : Int32) : zEv X mt_X11_linesOf 0 [.ref 39, .int a, .null, .null] [] (zSH im tl, J, K) (some (.int (nI (ncnt (fun p => decide (J 40 (400 + p) = a)) d.nP))), (zSH im tl, J, K)) := by
  have h60 := h.j60
  have hP := rj_p h
  refine sg_X11_linesOf_0_0 _ ?_
  have loop : ∀ (f k : Nat), k + f = d.nP → zEv X mt_X11_linesOf 4 [.ref 39, .int a, .int (nI (ncnt (fun p => decide (J 40 (400 + p) = a)) k)), .int (nI k)] [] (zSH im tl, J, K) (some (.int (nI (ncnt (fun p => decide (J 40 (400 + p) = a)) d.nP))), (zSH im tl, J, K)) := by
    intro f
    induction f with
    | zero =>
      intro k hk
      have : k = d.nP := by omega
      subst this
      refine sg_X11_linesOf_4_0 _ _ _ sg_X11_postings_0_0 (sg_X11_linesOf_9_0 _ _ _ _ _ ?_)
      rw [h.mp]; exact nI_le (Nat.le_refl _) (by omega)
    | succ f ih =>
      intro k hk
      have e1 : nI k + 1 = nI (k + 1) := nI_1 k
      have h2 := ih (k + 1) (by omega)
      rw [ncnt] at h2
      have i4 := k_in (x := 400 + _) (n := 1280) (nI_add 400 k) (by omega) (by omega)
      have c4 : ((400 : Int32) + nI k).toNatClampNeg = 400 + k := kx 400 (a := 400) rfl (by omega)
      refine sg_X11_linesOf_4_0 _ _ _ sg_X11_postings_0_0 ?_
      by_cases ha : J 40 (400 + k) = a
      · rw [if_pos (decide_eq_true ha)] at h2
        refine sg_X11_linesOf_9_1 _ _ _ _ _ (k_nle h.mp rfl (by omega) (by omega)) i4 (by rw [c4]; exact ha) ?_
        rw [nI_1, e1]; exact h2
      · rw [if_neg (by rw [decide_eq_false ha]; decide)] at h2
        refine sg_X11_linesOf_9_2 _ _ _ _ _ (k_nle h.mp rfl (by omega) (by omega)) i4 (by rw [c4]; exact ha) ?_
        rw [e1]; exact h2
  exact loop d.nP 0 (by omega)
theorem mo_sealOf (h : rJ d I J K) (hd : d.day ≤ 999) (t : Nat) (ht : t < 10) : zEv X mt_X11_sealOf 0 [.ref 39, .int (nI t), .null, .null, .null, .null] [] (zSH im tl, J, K) (some (.long (cSo I d.sz d.nJ (nI (100 * t)) (nI (100 * t + 99)))), (zSH im tl, J, K)) := by
  have h60 := h.j60
  have hP := rj_p h
  refine sg_X11_sealOf_0_0 _ ?_
  have loop : ∀ (f k : Nat) (w : Value), k + f = d.nJ → (w = .null ∨ ∃ x, w = .int x) → zEv X mt_X11_sealOf 7 [.ref 39, .int (nI t), .long (lfold (fun j z => if I 10 j < nI (100 * t) then z else if nI (100 * t + 99) < I 10 j then z else cSw I d.sz j z) k 17), .null, .int (nI k), w] [] (zSH im tl, J, K) (some (.long (cSo I d.sz d.nJ (nI (100 * t)) (nI (100 * t + 99)))), (zSH im tl, J, K)) := by
    intro f
    induction f with
    | zero =>
      intro k w hk hw
      have hk2 : k = d.nJ := by omega
      subst hk2
      have hle : J 40 1 ≤ nI d.nJ := by rw [h.m]; exact nI_le (Nat.le_refl _) (by omega)
      rcases hw with rfl | ⟨x, rfl⟩
      · exact sg_X11_sealOf_7_0 _ _ _ hle
      · exact sg_X11_sealOf_7_3 _ _ _ _ hle
    | succ f ih =>
      intro k w hk hw
      have hk1 : k < d.nJ := by omega
      have hnle : ¬ J 40 1 ≤ nI k := k_nle h.m rfl hk1 (by omega)
      have i1 := k_in (x := 100 + _) (n := 1280) (nI_add 100 k) (by omega) (by omega)
      have i2 := k_in (x := 160 + _) (n := 1280) (nI_add 160 k) (by omega) (by omega)
      have i3 := k_in (x := 220 + _) (n := 1280) (nI_add 220 k) (by omega) (by omega)
      have c1 : ((100 : Int32) + nI k).toNatClampNeg = 100 + k := kx 100 (a := 100) rfl (by omega)
      have c2 : ((160 : Int32) + nI k).toNatClampNeg = 160 + k := kx 160 (a := 160) rfl (by omega)
      have c3 : ((220 : Int32) + nI k).toNatClampNeg = 220 + k := kx 220 (a := 220) rfl (by omega)
      have e1 : nI k + 1 = nI (k + 1) := nI_1 k
      have hfz := rj_fz h hk1
      have hs10 := (h.z k hk1).2
      obtain ⟨hd1, hd2⟩ := h.d k hk1
      have hdv : J 40 ((100 : Int32) + nI k).toNatClampNeg / 100 = nI (d.dy k / 100) := by
        rw [c1, h.dm k hk1, hd1]; exact pk_div (a := d.dy k) (d := 100) (by omega) (by omega) (by omega)
      by_cases hq : d.dy k / 100 = t
      · have n1 : ¬ I 10 k < nI (100 * t) := by rw [hd1]; exact nI_nlt (by omega) (by omega)
        have n2 : ¬ nI (100 * t + 99) < I 10 k := by rw [hd1]; exact nI_nlt (by omega) (by omega)
        have hn : J 40 ((100 : Int32) + nI k).toNatClampNeg / 100 = nI t := by rw [hdv, hq]
        have inner : ∀ (g i : Nat), i + g = d.sz k → zEv X mt_X11_sealOf 51 [.ref 39, .int (nI t), .long (lfold (fun i z => 31 * (31 * z + (I 14 (10 * k + i)).toInt64) + (I 15 (10 * k + i)).toInt64) i (lfold (fun j z => if I 10 j < nI (100 * t) then z else if nI (100 * t + 99) < I 10 j then z else cSw I d.sz j z) k 17)), .null, .int (nI k), .int (nI (d.fs k + i))] [] (zSH im tl, J, K) (some (.long (cSo I d.sz d.nJ (nI (100 * t)) (nI (100 * t + 99)))), (zSH im tl, J, K)) := by
          intro g
          induction g with
          | zero =>
            intro i hi
            have : i = d.sz k := by omega
            subst this
            refine sg_X11_sealOf_51_0 _ _ _ _ i2 i3 (by rw [c2, c3, h.fm k hk1, h.zm k hk1, nI_add]; exact nI_le (Nat.le_refl _) (by omega)) ?_
            have h2 := ih (k + 1) (.int (nI (d.fs k + d.sz k))) (by omega) (Or.inr ⟨_, rfl⟩)
            rw [lfold, if_neg n1, if_neg n2, ← e1] at h2
            exact h2
          | succ g ihg =>
            intro i hi
            have hni : ¬ J 40 ((160 : Int32) + nI k).toNatClampNeg + J 40 ((220 : Int32) + nI k).toNatClampNeg ≤ nI (d.fs k + i) := by rw [c2, c3, h.fm k hk1, h.zm k hk1, nI_add]; exact nI_ge (by omega) (by omega)
            have i4 := k_in (x := 400 + _) (n := 1280) (nI_add 400 (d.fs k + i)) (by omega) (by omega)
            have i5 := k_in (x := 60 + _) (n := 1000) (nI_add 60 (d.fs k + i)) (by omega) (by omega)
            have c4 : ((400 : Int32) + nI (d.fs k + i)).toNatClampNeg = 400 + (d.fs k + i) := kx 400 (a := 400) rfl (by omega)
            have c5 : ((60 : Int32) + nI (d.fs k + i)).toNatClampNeg = 60 + (d.fs k + i) := kx 60 (a := 60) rfl (by omega)
            have e2 : nI (d.fs k + i) + 1 = nI (d.fs k + (i + 1)) := nI_1 _
            have hA := (h.a k hk1 i (by omega)).2
            have hX := (h.x k hk1 i (by omega)).2
            have h2 := ihg (i + 1) (by omega)
            rw [lfold, ← e2] at h2
            refine sg_X11_sealOf_51_1 _ _ _ _ i2 i3 hni i4 i5 ?_
            rw [c4, c5, hX, hA]
            exact h2
        have h3 := inner (d.sz k) 0 (by omega)
        rw [lfold, Nat.add_zero] at h3
        have c6 : J 40 ((160 : Int32) + nI k).toNatClampNeg = nI (d.fs k) := by rw [c2, h.fm k hk1]
        rcases hw with rfl | ⟨x, rfl⟩
        · refine sg_X11_sealOf_7_1 _ _ _ hnle i1 hn i2 ?_
          rw [c6]; exact h3
        · refine sg_X11_sealOf_7_4 _ _ _ _ hnle i1 hn i2 ?_
          rw [c6]; exact h3
      · have hn : ¬ J 40 ((100 : Int32) + nI k).toNatClampNeg / 100 = nI t := by rw [hdv]; exact k_ne rfl rfl hq (by omega) (by omega)
        have h2 := ih (k + 1) w (by omega) hw
        have e3 : lfold (fun j z => if I 10 j < nI (100 * t) then z else if nI (100 * t + 99) < I 10 j then z else cSw I d.sz j z) (k + 1) 17 = lfold (fun j z => if I 10 j < nI (100 * t) then z else if nI (100 * t + 99) < I 10 j then z else cSw I d.sz j z) k 17 := by
          rw [lfold]
          by_cases hq2 : d.dy k < 100 * t
          · rw [if_pos (by rw [hd1]; exact nI_lt hq2 (by omega))]
          · rw [if_neg (by rw [hd1]; exact nI_nlt (by omega) (by omega)), if_pos (by rw [hd1]; exact nI_lt (by omega) (by omega))]
        rw [e3, ← e1] at h2
        rcases hw with rfl | ⟨x, rfl⟩
        · exact sg_X11_sealOf_7_2 _ _ _ hnle i1 hn h2
        · exact sg_X11_sealOf_7_5 _ _ _ _ hnle i1 hn h2
  exact loop d.nJ 0 .null (by omega) (Or.inl rfl)
end MJ
