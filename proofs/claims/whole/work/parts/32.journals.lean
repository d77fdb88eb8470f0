def lfold (f : Nat → Int64 → Int64) : Nat → Int64 → Int64
  | 0, z => z
  | n + 1, z => f n (lfold f n z)
theorem lfold_congr {f g : Nat → Int64 → Int64} {n : Nat} (h : ∀ i, i < n → ∀ z, f i z = g i z) (z : Int64) : lfold f n z = lfold g n z := by
  induction n with
  | zero => rfl
  | succ n ih => rw [lfold, lfold, ih (fun i hi => h i (by omega)), h n (by omega)]
/-- the amounts of an account in one journal -/
def cS (I : zI) (sz : Nat → Nat) (a : Int32) (j : Nat) : Int64 := lsum (fun i => if I 14 (10 * j + i) = a then (I 15 (10 * j + i)).toInt64 else 0) (sz j)
def cSum (I : zI) (sz : Nat → Nat) (nJ : Nat) (a lo hi : Int32) : Int64 := lsum (fun j => if I 10 j < lo then 0 else if hi < I 10 j then 0 else cS I sz a j) nJ
def cSw (I : zI) (sz : Nat → Nat) (j : Nat) (z : Int64) : Int64 := lfold (fun i z => 31 * (31 * z + (I 14 (10 * j + i)).toInt64) + (I 15 (10 * j + i)).toInt64) (sz j) z
def cSo (I : zI) (sz : Nat → Nat) (nJ : Nat) (lo hi : Int32) : Int64 := lfold (fun j z => if I 10 j < lo then z else if hi < I 10 j then z else cSw I sz j z) nJ 17
def cL (I : zI) (sz : Nat → Nat) (a : Int32) (s : Nat) : Bool := decide (s % 10 < sz (s / 10)) && decide (I 14 s = a)
section PJ
variable {X : zSc} {im : Option Nat} {tl : List zS} {I : zI} {L : zL} {nJ : Nat} {sz : Nat → Nat}
theorem cj_has1 {k : Nat} (hJ : I 9 0 = nI nJ) (hk : k < nJ) (h60 : nJ ≤ 60) : zEv X mt_X4_has 0 [.ref 9, .int (nI k)] [] (zSH im tl, I, L) (some (.int 1), (zSH im tl, I, L)) :=
  sg_X4_has_0_2 _ (k_pos rfl (by omega)) (k_nle hJ rfl hk (by omega))
theorem cj_has0 {a : Int32} (hJ : I 9 0 = nI nJ) (h : a < 0 ∨ nI nJ ≤ a) : zEv X mt_X4_has 0 [.ref 9, .int a] [] (zSH im tl, I, L) (some (.int 0), (zSH im tl, I, L)) := by
  by_cases h0 : a < 0
  · exact sg_X4_has_0_0 _ h0
  · exact sg_X4_has_0_1 _ h0 (by rw [hJ]; exact h.resolve_left h0)
theorem cj_isFull (hJ : I 9 0 = nI nJ) (h60 : nJ ≤ 60) : zEv X mt_X4_isFull 0 [.ref 9] [] (zSH im tl, I, L) (some (.int (zbi1 (decide (nJ = 60)))), (zSH im tl, I, L)) := by
  by_cases h : nJ = 60
  · refine ev_r (sg_X4_isFull_0_1 (k_nlt (b := 60) hJ rfl (by omega) (by omega))) ?_
    rw [decide_eq_true h]; rfl
  · refine ev_r (sg_X4_isFull_0_0 (k_lt (b := 60) hJ rfl (by omega) (by omega))) ?_
    rw [decide_eq_false h]; rfl
theorem cj_sumIn (hz : ∀ j, j < nJ → I 11 j = nI (sz j) ∧ sz j ≤ 10) (h60 : nJ ≤ 60) {j : Nat} (hj : j < nJ) (a : Int32) : zEv X mt_X4_sumIn 0 [.ref 9, .int (nI j), .int a, .null, .null, .null, .null] [] (zSH im tl, I, L) (some (.long (cS I sz a j)), (zSH im tl, I, L)) := by
  obtain ⟨hs, hs10⟩ := hz j hj
  refine sg_X4_sumIn_0_0 _ _ ?_
  rw [show nI j * 10 = nI (10 * j) by rw [show (10 : Int32) = nI 10 from rfl, pk_mul, Nat.mul_comm]]
  have loop : ∀ (f k : Nat), k + f = sz j → zEv X mt_X4_sumIn 12 [.ref 9, .int (nI j), .int a, .long (lsum (fun i => if I 14 (10 * j + i) = a then (I 15 (10 * j + i)).toInt64 else 0) k), .null, .int (nI (10 * j)), .int (nI (10 * j + k))] [] (zSH im tl, I, L) (some (.long (cS I sz a j)), (zSH im tl, I, L)) := by
    intro f
    induction f with
    | zero =>
      intro k h
      have : k = sz j := by omega
      subst this
      exact sg_X4_sumIn_12_0 _ _ _ _ _ (k_in rfl (by omega) (by omega)) (by rw [kc (by omega), hs, nI_add]; exact nI_le (Nat.le_refl _) (by omega))
    | succ f ih =>
      intro k h
      have e1 : nI (10 * j + k) + 1 = nI (10 * j + (k + 1)) := nI_1 _
      have hnle : ¬ nI (10 * j) + I 11 (nI j).toNatClampNeg ≤ nI (10 * j + k) := by rw [kc (by omega), hs, nI_add]; exact nI_ge (by omega) (by omega)
      have hin : ¬ (nI (10 * j + k) < 0 ∨ 600 ≤ (nI (10 * j + k)).toNatClampNeg) := k_in rfl (by omega) (by omega)
      have h2 := ih (k + 1) (by omega)
      rw [lsum] at h2
      by_cases ha : I 14 (10 * j + k) = a
      · rw [if_pos ha] at h2
        refine sg_X4_sumIn_12_1 _ _ _ _ _ (k_in rfl (by omega) (by omega)) hnle hin (by rw [kc (by omega)]; exact ha) hin ?_
        rw [kc (n := 10 * j + k) (by omega), e1]
        exact h2
      · rw [if_neg ha, Int64.add_zero] at h2
        refine sg_X4_sumIn_12_2 _ _ _ _ _ (k_in rfl (by omega) (by omega)) hnle hin (by rw [kc (by omega)]; exact ha) ?_
        rw [e1]
        exact h2
  exact loop (sz j) 0 (by omega)
theorem cj_sum (hJ : I 9 0 = nI nJ) (hz : ∀ j, j < nJ → I 11 j = nI (sz j) ∧ sz j ≤ 10) (h60 : nJ ≤ 60) (a lo hi : Int32) : zEv X mt_X4_sum 0 [.ref 9, .int a, .int lo, .int hi, .null, .null, .null] [] (zSH im tl, I, L) (some (.long (cSum I sz nJ a lo hi)), (zSH im tl, I, L)) := by
  refine sg_X4_sum_0_0 _ _ _ ?_
  have loop : ∀ (f k : Nat), k + f = nJ → zEv X mt_X4_sum 6 [.ref 9, .int a, .int lo, .int hi, .long (lsum (fun j => if I 10 j < lo then 0 else if hi < I 10 j then 0 else cS I sz a j) k), .null, .int (nI k)] [] (zSH im tl, I, L) (some (.long (cSum I sz nJ a lo hi)), (zSH im tl, I, L)) := by
    intro f
    induction f with
    | zero =>
      intro k h
      have : k = nJ := by omega
      subst this
      exact sg_X4_sum_6_0 _ _ _ _ _ (by rw [hJ]; exact nI_le (Nat.le_refl _) (by omega))
    | succ f ih =>
      intro k h
      have e1 : nI k + 1 = nI (k + 1) := nI_1 _
      have hnle : ¬ I 9 0 ≤ nI k := k_nle hJ rfl (by omega) (by omega)
      have hin : ¬ (nI k < 0 ∨ 60 ≤ (nI k).toNatClampNeg) := k_in rfl (by omega) (by omega)
      have ec : (nI k).toNatClampNeg = k := kc (by omega)
      have h2 := ih (k + 1) (by omega)
      rw [lsum] at h2
      by_cases h3 : I 10 k < lo
      · rw [if_pos h3, Int64.add_zero] at h2
        refine sg_X4_sum_6_1 _ _ _ _ _ hnle hin (by rw [ec]; exact h3) ?_
        rw [e1]; exact h2
      · rw [if_neg h3] at h2
        by_cases h4 : hi < I 10 k
        · rw [if_pos h4, Int64.add_zero] at h2
          refine sg_X4_sum_6_2 _ _ _ _ _ hnle hin (by rw [ec]; exact h3) hin (by rw [ec]; exact h4) ?_
          rw [e1]; exact h2
        · rw [if_neg h4] at h2
          refine sg_X4_sum_6_3 _ _ _ _ _ hnle hin (by rw [ec]; exact h3) hin (by rw [ec]; exact h4) (cj_sumIn hz h60 (by omega) a) ?_
          refine sg_X4_sum_46_0 _ _ _ _ _ _ _ ?_
          rw [e1]; exact h2
  exact loop nJ 0 (by omega)
theorem cj_sealWith (hz : ∀ j, j < nJ → I 11 j = nI (sz j) ∧ sz j ≤ 10) (h60 : nJ ≤ 60) {j : Nat} (hj : j < nJ) (z : Int64) : zEv X mt_X4_sealWith 0 [.ref 9, .long z, .null, .int (nI j), .null, .null, .null, .null] [] (zSH im tl, I, L) (some (.long (cSw I sz j z)), (zSH im tl, I, L)) := by
  obtain ⟨hs, hs10⟩ := hz j hj
  refine sg_X4_sealWith_0_0 _ _ ?_
  rw [show nI j * 10 = nI (10 * j) by rw [show (10 : Int32) = nI 10 from rfl, pk_mul, Nat.mul_comm]]
  have loop : ∀ (f k : Nat), k + f = sz j → zEv X mt_X4_sealWith 13 [.ref 9, .long z, .null, .int (nI j), .long (lfold (fun i z => 31 * (31 * z + (I 14 (10 * j + i)).toInt64) + (I 15 (10 * j + i)).toInt64) k z), .null, .int (nI (10 * j)), .int (nI (10 * j + k))] [] (zSH im tl, I, L) (some (.long (cSw I sz j z)), (zSH im tl, I, L)) := by
    intro f
    induction f with
    | zero =>
      intro k h
      have : k = sz j := by omega
      subst this
      exact sg_X4_sealWith_13_0 _ _ _ _ _ (k_in rfl (by omega) (by omega)) (by rw [kc (by omega), hs, nI_add]; exact nI_le (Nat.le_refl _) (by omega))
    | succ f ih =>
      intro k h
      have e1 : nI (10 * j + k) + 1 = nI (10 * j + (k + 1)) := nI_1 _
      have hnle : ¬ nI (10 * j) + I 11 (nI j).toNatClampNeg ≤ nI (10 * j + k) := by rw [kc (by omega), hs, nI_add]; exact nI_ge (by omega) (by omega)
      have hin : ¬ (nI (10 * j + k) < 0 ∨ 600 ≤ (nI (10 * j + k)).toNatClampNeg) := k_in rfl (by omega) (by omega)
      have h2 := ih (k + 1) (by omega)
      rw [lfold] at h2
      refine sg_X4_sealWith_13_1 _ _ _ _ _ (k_in rfl (by omega) (by omega)) hnle hin hin ?_
      rw [kc (n := 10 * j + k) (by omega), e1]
      exact h2
  exact loop (sz j) 0 (by omega)
theorem cj_sealOver (hJ : I 9 0 = nI nJ) (hz : ∀ j, j < nJ → I 11 j = nI (sz j) ∧ sz j ≤ 10) (h60 : nJ ≤ 60) (lo hi : Int32) : zEv X mt_X4_sealOver 0 [.ref 9, .int lo, .int hi, .null, .null, .null] [] (zSH im tl, I, L) (some (.long (cSo I sz nJ lo hi)), (zSH im tl, I, L)) := by
  refine sg_X4_sealOver_0_0 _ _ ?_
  have loop : ∀ (f k : Nat), k + f = nJ → zEv X mt_X4_sealOver 7 [.ref 9, .int lo, .int hi, .long (lfold (fun j z => if I 10 j < lo then z else if hi < I 10 j then z else cSw I sz j z) k 17), .null, .int (nI k)] [] (zSH im tl, I, L) (some (.long (cSo I sz nJ lo hi)), (zSH im tl, I, L)) := by
    intro f
    induction f with
    | zero =>
      intro k h
      have : k = nJ := by omega
      subst this
      exact sg_X4_sealOver_7_0 _ _ _ _ (by rw [hJ]; exact nI_le (Nat.le_refl _) (by omega))
    | succ f ih =>
      intro k h
      have e1 : nI k + 1 = nI (k + 1) := nI_1 _
      have hnle : ¬ I 9 0 ≤ nI k := k_nle hJ rfl (by omega) (by omega)
      have hin : ¬ (nI k < 0 ∨ 60 ≤ (nI k).toNatClampNeg) := k_in rfl (by omega) (by omega)
      have ec : (nI k).toNatClampNeg = k := kc (by omega)
      have h2 := ih (k + 1) (by omega)
      rw [lfold] at h2
      by_cases h3 : I 10 k < lo
      · rw [if_pos h3] at h2
        refine sg_X4_sealOver_7_1 _ _ _ _ hnle hin (by rw [ec]; exact h3) ?_
        rw [e1]; exact h2
      · rw [if_neg h3] at h2
        by_cases h4 : hi < I 10 k
        · rw [if_pos h4] at h2
          refine sg_X4_sealOver_7_2 _ _ _ _ hnle hin (by rw [ec]; exact h3) hin (by rw [ec]; exact h4) ?_
          rw [e1]; exact h2
        · rw [if_neg h4] at h2
          refine sg_X4_sealOver_7_3 _ _ _ _ hnle hin (by rw [ec]; exact h3) hin (by rw [ec]; exact h4) (cj_sealWith hz h60 (by omega) _) ?_
          refine sg_X4_sealOver_45_0 _ _ _ _ _ ?_
          rw [e1]; exact h2
  exact loop nJ 0 (by omega)
theorem cj_countReversals (hJ : I 9 0 = nI nJ) (h60 : nJ ≤ 60) : zEv X mt_X4_countReversals 0 [.ref 9, .null, .null] [] (zSH im tl, I, L) (some (.int (nI (ncnt (fun j => !decide (I 12 j = -5)) nJ))), (zSH im tl, I, L)) := by
  refine sg_X4_countReversals_0_0 ?_
  have loop : ∀ (f k : Nat), k + f = nJ → zEv X mt_X4_countReversals 4 [.ref 9, .int (nI (ncnt (fun j => !decide (I 12 j = -5)) k)), .int (nI k)] [] (zSH im tl, I, L) (some (.int (nI (ncnt (fun j => !decide (I 12 j = -5)) nJ))), (zSH im tl, I, L)) := by
    intro f
    induction f with
    | zero =>
      intro k h
      have : k = nJ := by omega
      subst this
      exact sg_X4_countReversals_4_0 _ _ (by rw [hJ]; exact nI_le (Nat.le_refl _) (by omega))
    | succ f ih =>
      intro k h
      have e1 : nI k + 1 = nI (k + 1) := nI_1 _
      have hnle : ¬ I 9 0 ≤ nI k := k_nle hJ rfl (by omega) (by omega)
      have hin : ¬ (nI k < 0 ∨ 60 ≤ (nI k).toNatClampNeg) := k_in rfl (by omega) (by omega)
      have ec : (nI k).toNatClampNeg = k := kc (by omega)
      have h2 := ih (k + 1) (by omega)
      rw [ncnt] at h2
      by_cases h3 : I 12 k = -5
      · rw [if_neg (by simp [h3])] at h2
        refine sg_X4_countReversals_4_1 _ _ hnle hin (by rw [ec]; exact h3) ?_
        rw [e1]; exact h2
      · rw [if_pos (by simp [h3]), ← nI_1] at h2
        refine sg_X4_countReversals_4_2 _ _ hnle hin (by rw [ec]; exact h3) ?_
        rw [e1]; exact h2
  exact loop nJ 0 (by omega)
theorem cj_isLine (hz : ∀ j, j < nJ → I 11 j = nI (sz j) ∧ sz j ≤ 10) (h60 : nJ ≤ 60) {s : Nat} (hs : s < 10 * nJ) (a : Int32) : zEv X mt_X4_isLine 0 [.ref 9, .int (nI s), .int a] [] (zSH im tl, I, L) (some (.int (zbi1 (cL I sz a s))), (zSH im tl, I, L)) := by
  obtain ⟨h1, h2⟩ := hz (s / 10) (by omega)
  have e1 : nI s / 10 = nI (s / 10) := pk_div (d := 10) (by omega) (by omega) (by omega)
  have e2 : nI s - nI s / 10 * 10 = nI (s % 10) := pk_rem (d := 10) (by omega) (by omega) (by omega)
  have hin : ¬ (nI s / 10 < 0 ∨ 60 ≤ (nI s / 10).toNatClampNeg) := k_in e1 (by omega) (by omega)
  have e3 : (nI s / 10).toNatClampNeg = s / 10 := by rw [e1, kc (by omega)]
  by_cases h3 : s % 10 < sz (s / 10)
  · have h4 : ¬ I 11 (nI s / 10).toNatClampNeg ≤ nI s - nI s / 10 * 10 := by rw [e3, h1, e2]; exact nI_ge h3 (by omega)
    by_cases h5 : I 14 s = a
    · refine ev_r (sg_X4_isLine_0_1 _ _ hin h4 (k_in rfl (by omega) (by omega)) (by rw [kc (by omega)]; exact h5)) ?_
      simp [cL, h3, h5, zbi1]
    · refine ev_r (sg_X4_isLine_0_2 _ _ hin h4 (k_in rfl (by omega) (by omega)) (by rw [kc (by omega)]; exact h5)) ?_
      simp [cL, h5, zbi1]
  · refine ev_r (sg_X4_isLine_0_0 _ _ hin (by rw [e3, h1, e2]; exact nI_le (by omega) (by omega))) ?_
    simp [cL, h3, zbi1]
theorem cj_countLines (hJ : I 9 0 = nI nJ) (hz : ∀ j, j < nJ → I 11 j = nI (sz j) ∧ sz j ≤ 10) (h60 : nJ ≤ 60) (a : Int32) : zEv X mt_X4_countLines 0 [.ref 9, .int a, .null, .null] [] (zSH im tl, I, L) (some (.int (nI (ncnt (cL I sz a) (10 * nJ)))), (zSH im tl, I, L)) := by
  have hm : I 9 0 * 10 = nI (10 * nJ) := by rw [hJ, show (10 : Int32) = nI 10 from rfl, pk_mul, Nat.mul_comm]
  refine sg_X4_countLines_0_0 _ ?_
  have loop : ∀ (f k : Nat), k + f = 10 * nJ → zEv X mt_X4_countLines 4 [.ref 9, .int a, .int (nI (ncnt (cL I sz a) k)), .int (nI k)] [] (zSH im tl, I, L) (some (.int (nI (ncnt (cL I sz a) (10 * nJ)))), (zSH im tl, I, L)) := by
    intro f
    induction f with
    | zero =>
      intro k h
      have : k = 10 * nJ := by omega
      subst this
      exact sg_X4_countLines_4_0 _ _ _ (by rw [hm]; exact nI_le (Nat.le_refl _) (by omega))
    | succ f ih =>
      intro k h
      have e1 : nI k + 1 = nI (k + 1) := nI_1 _
      have h2 := ih (k + 1) (by omega)
      rw [ncnt] at h2
      refine sg_X4_countLines_4_1 _ _ _ (by rw [hm]; exact nI_ge (by omega) (by omega)) (cj_isLine hz h60 (by omega) a) ?_
      cases hc : cL I sz a k with
      | false =>
        rw [hc, if_neg (by decide)] at h2
        refine sg_X4_countLines_21_0 _ _ _ _ rfl ?_
        rw [e1]; exact h2
      | true =>
        rw [hc, if_pos rfl, ← nI_1] at h2
        refine sg_X4_countLines_21_1 _ _ _ _ (by decide) ?_
        rw [e1]; exact h2
  exact loop (10 * nJ) 0 (by omega)
/-- what a line tells -/
def cLo (I : zI) (s : Nat) (sum : Int64) (w : Nat) : Int64 := if w = 0 then (I 10 (s / 10)).toInt64 else if w = 1 then (nI (s / 10)).toInt64 else if w = 2 then (I 15 s).toInt64 else sum
theorem cj_lineOf {s : Nat} (hs : s < 600) (sum : Int64) {w : Nat} (hw : w < 4) : zEv X mt_X4_lineOf 0 [.ref 9, .int (nI s), .long sum, .null, .int (nI w)] [] (zSH im tl, I, L) (some (.long (cLo I s sum w)), (zSH im tl, I, L)) := by
  have e1 : nI s / 10 = nI (s / 10) := pk_div (d := 10) (by omega) (by omega) (by omega)
  have hne : ∀ k : Nat, k < 4 → nI w = nI k → w = k := fun k hk h => (nI_eq (by omega) (by omega)).mp h
  refine sg_X4_lineOf_0_0 _ _ _ (fun h => ?_) (fun h => ?_) (fun h => ?_) (fun h => ?_)
  · have := hne 0 (by omega) h
    refine ev_r (sg_X4_lineOf_28_0 _ _ _ (k_in e1 (by omega) (by omega))) ?_
    rw [e1, kc (by omega), cLo, if_pos this]
  · have := hne 1 (by omega) h
    refine ev_r (sg_X4_lineOf_39_0 _ _ _) ?_
    rw [e1, cLo, if_neg (by omega), if_pos this]
  · have := hne 2 (by omega) h
    refine ev_r (sg_X4_lineOf_45_0 _ _ _ (k_in rfl hs (by omega))) ?_
    rw [kc (by omega), cLo, if_neg (by omega), if_neg (by omega), if_pos this]
  · have h3 : w = 3 := by
      rw [nI_toInt (by omega)] at h
      omega
    refine ev_r (sg_X4_lineOf_53_0 _ _ _) ?_
    rw [cLo, if_neg (by omega), if_neg (by omega), if_neg (by omega)]
theorem cj_lineAt (hJ : I 9 0 = nI nJ) (hz : ∀ j, j < nJ → I 11 j = nI (sz j) ∧ sz j ≤ 10) (h60 : nJ ≤ 60) (a : Int32) {s w : Nat} (hs : s < 10 * nJ) (hq : cL I sz a s = true) (hw : w < 4) : zEv X mt_X4_lineAt 0 [.ref 9, .int a, .int (nI (ncnt (cL I sz a) s)), .int (nI w), .null, .null, .null, .null] [] (zSH im tl, I, L) (some (.long (cLo I s (lsum (fun k => if cL I sz a k = true then (I 15 k).toInt64 else 0) (s + 1)) w)), (zSH im tl, I, L)) := by
  have hm : I 9 0 * 10 = nI (10 * nJ) := by rw [hJ, show (10 : Int32) = nI 10 from rfl, pk_mul, Nat.mul_comm]
  have hmono : ∀ d k : Nat, ncnt (cL I sz a) k ≤ ncnt (cL I sz a) (k + d) := by
    intro d
    induction d with
    | zero => intro k; exact Nat.le_refl _
    | succ d ih =>
      intro k
      have h1 := ih k
      rw [show k + (d + 1) = (k + d) + 1 by omega, ncnt]
      split <;> omega
  refine sg_X4_lineAt_0_0 _ _ _ ?_
  have loop : ∀ (f k : Nat), k + f = s → zEv X mt_X4_lineAt 9 [.ref 9, .int a, .int (nI (ncnt (cL I sz a) s)), .int (nI w), .int (nI (ncnt (cL I sz a) k)), .long (lsum (fun k => if cL I sz a k = true then (I 15 k).toInt64 else 0) k), .null, .int (nI k)] [] (zSH im tl, I, L) (some (.long (cLo I s (lsum (fun k => if cL I sz a k = true then (I 15 k).toInt64 else 0) (s + 1)) w)), (zSH im tl, I, L)) := by
    intro f
    induction f with
    | zero =>
      intro k h
      have : k = s := by omega
      subst this
      refine sg_X4_lineAt_9_1 _ _ _ _ _ _ (by rw [hm]; exact nI_ge (by omega) (by omega)) (cj_isLine hz h60 (by omega) a) ?_
      rw [hq]
      refine sg_X4_lineAt_28_1 _ _ _ _ _ _ _ (by decide) (k_in rfl (by omega) (by omega)) rfl ?_ (sg_X4_lineAt_59_0 _ _ _ _ _ _ _)
      rw [lsum, if_pos hq, kc (by omega)]
      exact cj_lineOf (by omega) _ hw
    | succ f ih =>
      intro k h
      have e1 : nI k + 1 = nI (k + 1) := nI_1 _
      have h2 := ih (k + 1) (by omega)
      rw [ncnt, lsum] at h2
      refine sg_X4_lineAt_9_1 _ _ _ _ _ _ (by rw [hm]; exact nI_ge (by omega) (by omega)) (cj_isLine hz h60 (by omega) a) ?_
      cases hc : cL I sz a k with
      | false =>
        rw [hc, if_neg (by decide), if_neg (by decide), Int64.add_zero] at h2
        refine sg_X4_lineAt_28_0 _ _ _ _ _ _ _ rfl ?_
        rw [e1]; exact h2
      | true =>
        rw [hc, if_pos rfl, if_pos rfl, ← nI_1] at h2
        have hlt : ncnt (cL I sz a) k < ncnt (cL I sz a) s := by
          have h3 := hmono (s - (k + 1)) (k + 1)
          rw [show k + 1 + (s - (k + 1)) = s by omega, ncnt, hc, if_pos rfl] at h3
          omega
        have hb := ncnt_le (cL I sz a) s
        refine sg_X4_lineAt_28_2 _ _ _ _ _ _ _ (by decide) (k_in rfl (by omega) (by omega)) (k_ne rfl rfl (by omega) (by omega) (by omega)) ?_
        rw [e1, kc (n := k) (by omega)]; exact h2
  exact loop s 0 (by omega)
end PJ
