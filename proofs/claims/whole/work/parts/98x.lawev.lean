/-! the law: each call answers alike, and all stays related -/
def lsm (M : zM) : Prop := M.1.length ≤ 600000 ∧ zsize M.1 ≤ 7302250
def lwE (X : zSc) (pc : Nat) (v : Int32) (im : Option Nat) (tl : List zS) (I : zI) (L : zL) : Prop := ∃ M' : zM, zEv X mt_L_law pc [.retAddr 2, .ref 0, .ref 39, .int v] [] (zSH im tl, I, L) (some (.int 1), M') ∧ lsm M'
section LW2
variable {X : zSc} {im : Option Nat} {tl : List zS} {I : zI} {L : zL} {d : zD} {i : Nat}
theorem lgd {c : Nat} (hi : i + 5 < X.1) (hX : X.1 ≤ 3072) (hc : c ≤ 5) {x : Int32} (hx : x = nI (i + c)) : ¬ (x < 0 ∨ X.1 ≤ x.toNatClampNeg) := k_in hx (by omega) (by omega)
theorem lw_c0 (hR : rAll d im tl I L) (hi : i + 5 < X.1) (hX : X.1 ≤ 3072) (K : ∀ (d : zD) (im : Option Nat) (tl : List zS) (I : zI) (L : zL), rAll d im tl I L → lwE X 18 (nI i + 6) im tl I L) : lwE X 216 (nI i) im tl I L := by
  obtain ⟨v, I1, L1, I2, L2, d2, e1, e2, h2⟩ := op_account (X := X) hR (X.2 (nI i + 1).toNatClampNeg) (X.2 (nI i + 2).toNatClampNeg) (X.2 (nI i + 3).toNatClampNeg)
  obtain ⟨M', k1, k2⟩ := K d2 im tl I2 L2 h2
  exact ⟨M', sg_L_law_216_0 _ (lgd (c := 1) hi hX (by omega) (nI_add i 1)) (lgd (c := 2) hi hX (by omega) (nI_add i 2)) (lgd (c := 3) hi hX (by omega) (nI_add i 3)) e1 (sg_L_law_235_0 _ _ (lgd (c := 1) hi hX (by omega) (nI_add i 1)) (lgd (c := 2) hi hX (by omega) (nI_add i 2)) (lgd (c := 3) hi hX (by omega) (nI_add i 3)) e2 (sg_L_law_254_0 _ _ _ rfl k1)), k2⟩
theorem lw_c1 (hR : rAll d im tl I L) (hi : i + 5 < X.1) (hX : X.1 ≤ 3072) (K : ∀ (d : zD) (im : Option Nat) (tl : List zS) (I : zI) (L : zL), rAll d im tl I L → lwE X 18 (nI i + 6) im tl I L) : lwE X 259 (nI i) im tl I L := by
  obtain ⟨v, I1, L1, I2, L2, d2, e1, e2, h2⟩ := op_of (X := X) hR (X.2 (nI i + 1).toNatClampNeg) (X.2 (nI i + 2).toNatClampNeg)
  obtain ⟨M', k1, k2⟩ := K d2 im tl I2 L2 h2
  exact ⟨M', sg_L_law_259_0 _ (lgd (c := 1) hi hX (by omega) (nI_add i 1)) (lgd (c := 2) hi hX (by omega) (nI_add i 2)) e1 (sg_L_law_273_0 _ _ (lgd (c := 1) hi hX (by omega) (nI_add i 1)) (lgd (c := 2) hi hX (by omega) (nI_add i 2)) e2 (sg_L_law_287_0 _ _ _ rfl k1)), k2⟩
theorem lw_c2 (hR : rAll d im tl I L) (hi : i + 5 < X.1) (hX : X.1 ≤ 3072) (K : ∀ (d : zD) (im : Option Nat) (tl : List zS) (I : zI) (L : zL), rAll d im tl I L → lwE X 18 (nI i + 6) im tl I L) : lwE X 292 (nI i) im tl I L := by
  obtain ⟨v, I1, L1, I2, L2, d2, e1, e2, h2⟩ := op_limits (X := X) hR (X.2 (nI i + 1).toNatClampNeg) ((((X.2 (nI i + 2).toNatClampNeg).toInt64) <<< ((32 : Int32).toInt64 &&& 63)) ||| (((X.2 (nI i + 3).toNatClampNeg).toInt64) &&& 4294967295)) ((((X.2 (nI i + 4).toNatClampNeg).toInt64) <<< ((32 : Int32).toInt64 &&& 63)) ||| (((X.2 (nI i + 5).toNatClampNeg).toInt64) &&& 4294967295))
  obtain ⟨M', k1, k2⟩ := K d2 im tl I2 L2 h2
  exact ⟨M', sg_L_law_292_0 _ (lgd (c := 1) hi hX (by omega) (nI_add i 1)) (lgd (c := 2) hi hX (by omega) (nI_add i 2)) (lgd (c := 3) hi hX (by omega) (nI_add i 3)) (lgd (c := 4) hi hX (by omega) (nI_add i 4)) (lgd (c := 5) hi hX (by omega) (nI_add i 5)) e1 (sg_L_law_341_0 _ _ (lgd (c := 1) hi hX (by omega) (nI_add i 1)) (lgd (c := 2) hi hX (by omega) (nI_add i 2)) (lgd (c := 3) hi hX (by omega) (nI_add i 3)) (lgd (c := 4) hi hX (by omega) (nI_add i 4)) (lgd (c := 5) hi hX (by omega) (nI_add i 5)) e2 (sg_L_law_390_0 _ _ _ rfl k1)), k2⟩
theorem lw_c3 (hR : rAll d im tl I L) (hi : i + 5 < X.1) (hX : X.1 ≤ 3072) (K : ∀ (d : zD) (im : Option Nat) (tl : List zS) (I : zI) (L : zL), rAll d im tl I L → lwE X 18 (nI i + 6) im tl I L) : lwE X 395 (nI i) im tl I L := by
  obtain ⟨v, I1, L1, I2, L2, d2, e1, e2, h2⟩ := op_days (X := X) hR (X.2 (nI i + 1).toNatClampNeg)
  obtain ⟨M', k1, k2⟩ := K d2 im tl I2 L2 h2
  exact ⟨M', sg_L_law_395_0 _ (lgd (c := 1) hi hX (by omega) (nI_add i 1)) e1 (sg_L_law_404_0 _ _ (lgd (c := 1) hi hX (by omega) (nI_add i 1)) e2 (sg_L_law_413_0 _ _ _ rfl k1)), k2⟩
theorem lw_c4 (hR : rAll d im tl I L) (hi : i + 5 < X.1) (hX : X.1 ≤ 3072) (K : ∀ (d : zD) (im : Option Nat) (tl : List zS) (I : zI) (L : zL), rAll d im tl I L → lwE X 18 (nI i + 6) im tl I L) : lwE X 418 (nI i) im tl I L := by
  obtain ⟨v, I1, L1, I2, L2, d2, e1, e2, h2⟩ := op_begin (X := X) hR 
  obtain ⟨M', k1, k2⟩ := K d2 im tl I2 L2 h2
  exact ⟨M', sg_L_law_418_0 _  e1 (sg_L_law_422_0 _ _  e2 (sg_L_law_426_0 _ _ _ rfl k1)), k2⟩
theorem lw_c5 (hR : rAll d im tl I L) (hi : i + 5 < X.1) (hX : X.1 ≤ 3072) (K : ∀ (d : zD) (im : Option Nat) (tl : List zS) (I : zI) (L : zL), rAll d im tl I L → lwE X 18 (nI i + 6) im tl I L) : lwE X 431 (nI i) im tl I L := by
  obtain ⟨v, I1, L1, I2, L2, d2, e1, e2, h2⟩ := op_posting (X := X) hR (X.2 (nI i + 1).toNatClampNeg) ((((X.2 (nI i + 2).toNatClampNeg).toInt64) <<< ((32 : Int32).toInt64 &&& 63)) ||| (((X.2 (nI i + 3).toNatClampNeg).toInt64) &&& 4294967295))
  obtain ⟨M', k1, k2⟩ := K d2 im tl I2 L2 h2
  exact ⟨M', sg_L_law_431_0 _ (lgd (c := 1) hi hX (by omega) (nI_add i 1)) (lgd (c := 2) hi hX (by omega) (nI_add i 2)) (lgd (c := 3) hi hX (by omega) (nI_add i 3)) e1 (sg_L_law_460_0 _ _ (lgd (c := 1) hi hX (by omega) (nI_add i 1)) (lgd (c := 2) hi hX (by omega) (nI_add i 2)) (lgd (c := 3) hi hX (by omega) (nI_add i 3)) e2 (sg_L_law_489_0 _ _ _ rfl k1)), k2⟩
theorem lw_c6 (hR : rAll d im tl I L) (hi : i + 5 < X.1) (hX : X.1 ≤ 3072) (K : ∀ (d : zD) (im : Option Nat) (tl : List zS) (I : zI) (L : zL), rAll d im tl I L → lwE X 18 (nI i + 6) im tl I L) : lwE X 494 (nI i) im tl I L := by
  obtain ⟨v, I1, L1, I2, L2, d2, e1, e2, h2⟩ := op_cancel (X := X) hR 
  obtain ⟨M', k1, k2⟩ := K d2 im tl I2 L2 h2
  exact ⟨M', sg_L_law_494_0 _  e1 (sg_L_law_498_0 _ _  e2 (sg_L_law_502_0 _ _ _ rfl k1)), k2⟩
theorem lw_c7 (hR : rAll d im tl I L) (hi : i + 5 < X.1) (hX : X.1 ≤ 3072) (K : ∀ (d : zD) (im : Option Nat) (tl : List zS) (I : zI) (L : zL), rAll d im tl I L → lwE X 18 (nI i + 6) im tl I L) : lwE X 507 (nI i) im tl I L := by
  obtain ⟨v, I1, L1, I2, L2, d2, e1, e2, h2⟩ := op_post (X := X) hR 
  obtain ⟨M', k1, k2⟩ := K d2 im tl I2 L2 h2
  exact ⟨M', sg_L_law_507_0 _  e1 (sg_L_law_511_0 _ _  e2 (sg_L_law_515_0 _ _ _ rfl k1)), k2⟩
theorem lw_c8 (hR : rAll d im tl I L) (hi : i + 5 < X.1) (hX : X.1 ≤ 3072) (K : ∀ (d : zD) (im : Option Nat) (tl : List zS) (I : zI) (L : zL), rAll d im tl I L → lwE X 18 (nI i + 6) im tl I L) : lwE X 520 (nI i) im tl I L := by
  obtain ⟨v, I1, L1, I2, L2, d2, e1, e2, h2⟩ := op_reverse (X := X) hR (X.2 (nI i + 1).toNatClampNeg)
  obtain ⟨M', k1, k2⟩ := K d2 im tl I2 L2 h2
  exact ⟨M', sg_L_law_520_0 _ (lgd (c := 1) hi hX (by omega) (nI_add i 1)) e1 (sg_L_law_529_0 _ _ (lgd (c := 1) hi hX (by omega) (nI_add i 1)) e2 (sg_L_law_538_0 _ _ _ rfl k1)), k2⟩
theorem lw_c9 (hR : rAll d im tl I L) (hi : i + 5 < X.1) (hX : X.1 ≤ 3072) (K : ∀ (d : zD) (im : Option Nat) (tl : List zS) (I : zI) (L : zL), rAll d im tl I L → lwE X 18 (nI i + 6) im tl I L) : lwE X 543 (nI i) im tl I L := by
  obtain ⟨v, I1, L1, I2, L2, d2, e1, e2, h2⟩ := op_journal (X := X) hR (X.2 (nI i + 1).toNatClampNeg) (X.2 (nI i + 2).toNatClampNeg)
  obtain ⟨M', k1, k2⟩ := K d2 im tl I2 L2 h2
  exact ⟨M', sg_L_law_543_0 _ (lgd (c := 1) hi hX (by omega) (nI_add i 1)) (lgd (c := 2) hi hX (by omega) (nI_add i 2)) e1 (sg_L_law_557_0 _ _ (lgd (c := 1) hi hX (by omega) (nI_add i 1)) (lgd (c := 2) hi hX (by omega) (nI_add i 2)) e2 (sg_L_law_571_0 _ _ _ rfl k1)), k2⟩
theorem lw_c10 (hR : rAll d im tl I L) (hi : i + 5 < X.1) (hX : X.1 ≤ 3072) (K : ∀ (d : zD) (im : Option Nat) (tl : List zS) (I : zI) (L : zL), rAll d im tl I L → lwE X 18 (nI i + 6) im tl I L) : lwE X 576 (nI i) im tl I L := by
  obtain ⟨v, I1, L1, I2, L2, d2, e1, e2, h2⟩ := op_part (X := X) hR (X.2 (nI i + 1).toNatClampNeg) (X.2 (nI i + 2).toNatClampNeg) (X.2 (nI i + 3).toNatClampNeg)
  obtain ⟨M', k1, k2⟩ := K d2 im tl I2 L2 h2
  exact ⟨M', sg_L_law_576_0 _ (lgd (c := 1) hi hX (by omega) (nI_add i 1)) (lgd (c := 2) hi hX (by omega) (nI_add i 2)) (lgd (c := 3) hi hX (by omega) (nI_add i 3)) e1 (sg_L_law_595_0 _ _ (lgd (c := 1) hi hX (by omega) (nI_add i 1)) (lgd (c := 2) hi hX (by omega) (nI_add i 2)) (lgd (c := 3) hi hX (by omega) (nI_add i 3)) e2 (sg_L_law_614_0 _ _ _ ((lg_cmp_eq _ _).mpr rfl) k1)), k2⟩
theorem lw_c11 (hR : rAll d im tl I L) (hi : i + 5 < X.1) (hX : X.1 ≤ 3072) (K : ∀ (d : zD) (im : Option Nat) (tl : List zS) (I : zI) (L : zL), rAll d im tl I L → lwE X 18 (nI i + 6) im tl I L) : lwE X 620 (nI i) im tl I L := by
  obtain ⟨v, I1, L1, I2, L2, d2, e1, e2, h2⟩ := op_cause (X := X) hR (X.2 (nI i + 1).toNatClampNeg) (X.2 (nI i + 2).toNatClampNeg)
  obtain ⟨M', k1, k2⟩ := K d2 im tl I2 L2 h2
  exact ⟨M', sg_L_law_620_0 _ (lgd (c := 1) hi hX (by omega) (nI_add i 1)) (lgd (c := 2) hi hX (by omega) (nI_add i 2)) e1 (sg_L_law_634_0 _ _ (lgd (c := 1) hi hX (by omega) (nI_add i 1)) (lgd (c := 2) hi hX (by omega) (nI_add i 2)) e2 (sg_L_law_648_0 _ _ _ rfl k1)), k2⟩
theorem lw_c12 (hR : rAll d im tl I L) (hi : i + 5 < X.1) (hX : X.1 ≤ 3072) (K : ∀ (d : zD) (im : Option Nat) (tl : List zS) (I : zI) (L : zL), rAll d im tl I L → lwE X 18 (nI i + 6) im tl I L) : lwE X 653 (nI i) im tl I L := by
  obtain ⟨v, I1, L1, I2, L2, d2, e1, e2, h2⟩ := op_balance (X := X) hR (X.2 (nI i + 1).toNatClampNeg) (X.2 (nI i + 2).toNatClampNeg)
  obtain ⟨M', k1, k2⟩ := K d2 im tl I2 L2 h2
  exact ⟨M', sg_L_law_653_0 _ (lgd (c := 1) hi hX (by omega) (nI_add i 1)) (lgd (c := 2) hi hX (by omega) (nI_add i 2)) e1 (sg_L_law_667_0 _ _ (lgd (c := 1) hi hX (by omega) (nI_add i 1)) (lgd (c := 2) hi hX (by omega) (nI_add i 2)) e2 (sg_L_law_681_0 _ _ _ ((lg_cmp_eq _ _).mpr rfl) k1)), k2⟩
theorem lw_c13 (hR : rAll d im tl I L) (hi : i + 5 < X.1) (hX : X.1 ≤ 3072) (K : ∀ (d : zD) (im : Option Nat) (tl : List zS) (I : zI) (L : zL), rAll d im tl I L → lwE X 18 (nI i + 6) im tl I L) : lwE X 687 (nI i) im tl I L := by
  obtain ⟨v, I1, L1, I2, L2, d2, e1, e2, h2⟩ := op_branch (X := X) hR (X.2 (nI i + 1).toNatClampNeg) (X.2 (nI i + 2).toNatClampNeg) (X.2 (nI i + 3).toNatClampNeg)
  obtain ⟨M', k1, k2⟩ := K d2 im tl I2 L2 h2
  exact ⟨M', sg_L_law_687_0 _ (lgd (c := 1) hi hX (by omega) (nI_add i 1)) (lgd (c := 2) hi hX (by omega) (nI_add i 2)) (lgd (c := 3) hi hX (by omega) (nI_add i 3)) e1 (sg_L_law_706_0 _ _ (lgd (c := 1) hi hX (by omega) (nI_add i 1)) (lgd (c := 2) hi hX (by omega) (nI_add i 2)) (lgd (c := 3) hi hX (by omega) (nI_add i 3)) e2 (sg_L_law_725_0 _ _ _ ((lg_cmp_eq _ _).mpr rfl) k1)), k2⟩
theorem lw_c14 (hR : rAll d im tl I L) (hi : i + 5 < X.1) (hX : X.1 ≤ 3072) (K : ∀ (d : zD) (im : Option Nat) (tl : List zS) (I : zI) (L : zL), rAll d im tl I L → lwE X 18 (nI i + 6) im tl I L) : lwE X 731 (nI i) im tl I L := by
  obtain ⟨v, I1, L1, I2, L2, d2, e1, e2, h2⟩ := op_close (X := X) hR (X.2 (nI i + 1).toNatClampNeg)
  obtain ⟨M', k1, k2⟩ := K d2 im tl I2 L2 h2
  exact ⟨M', sg_L_law_731_0 _ (lgd (c := 1) hi hX (by omega) (nI_add i 1)) e1 (sg_L_law_740_0 _ _ (lgd (c := 1) hi hX (by omega) (nI_add i 1)) e2 (sg_L_law_749_0 _ _ _ rfl k1)), k2⟩
theorem lw_c15 (hR : rAll d im tl I L) (hi : i + 5 < X.1) (hX : X.1 ≤ 3072) (K : ∀ (d : zD) (im : Option Nat) (tl : List zS) (I : zI) (L : zL), rAll d im tl I L → lwE X 18 (nI i + 6) im tl I L) : lwE X 754 (nI i) im tl I L := by
  obtain ⟨v, I1, L1, I2, L2, d2, e1, e2, h2⟩ := op_seal (X := X) hR (X.2 (nI i + 1).toNatClampNeg)
  obtain ⟨M', k1, k2⟩ := K d2 im tl I2 L2 h2
  exact ⟨M', sg_L_law_754_0 _ (lgd (c := 1) hi hX (by omega) (nI_add i 1)) e1 (sg_L_law_763_0 _ _ (lgd (c := 1) hi hX (by omega) (nI_add i 1)) e2 (sg_L_law_772_0 _ _ _ ((lg_cmp_eq _ _).mpr rfl) k1)), k2⟩
theorem lw_c16 (hR : rAll d im tl I L) (hi : i + 5 < X.1) (hX : X.1 ≤ 3072) (K : ∀ (d : zD) (im : Option Nat) (tl : List zS) (I : zI) (L : zL), rAll d im tl I L → lwE X 18 (nI i + 6) im tl I L) : lwE X 778 (nI i) im tl I L := by
  obtain ⟨v, I1, L1, I2, L2, d2, e1, e2, h2⟩ := op_audit (X := X) hR 
  obtain ⟨M', k1, k2⟩ := K d2 im tl I2 L2 h2
  exact ⟨M', sg_L_law_778_0 _  e1 (sg_L_law_782_0 _ _  e2 (sg_L_law_786_0 _ _ _ rfl k1)), k2⟩
theorem lw_c17 (hR : rAll d im tl I L) (hi : i + 5 < X.1) (hX : X.1 ≤ 3072) (K : ∀ (d : zD) (im : Option Nat) (tl : List zS) (I : zI) (L : zL), rAll d im tl I L → lwE X 18 (nI i + 6) im tl I L) : lwE X 791 (nI i) im tl I L := by
  obtain ⟨v, I1, L1, I2, L2, d2, e1, e2, h2⟩ := op_rate (X := X) hR (X.2 (nI i + 1).toNatClampNeg) (X.2 (nI i + 2).toNatClampNeg) (X.2 (nI i + 3).toNatClampNeg) (X.2 (nI i + 4).toNatClampNeg)
  obtain ⟨M', k1, k2⟩ := K d2 im tl I2 L2 h2
  exact ⟨M', sg_L_law_791_0 _ (lgd (c := 1) hi hX (by omega) (nI_add i 1)) (lgd (c := 2) hi hX (by omega) (nI_add i 2)) (lgd (c := 3) hi hX (by omega) (nI_add i 3)) (lgd (c := 4) hi hX (by omega) (nI_add i 4)) e1 (sg_L_law_815_0 _ _ (lgd (c := 1) hi hX (by omega) (nI_add i 1)) (lgd (c := 2) hi hX (by omega) (nI_add i 2)) (lgd (c := 3) hi hX (by omega) (nI_add i 3)) (lgd (c := 4) hi hX (by omega) (nI_add i 4)) e2 (sg_L_law_839_0 _ _ _ rfl k1)), k2⟩
theorem lw_c18 (hR : rAll d im tl I L) (hi : i + 5 < X.1) (hX : X.1 ≤ 3072) (K : ∀ (d : zD) (im : Option Nat) (tl : List zS) (I : zI) (L : zL), rAll d im tl I L → lwE X 18 (nI i + 6) im tl I L) : lwE X 844 (nI i) im tl I L := by
  obtain ⟨v, I1, L1, I2, L2, d2, e1, e2, h2⟩ := op_rateOf (X := X) hR (X.2 (nI i + 1).toNatClampNeg) (X.2 (nI i + 2).toNatClampNeg) (X.2 (nI i + 3).toNatClampNeg)
  obtain ⟨M', k1, k2⟩ := K d2 im tl I2 L2 h2
  exact ⟨M', sg_L_law_844_0 _ (lgd (c := 1) hi hX (by omega) (nI_add i 1)) (lgd (c := 2) hi hX (by omega) (nI_add i 2)) (lgd (c := 3) hi hX (by omega) (nI_add i 3)) e1 (sg_L_law_863_0 _ _ (lgd (c := 1) hi hX (by omega) (nI_add i 1)) (lgd (c := 2) hi hX (by omega) (nI_add i 2)) (lgd (c := 3) hi hX (by omega) (nI_add i 3)) e2 (sg_L_law_882_0 _ _ _ rfl k1)), k2⟩
theorem lw_c19 (hR : rAll d im tl I L) (hi : i + 5 < X.1) (hX : X.1 ≤ 3072) (K : ∀ (d : zD) (im : Option Nat) (tl : List zS) (I : zI) (L : zL), rAll d im tl I L → lwE X 18 (nI i + 6) im tl I L) : lwE X 887 (nI i) im tl I L := by
  obtain ⟨v, I1, L1, I2, L2, d2, e1, e2, h2⟩ := op_value (X := X) hR (X.2 (nI i + 1).toNatClampNeg) (X.2 (nI i + 2).toNatClampNeg) (X.2 (nI i + 3).toNatClampNeg)
  obtain ⟨M', k1, k2⟩ := K d2 im tl I2 L2 h2
  exact ⟨M', sg_L_law_887_0 _ (lgd (c := 1) hi hX (by omega) (nI_add i 1)) (lgd (c := 2) hi hX (by omega) (nI_add i 2)) (lgd (c := 3) hi hX (by omega) (nI_add i 3)) e1 (sg_L_law_906_0 _ _ (lgd (c := 1) hi hX (by omega) (nI_add i 1)) (lgd (c := 2) hi hX (by omega) (nI_add i 2)) (lgd (c := 3) hi hX (by omega) (nI_add i 3)) e2 (sg_L_law_925_0 _ _ _ ((lg_cmp_eq _ _).mpr rfl) k1)), k2⟩
theorem lw_c20 (hR : rAll d im tl I L) (hi : i + 5 < X.1) (hX : X.1 ≤ 3072) (K : ∀ (d : zD) (im : Option Nat) (tl : List zS) (I : zI) (L : zL), rAll d im tl I L → lwE X 18 (nI i + 6) im tl I L) : lwE X 931 (nI i) im tl I L := by
  obtain ⟨v, I1, L1, I2, L2, d2, e1, e2, h2⟩ := op_real (X := X) hR (X.2 (nI i + 1).toNatClampNeg) (X.2 (nI i + 2).toNatClampNeg) (X.2 (nI i + 3).toNatClampNeg)
  obtain ⟨M', k1, k2⟩ := K d2 im tl I2 L2 h2
  exact ⟨M', sg_L_law_931_0 _ (lgd (c := 1) hi hX (by omega) (nI_add i 1)) (lgd (c := 2) hi hX (by omega) (nI_add i 2)) (lgd (c := 3) hi hX (by omega) (nI_add i 3)) e1 (sg_L_law_950_0 _ _ (lgd (c := 1) hi hX (by omega) (nI_add i 1)) (lgd (c := 2) hi hX (by omega) (nI_add i 2)) (lgd (c := 3) hi hX (by omega) (nI_add i 3)) e2 (sg_L_law_969_0 _ _ _ rfl k1)), k2⟩
theorem lw_c21 (hR : rAll d im tl I L) (hi : i + 5 < X.1) (hX : X.1 ≤ 3072) (K : ∀ (d : zD) (im : Option Nat) (tl : List zS) (I : zI) (L : zL), rAll d im tl I L → lwE X 18 (nI i + 6) im tl I L) : lwE X 974 (nI i) im tl I L := by
  obtain ⟨v, I1, L1, I2, L2, d2, e1, e2, h2⟩ := op_gain (X := X) hR (X.2 (nI i + 1).toNatClampNeg) (X.2 (nI i + 2).toNatClampNeg) (X.2 (nI i + 3).toNatClampNeg) (X.2 (nI i + 4).toNatClampNeg) (X.2 (nI i + 5).toNatClampNeg)
  obtain ⟨M', k1, k2⟩ := K d2 im tl I2 L2 h2
  exact ⟨M', sg_L_law_974_0 _ (lgd (c := 1) hi hX (by omega) (nI_add i 1)) (lgd (c := 2) hi hX (by omega) (nI_add i 2)) (lgd (c := 3) hi hX (by omega) (nI_add i 3)) (lgd (c := 4) hi hX (by omega) (nI_add i 4)) (lgd (c := 5) hi hX (by omega) (nI_add i 5)) e1 (sg_L_law_1003_0 _ _ (lgd (c := 1) hi hX (by omega) (nI_add i 1)) (lgd (c := 2) hi hX (by omega) (nI_add i 2)) (lgd (c := 3) hi hX (by omega) (nI_add i 3)) (lgd (c := 4) hi hX (by omega) (nI_add i 4)) (lgd (c := 5) hi hX (by omega) (nI_add i 5)) e2 (sg_L_law_1032_0 _ _ _ ((lg_cmp_eq _ _).mpr rfl) k1)), k2⟩
theorem lw_c22 (hR : rAll d im tl I L) (hi : i + 5 < X.1) (hX : X.1 ≤ 3072) (K : ∀ (d : zD) (im : Option Nat) (tl : List zS) (I : zI) (L : zL), rAll d im tl I L → lwE X 18 (nI i + 6) im tl I L) : lwE X 1038 (nI i) im tl I L := by
  obtain ⟨v, I1, L1, I2, L2, d2, e1, e2, h2⟩ := op_line (X := X) hR (X.2 (nI i + 1).toNatClampNeg) (X.2 (nI i + 2).toNatClampNeg) (X.2 (nI i + 3).toNatClampNeg)
  obtain ⟨M', k1, k2⟩ := K d2 im tl I2 L2 h2
  exact ⟨M', sg_L_law_1038_0 _ (lgd (c := 1) hi hX (by omega) (nI_add i 1)) (lgd (c := 2) hi hX (by omega) (nI_add i 2)) (lgd (c := 3) hi hX (by omega) (nI_add i 3)) e1 (sg_L_law_1057_0 _ _ (lgd (c := 1) hi hX (by omega) (nI_add i 1)) (lgd (c := 2) hi hX (by omega) (nI_add i 2)) (lgd (c := 3) hi hX (by omega) (nI_add i 3)) e2 (sg_L_law_1076_0 _ _ _ ((lg_cmp_eq _ _).mpr rfl) k1)), k2⟩
theorem lw_c23 (hR : rAll d im tl I L) (hi : i + 5 < X.1) (hX : X.1 ≤ 3072) (K : ∀ (d : zD) (im : Option Nat) (tl : List zS) (I : zI) (L : zL), rAll d im tl I L → lwE X 18 (nI i + 6) im tl I L) : lwE X 1082 (nI i) im tl I L := by
  obtain ⟨v, I1, L1, I2, L2, d2, e1, e2, h2⟩ := op_trial (X := X) hR (X.2 (nI i + 1).toNatClampNeg) (X.2 (nI i + 2).toNatClampNeg) (X.2 (nI i + 3).toNatClampNeg)
  obtain ⟨M', k1, k2⟩ := K d2 im tl I2 L2 h2
  exact ⟨M', sg_L_law_1082_0 _ (lgd (c := 1) hi hX (by omega) (nI_add i 1)) (lgd (c := 2) hi hX (by omega) (nI_add i 2)) (lgd (c := 3) hi hX (by omega) (nI_add i 3)) e1 (sg_L_law_1101_0 _ _ (lgd (c := 1) hi hX (by omega) (nI_add i 1)) (lgd (c := 2) hi hX (by omega) (nI_add i 2)) (lgd (c := 3) hi hX (by omega) (nI_add i 3)) e2 (sg_L_law_1120_0 _ _ _ ((lg_cmp_eq _ _).mpr rfl) k1)), k2⟩
theorem lw_c24 (hR : rAll d im tl I L) (hi : i + 5 < X.1) (hX : X.1 ≤ 3072) (K : ∀ (d : zD) (im : Option Nat) (tl : List zS) (I : zI) (L : zL), rAll d im tl I L → lwE X 18 (nI i + 6) im tl I L) : lwE X 1126 (nI i) im tl I L := by
  obtain ⟨v, I1, L1, I2, L2, d2, e1, e2, h2⟩ := op_sorts (X := X) hR (X.2 (nI i + 1).toNatClampNeg) (X.2 (nI i + 2).toNatClampNeg)
  obtain ⟨M', k1, k2⟩ := K d2 im tl I2 L2 h2
  exact ⟨M', sg_L_law_1126_0 _ (lgd (c := 1) hi hX (by omega) (nI_add i 1)) (lgd (c := 2) hi hX (by omega) (nI_add i 2)) e1 (sg_L_law_1140_0 _ _ (lgd (c := 1) hi hX (by omega) (nI_add i 1)) (lgd (c := 2) hi hX (by omega) (nI_add i 2)) e2 (sg_L_law_1154_0 _ _ _ ((lg_cmp_eq _ _).mpr rfl) k1)), k2⟩
theorem lw_c25 (hR : rAll d im tl I L) (hi : i + 5 < X.1) (hX : X.1 ≤ 3072) (K : ∀ (d : zD) (im : Option Nat) (tl : List zS) (I : zI) (L : zL), rAll d im tl I L → lwE X 18 (nI i + 6) im tl I L) : lwE X 1160 (nI i) im tl I L := by
  obtain ⟨v, I1, L1, I2, L2, d2, e1, e2, h2⟩ := op_budget (X := X) hR (X.2 (nI i + 1).toNatClampNeg) (X.2 (nI i + 2).toNatClampNeg) ((((X.2 (nI i + 3).toNatClampNeg).toInt64) <<< ((32 : Int32).toInt64 &&& 63)) ||| (((X.2 (nI i + 4).toNatClampNeg).toInt64) &&& 4294967295))
  obtain ⟨M', k1, k2⟩ := K d2 im tl I2 L2 h2
  exact ⟨M', sg_L_law_1160_0 _ (lgd (c := 1) hi hX (by omega) (nI_add i 1)) (lgd (c := 2) hi hX (by omega) (nI_add i 2)) (lgd (c := 3) hi hX (by omega) (nI_add i 3)) (lgd (c := 4) hi hX (by omega) (nI_add i 4)) e1 (sg_L_law_1194_0 _ _ (lgd (c := 1) hi hX (by omega) (nI_add i 1)) (lgd (c := 2) hi hX (by omega) (nI_add i 2)) (lgd (c := 3) hi hX (by omega) (nI_add i 3)) (lgd (c := 4) hi hX (by omega) (nI_add i 4)) e2 (sg_L_law_1228_0 _ _ _ rfl k1)), k2⟩
theorem lw_c26 (hR : rAll d im tl I L) (hi : i + 5 < X.1) (hX : X.1 ≤ 3072) (K : ∀ (d : zD) (im : Option Nat) (tl : List zS) (I : zI) (L : zL), rAll d im tl I L → lwE X 18 (nI i + 6) im tl I L) : lwE X 1233 (nI i) im tl I L := by
  obtain ⟨v, I1, L1, I2, L2, d2, e1, e2, h2⟩ := op_left (X := X) hR (X.2 (nI i + 1).toNatClampNeg) (X.2 (nI i + 2).toNatClampNeg)
  obtain ⟨M', k1, k2⟩ := K d2 im tl I2 L2 h2
  exact ⟨M', sg_L_law_1233_0 _ (lgd (c := 1) hi hX (by omega) (nI_add i 1)) (lgd (c := 2) hi hX (by omega) (nI_add i 2)) e1 (sg_L_law_1247_0 _ _ (lgd (c := 1) hi hX (by omega) (nI_add i 1)) (lgd (c := 2) hi hX (by omega) (nI_add i 2)) e2 (sg_L_law_1261_0 _ _ _ ((lg_cmp_eq _ _).mpr rfl) k1)), k2⟩
theorem lw_c27 (hR : rAll d im tl I L) (hi : i + 5 < X.1) (hX : X.1 ≤ 3072) (K : ∀ (d : zD) (im : Option Nat) (tl : List zS) (I : zI) (L : zL), rAll d im tl I L → lwE X 18 (nI i + 6) im tl I L) : lwE X 1267 (nI i) im tl I L := by
  obtain ⟨v, I1, L1, I2, L2, d2, e1, e2, h2⟩ := op_extreme (X := X) hR (X.2 (nI i + 1).toNatClampNeg) (X.2 (nI i + 2).toNatClampNeg)
  obtain ⟨M', k1, k2⟩ := K d2 im tl I2 L2 h2
  exact ⟨M', sg_L_law_1267_0 _ (lgd (c := 1) hi hX (by omega) (nI_add i 1)) (lgd (c := 2) hi hX (by omega) (nI_add i 2)) e1 (sg_L_law_1281_0 _ _ (lgd (c := 1) hi hX (by omega) (nI_add i 1)) (lgd (c := 2) hi hX (by omega) (nI_add i 2)) e2 (sg_L_law_1295_0 _ _ _ rfl k1)), k2⟩
theorem lw_c28 (hR : rAll d im tl I L) (hi : i + 5 < X.1) (hX : X.1 ≤ 3072) (K : ∀ (d : zD) (im : Option Nat) (tl : List zS) (I : zI) (L : zL), rAll d im tl I L → lwE X 18 (nI i + 6) im tl I L) : lwE X 1300 (nI i) im tl I L := by
  obtain ⟨v, I1, L1, I2, L2, d2, e1, e2, h2⟩ := op_meet (X := X) hR (X.2 (nI i + 1).toNatClampNeg) (X.2 (nI i + 2).toNatClampNeg)
  obtain ⟨M', k1, k2⟩ := K d2 im tl I2 L2 h2
  exact ⟨M', sg_L_law_1300_0 _ (lgd (c := 1) hi hX (by omega) (nI_add i 1)) (lgd (c := 2) hi hX (by omega) (nI_add i 2)) e1 (sg_L_law_1314_0 _ _ (lgd (c := 1) hi hX (by omega) (nI_add i 1)) (lgd (c := 2) hi hX (by omega) (nI_add i 2)) e2 (sg_L_law_1328_0 _ _ _ rfl k1)), k2⟩
theorem lw_c29 (hR : rAll d im tl I L) (hi : i + 5 < X.1) (hX : X.1 ≤ 3072) (K : ∀ (d : zD) (im : Option Nat) (tl : List zS) (I : zI) (L : zL), rAll d im tl I L → lwE X 18 (nI i + 6) im tl I L) : lwE X 1333 (nI i) im tl I L := by
  obtain ⟨v, I1, L1, I2, L2, d2, e1, e2, h2⟩ := op_feed (X := X) hR (X.2 (nI i + 1).toNatClampNeg)
  obtain ⟨M', k1, k2⟩ := K d2 im tl I2 L2 h2
  exact ⟨M', sg_L_law_1333_0 _ (lgd (c := 1) hi hX (by omega) (nI_add i 1)) e1 (sg_L_law_1342_0 _ _ (lgd (c := 1) hi hX (by omega) (nI_add i 1)) e2 (sg_L_law_1351_0 _ _ _ rfl k1)), k2⟩
theorem lw_c30 (hR : rAll d im tl I L) (hi : i + 5 < X.1) (hX : X.1 ≤ 3072) (K : ∀ (d : zD) (im : Option Nat) (tl : List zS) (I : zI) (L : zL), rAll d im tl I L → lwE X 18 (nI i + 6) im tl I L) : lwE X 1356 (nI i) im tl I L := by
  obtain ⟨v, I1, L1, I2, L2, d2, e1, e2, h2⟩ := op_clear (X := X) hR 
  obtain ⟨M', k1, k2⟩ := K d2 im tl I2 L2 h2
  exact ⟨M', sg_L_law_1356_0 _  e1 (sg_L_law_1360_0 _ _  e2 (sg_L_law_1364_0 _ _ _ rfl k1)), k2⟩
theorem lw_c31 (hR : rAll d im tl I L) (hi : i + 5 < X.1) (hX : X.1 ≤ 3072) (K : ∀ (d : zD) (im : Option Nat) (tl : List zS) (I : zI) (L : zL), rAll d im tl I L → lwE X 18 (nI i + 6) im tl I L) : lwE X 1369 (nI i) im tl I L := by
  obtain ⟨v, I1, L1, I2, L2, d2, e1, e2, h2⟩ := op_read (X := X) hR 
  obtain ⟨M', k1, k2⟩ := K d2 im tl I2 L2 h2
  exact ⟨M', sg_L_law_1369_0 _  e1 (sg_L_law_1373_0 _ _  e2 (sg_L_law_1377_0 _ _ _ rfl k1)), k2⟩
theorem lw_c32 (hR : rAll d im tl I L) (hi : i + 5 < X.1) (hX : X.1 ≤ 3072) (K : ∀ (d : zD) (im : Option Nat) (tl : List zS) (I : zI) (L : zL), rAll d im tl I L → lwE X 18 (nI i + 6) im tl I L) : lwE X 1382 (nI i) im tl I L := by
  obtain ⟨v, I1, L1, I2, L2, d2, e1, e2, h2⟩ := op_spell (X := X) hR (X.2 (nI i + 1).toNatClampNeg)
  obtain ⟨M', k1, k2⟩ := K d2 im tl I2 L2 h2
  exact ⟨M', sg_L_law_1382_0 _ (lgd (c := 1) hi hX (by omega) (nI_add i 1)) e1 (sg_L_law_1391_0 _ _ (lgd (c := 1) hi hX (by omega) (nI_add i 1)) e2 (sg_L_law_1400_0 _ _ _ rfl k1)), k2⟩
theorem lw_c33 (hR : rAll d im tl I L) (hi : i + 5 < X.1) (hX : X.1 ≤ 3072) (K : ∀ (d : zD) (im : Option Nat) (tl : List zS) (I : zI) (L : zL), rAll d im tl I L → lwE X 18 (nI i + 6) im tl I L) : lwE X 1405 (nI i) im tl I L := by
  obtain ⟨v, I1, L1, I2, L2, d2, e1, e2, h2⟩ := op_paper (X := X) hR (X.2 (nI i + 1).toNatClampNeg)
  obtain ⟨M', k1, k2⟩ := K d2 im tl I2 L2 h2
  exact ⟨M', sg_L_law_1405_0 _ (lgd (c := 1) hi hX (by omega) (nI_add i 1)) e1 (sg_L_law_1414_0 _ _ (lgd (c := 1) hi hX (by omega) (nI_add i 1)) e2 (sg_L_law_1423_0 _ _ _ rfl k1)), k2⟩
theorem lw_c34 (hR : rAll d im tl I L) (hi : i + 5 < X.1) (hX : X.1 ≤ 3072) (K : ∀ (d : zD) (im : Option Nat) (tl : List zS) (I : zI) (L : zL), rAll d im tl I L → lwE X 18 (nI i + 6) im tl I L) : lwE X 1428 (nI i) im tl I L := by
  obtain ⟨v, I1, L1, I2, L2, d2, e1, e2, h2⟩ := op_told (X := X) hR (X.2 (nI i + 1).toNatClampNeg)
  obtain ⟨M', k1, k2⟩ := K d2 im tl I2 L2 h2
  exact ⟨M', sg_L_law_1428_0 _ (lgd (c := 1) hi hX (by omega) (nI_add i 1)) e1 (sg_L_law_1437_0 _ _ (lgd (c := 1) hi hX (by omega) (nI_add i 1)) e2 (sg_L_law_1446_0 _ _ _ rfl k1)), k2⟩
theorem lw_c35 (hR : rAll d im tl I L) (hi : i + 5 < X.1) (hX : X.1 ≤ 3072) (K : ∀ (d : zD) (im : Option Nat) (tl : List zS) (I : zI) (L : zL), rAll d im tl I L → lwE X 18 (nI i + 6) im tl I L) : lwE X 1451 (nI i) im tl I L := by
  obtain ⟨v, I1, L1, I2, L2, d2, e1, e2, h2⟩ := op_list (X := X) hR (X.2 (nI i + 1).toNatClampNeg) (X.2 (nI i + 2).toNatClampNeg)
  obtain ⟨M', k1, k2⟩ := K d2 im tl I2 L2 h2
  exact ⟨M', sg_L_law_1451_0 _ (lgd (c := 1) hi hX (by omega) (nI_add i 1)) (lgd (c := 2) hi hX (by omega) (nI_add i 2)) e1 (sg_L_law_1465_0 _ _ (lgd (c := 1) hi hX (by omega) (nI_add i 1)) (lgd (c := 2) hi hX (by omega) (nI_add i 2)) e2 (sg_L_law_1479_0 _ _ _ rfl k1)), k2⟩
theorem lw_c36 (hR : rAll d im tl I L) (hi : i + 5 < X.1) (hX : X.1 ≤ 3072) (K : ∀ (d : zD) (im : Option Nat) (tl : List zS) (I : zI) (L : zL), rAll d im tl I L → lwE X 18 (nI i + 6) im tl I L) : lwE X 1484 (nI i) im tl I L := by
  obtain ⟨v, I1, L1, I2, L2, d2, e1, e2, h2⟩ := op_set (X := X) hR (X.2 (nI i + 1).toNatClampNeg) (X.2 (nI i + 2).toNatClampNeg) ((((X.2 (nI i + 3).toNatClampNeg).toInt64) <<< ((32 : Int32).toInt64 &&& 63)) ||| (((X.2 (nI i + 4).toNatClampNeg).toInt64) &&& 4294967295))
  obtain ⟨M', k1, k2⟩ := K d2 im tl I2 L2 h2
  exact ⟨M', sg_L_law_1484_0 _ (lgd (c := 1) hi hX (by omega) (nI_add i 1)) (lgd (c := 2) hi hX (by omega) (nI_add i 2)) (lgd (c := 3) hi hX (by omega) (nI_add i 3)) (lgd (c := 4) hi hX (by omega) (nI_add i 4)) e1 (sg_L_law_1518_0 _ _ (lgd (c := 1) hi hX (by omega) (nI_add i 1)) (lgd (c := 2) hi hX (by omega) (nI_add i 2)) (lgd (c := 3) hi hX (by omega) (nI_add i 3)) (lgd (c := 4) hi hX (by omega) (nI_add i 4)) e2 (sg_L_law_1552_0 _ _ _ rfl k1)), k2⟩
theorem lw_c37 (hR : rAll d im tl I L) (hi : i + 5 < X.1) (hX : X.1 ≤ 3072) (K : ∀ (d : zD) (im : Option Nat) (tl : List zS) (I : zI) (L : zL), rAll d im tl I L → lwE X 18 (nI i + 6) im tl I L) : lwE X 1557 (nI i) im tl I L := by
  obtain ⟨v, I1, L1, I2, L2, d2, e1, e2, h2⟩ := op_get (X := X) hR (X.2 (nI i + 1).toNatClampNeg) (X.2 (nI i + 2).toNatClampNeg)
  obtain ⟨M', k1, k2⟩ := K d2 im tl I2 L2 h2
  exact ⟨M', sg_L_law_1557_0 _ (lgd (c := 1) hi hX (by omega) (nI_add i 1)) (lgd (c := 2) hi hX (by omega) (nI_add i 2)) e1 (sg_L_law_1571_0 _ _ (lgd (c := 1) hi hX (by omega) (nI_add i 1)) (lgd (c := 2) hi hX (by omega) (nI_add i 2)) e2 (sg_L_law_1585_0 _ _ _ ((lg_cmp_eq _ _).mpr rfl) k1)), k2⟩
theorem lw_c38 (hR : rAll d im tl I L) (hi : i + 5 < X.1) (hX : X.1 ≤ 3072) (K : ∀ (d : zD) (im : Option Nat) (tl : List zS) (I : zI) (L : zL), rAll d im tl I L → lwE X 18 (nI i + 6) im tl I L) : lwE X 1591 (nI i) im tl I L := by
  obtain ⟨v, I1, L1, I2, L2, d2, e1, e2, h2⟩ := op_lay (X := X) hR (X.2 (nI i + 1).toNatClampNeg) (X.2 (nI i + 2).toNatClampNeg)
  obtain ⟨M', k1, k2⟩ := K d2 im tl I2 L2 h2
  exact ⟨M', sg_L_law_1591_0 _ (lgd (c := 1) hi hX (by omega) (nI_add i 1)) (lgd (c := 2) hi hX (by omega) (nI_add i 2)) e1 (sg_L_law_1605_0 _ _ (lgd (c := 1) hi hX (by omega) (nI_add i 1)) (lgd (c := 2) hi hX (by omega) (nI_add i 2)) e2 (sg_L_law_1619_0 _ _ _ rfl k1)), k2⟩
theorem lw_c39 (hR : rAll d im tl I L) (hi : i + 5 < X.1) (hX : X.1 ≤ 3072) (K : ∀ (d : zD) (im : Option Nat) (tl : List zS) (I : zI) (L : zL), rAll d im tl I L → lwE X 18 (nI i + 6) im tl I L) : lwE X 1624 (nI i) im tl I L := by
  obtain ⟨v, I1, L1, I2, L2, d2, e1, e2, h2⟩ := op_judge (X := X) hR (X.2 (nI i + 1).toNatClampNeg) (X.2 (nI i + 2).toNatClampNeg)
  obtain ⟨M', k1, k2⟩ := K d2 im tl I2 L2 h2
  exact ⟨M', sg_L_law_1624_0 _ (lgd (c := 1) hi hX (by omega) (nI_add i 1)) (lgd (c := 2) hi hX (by omega) (nI_add i 2)) e1 (sg_L_law_1638_0 _ _ (lgd (c := 1) hi hX (by omega) (nI_add i 1)) (lgd (c := 2) hi hX (by omega) (nI_add i 2)) e2 (sg_L_law_1652_0 _ _ _ rfl k1)), k2⟩
theorem lw_c40 (hR : rAll d im tl I L) (hi : i + 5 < X.1) (hX : X.1 ≤ 3072) (K : ∀ (d : zD) (im : Option Nat) (tl : List zS) (I : zI) (L : zL), rAll d im tl I L → lwE X 18 (nI i + 6) im tl I L) : lwE X 1657 (nI i) im tl I L := by
  obtain ⟨v, im2, tl2, I1, L1, I2, L2, d2, e1, e2, h2⟩ := op_image (X := X) hR 
  obtain ⟨M', k1, k2⟩ := K d2 im2 tl2 I2 L2 h2
  exact ⟨M', sg_L_law_1657_0 _  e1 (sg_L_law_1661_0 _ _  e2 (sg_L_law_1665_0 _ _ _ rfl k1)), k2⟩
theorem lw_c41 (hR : rAll d im tl I L) (hi : i + 5 < X.1) (hX : X.1 ≤ 3072) (K : ∀ (d : zD) (im : Option Nat) (tl : List zS) (I : zI) (L : zL), rAll d im tl I L → lwE X 18 (nI i + 6) im tl I L) : lwE X 1670 (nI i) im tl I L := by
  obtain ⟨v, I1, L1, I2, L2, d2, e1, e2, h2⟩ := op_undo (X := X) hR 
  obtain ⟨M', k1, k2⟩ := K d2 im tl I2 L2 h2
  exact ⟨M', sg_L_law_1670_0 _  e1 (sg_L_law_1674_0 _ _  e2 (sg_L_law_1678_0 _ _ _ rfl k1)), k2⟩
theorem lw_pre {r : Option Value × zM} (v3 : Int32) (h1 : ¬ (((Int32.ofNat X.1) - 6) < v3)) (h2 : ¬ (v3 < 0 ∨ X.1 ≤ v3.toNatClampNeg)) (K : zEv X mt_L_law 33 [.retAddr 2, .ref 0, .ref 39, .int v3] [.int ((X.2 v3.toNatClampNeg) &&& 63)] (zSH im tl, I, L) r) : zEv X mt_L_law 18 [.retAddr 2, .ref 0, .ref 39, .int v3] [] (zSH im tl, I, L) r :=
  ev_go 6 (if ((Int32.ofNat X.1) - 6) < v3 then 1689 else 27) [.retAddr 2, .ref 0, .ref 39, .int v3] [] (zSH im tl, I, L) rfl (ev_nif h1 (ev_go 3 (if v3 < 0 ∨ X.1 ≤ v3.toNatClampNeg then 65535 else 30) [.retAddr 2, .ref 0, .ref 39, .int v3] [.int (X.2 v3.toNatClampNeg)] (zSH im tl, I, L) rfl (ev_nif h2 (ev_go 2 33 [.retAddr 2, .ref 0, .ref 39, .int v3] [.int ((X.2 v3.toNatClampNeg) &&& 63)] (zSH im tl, I, L) rfl (K)))))
theorem lw_out (hR : rAll d im tl I L) (hX : X.1 ≤ 3072) (hi : X.1 < i + 6) (hi2 : i < 10000) : lwE X 18 (nI i) im tl I L := by
  refine ⟨_, sg_L_law_18_0 _ ?_, ?_⟩
  · rw [Int32.lt_iff_toInt_lt, nI_toInt (by omega), show (Int32.ofNat X.1 - 6 : Int32) = nI X.1 - nI 6 from rfl, pk_sub_toInt (by omega) (by omega)]
    omega
  · rcases hR.2.i with ⟨rfl, rfl, -⟩ | ⟨rfl, rfl, -, -⟩
    · exact ⟨(by decide +kernel : (zSH none []).length ≤ 600000), (by decide +kernel : zsize (zSH none []) ≤ 7302250)⟩
    · exact ⟨(by decide +kernel : (zSH (some 51) zTL).length ≤ 600000), (by decide +kernel : zsize (zSH (some 51) zTL) ≤ 7302250)⟩
theorem lw_one (hR : rAll d im tl I L) (hi : i + 5 < X.1) (hX : X.1 ≤ 3072) (K : ∀ (d : zD) (im : Option Nat) (tl : List zS) (I : zI) (L : zL), rAll d im tl I L → lwE X 18 (nI i + 6) im tl I L) : lwE X 18 (nI i) im tl I L := by
  have h1 : ¬ (Int32.ofNat X.1 - 6 : Int32) < nI i := by
    rw [Int32.lt_iff_toInt_lt, nI_toInt (by omega), show (Int32.ofNat X.1 - 6 : Int32) = nI X.1 - nI 6 from rfl, pk_sub_toInt (by omega) (by omega)]
    omega
  have h2 : ¬ (nI i < 0 ∨ X.1 ≤ (nI i).toNatClampNeg) := k_in rfl (by omega) (by omega)
  generalize hx : X.2 (nI i).toNatClampNeg &&& 63 = x
  have pre : ∀ {r}, zEv X mt_L_law 33 [.retAddr 2, .ref 0, .ref 39, .int (nI i)] [.int x] (zSH im tl, I, L) r → zEv X mt_L_law 18 [.retAddr 2, .ref 0, .ref 39, .int (nI i)] [] (zSH im tl, I, L) r := fun k => lw_pre _ h1 h2 (by rw [hx]; exact k)
  by_cases hd : x.toInt < 0 ∨ 41 < x.toInt
  · obtain ⟨M', k1, k2⟩ := K d im tl I L hR
    exact ⟨M', pre (ev_swd rfl hd (sg_L_law_1683_0 _ k1)), k2⟩
  by_cases q0 : x = 0
  · obtain ⟨M', k1, k2⟩ := lw_c0 hR hi hX K
    exact ⟨M', pre (ev_swi rfl q0 rfl k1), k2⟩
  by_cases q1 : x = 1
  · obtain ⟨M', k1, k2⟩ := lw_c1 hR hi hX K
    exact ⟨M', pre (ev_swi rfl q1 rfl k1), k2⟩
  by_cases q2 : x = 2
  · obtain ⟨M', k1, k2⟩ := lw_c2 hR hi hX K
    exact ⟨M', pre (ev_swi rfl q2 rfl k1), k2⟩
  by_cases q3 : x = 3
  · obtain ⟨M', k1, k2⟩ := lw_c3 hR hi hX K
    exact ⟨M', pre (ev_swi rfl q3 rfl k1), k2⟩
  by_cases q4 : x = 4
  · obtain ⟨M', k1, k2⟩ := lw_c4 hR hi hX K
    exact ⟨M', pre (ev_swi rfl q4 rfl k1), k2⟩
  by_cases q5 : x = 5
  · obtain ⟨M', k1, k2⟩ := lw_c5 hR hi hX K
    exact ⟨M', pre (ev_swi rfl q5 rfl k1), k2⟩
  by_cases q6 : x = 6
  · obtain ⟨M', k1, k2⟩ := lw_c6 hR hi hX K
    exact ⟨M', pre (ev_swi rfl q6 rfl k1), k2⟩
  by_cases q7 : x = 7
  · obtain ⟨M', k1, k2⟩ := lw_c7 hR hi hX K
    exact ⟨M', pre (ev_swi rfl q7 rfl k1), k2⟩
  by_cases q8 : x = 8
  · obtain ⟨M', k1, k2⟩ := lw_c8 hR hi hX K
    exact ⟨M', pre (ev_swi rfl q8 rfl k1), k2⟩
  by_cases q9 : x = 9
  · obtain ⟨M', k1, k2⟩ := lw_c9 hR hi hX K
    exact ⟨M', pre (ev_swi rfl q9 rfl k1), k2⟩
  by_cases q10 : x = 10
  · obtain ⟨M', k1, k2⟩ := lw_c10 hR hi hX K
    exact ⟨M', pre (ev_swi rfl q10 rfl k1), k2⟩
  by_cases q11 : x = 11
  · obtain ⟨M', k1, k2⟩ := lw_c11 hR hi hX K
    exact ⟨M', pre (ev_swi rfl q11 rfl k1), k2⟩
  by_cases q12 : x = 12
  · obtain ⟨M', k1, k2⟩ := lw_c12 hR hi hX K
    exact ⟨M', pre (ev_swi rfl q12 rfl k1), k2⟩
  by_cases q13 : x = 13
  · obtain ⟨M', k1, k2⟩ := lw_c13 hR hi hX K
    exact ⟨M', pre (ev_swi rfl q13 rfl k1), k2⟩
  by_cases q14 : x = 14
  · obtain ⟨M', k1, k2⟩ := lw_c14 hR hi hX K
    exact ⟨M', pre (ev_swi rfl q14 rfl k1), k2⟩
  by_cases q15 : x = 15
  · obtain ⟨M', k1, k2⟩ := lw_c15 hR hi hX K
    exact ⟨M', pre (ev_swi rfl q15 rfl k1), k2⟩
  by_cases q16 : x = 16
  · obtain ⟨M', k1, k2⟩ := lw_c16 hR hi hX K
    exact ⟨M', pre (ev_swi rfl q16 rfl k1), k2⟩
  by_cases q17 : x = 17
  · obtain ⟨M', k1, k2⟩ := lw_c17 hR hi hX K
    exact ⟨M', pre (ev_swi rfl q17 rfl k1), k2⟩
  by_cases q18 : x = 18
  · obtain ⟨M', k1, k2⟩ := lw_c18 hR hi hX K
    exact ⟨M', pre (ev_swi rfl q18 rfl k1), k2⟩
  by_cases q19 : x = 19
  · obtain ⟨M', k1, k2⟩ := lw_c19 hR hi hX K
    exact ⟨M', pre (ev_swi rfl q19 rfl k1), k2⟩
  by_cases q20 : x = 20
  · obtain ⟨M', k1, k2⟩ := lw_c20 hR hi hX K
    exact ⟨M', pre (ev_swi rfl q20 rfl k1), k2⟩
  by_cases q21 : x = 21
  · obtain ⟨M', k1, k2⟩ := lw_c21 hR hi hX K
    exact ⟨M', pre (ev_swi rfl q21 rfl k1), k2⟩
  by_cases q22 : x = 22
  · obtain ⟨M', k1, k2⟩ := lw_c22 hR hi hX K
    exact ⟨M', pre (ev_swi rfl q22 rfl k1), k2⟩
  by_cases q23 : x = 23
  · obtain ⟨M', k1, k2⟩ := lw_c23 hR hi hX K
    exact ⟨M', pre (ev_swi rfl q23 rfl k1), k2⟩
  by_cases q24 : x = 24
  · obtain ⟨M', k1, k2⟩ := lw_c24 hR hi hX K
    exact ⟨M', pre (ev_swi rfl q24 rfl k1), k2⟩
  by_cases q25 : x = 25
  · obtain ⟨M', k1, k2⟩ := lw_c25 hR hi hX K
    exact ⟨M', pre (ev_swi rfl q25 rfl k1), k2⟩
  by_cases q26 : x = 26
  · obtain ⟨M', k1, k2⟩ := lw_c26 hR hi hX K
    exact ⟨M', pre (ev_swi rfl q26 rfl k1), k2⟩
  by_cases q27 : x = 27
  · obtain ⟨M', k1, k2⟩ := lw_c27 hR hi hX K
    exact ⟨M', pre (ev_swi rfl q27 rfl k1), k2⟩
  by_cases q28 : x = 28
  · obtain ⟨M', k1, k2⟩ := lw_c28 hR hi hX K
    exact ⟨M', pre (ev_swi rfl q28 rfl k1), k2⟩
  by_cases q29 : x = 29
  · obtain ⟨M', k1, k2⟩ := lw_c29 hR hi hX K
    exact ⟨M', pre (ev_swi rfl q29 rfl k1), k2⟩
  by_cases q30 : x = 30
  · obtain ⟨M', k1, k2⟩ := lw_c30 hR hi hX K
    exact ⟨M', pre (ev_swi rfl q30 rfl k1), k2⟩
  by_cases q31 : x = 31
  · obtain ⟨M', k1, k2⟩ := lw_c31 hR hi hX K
    exact ⟨M', pre (ev_swi rfl q31 rfl k1), k2⟩
  by_cases q32 : x = 32
  · obtain ⟨M', k1, k2⟩ := lw_c32 hR hi hX K
    exact ⟨M', pre (ev_swi rfl q32 rfl k1), k2⟩
  by_cases q33 : x = 33
  · obtain ⟨M', k1, k2⟩ := lw_c33 hR hi hX K
    exact ⟨M', pre (ev_swi rfl q33 rfl k1), k2⟩
  by_cases q34 : x = 34
  · obtain ⟨M', k1, k2⟩ := lw_c34 hR hi hX K
    exact ⟨M', pre (ev_swi rfl q34 rfl k1), k2⟩
  by_cases q35 : x = 35
  · obtain ⟨M', k1, k2⟩ := lw_c35 hR hi hX K
    exact ⟨M', pre (ev_swi rfl q35 rfl k1), k2⟩
  by_cases q36 : x = 36
  · obtain ⟨M', k1, k2⟩ := lw_c36 hR hi hX K
    exact ⟨M', pre (ev_swi rfl q36 rfl k1), k2⟩
  by_cases q37 : x = 37
  · obtain ⟨M', k1, k2⟩ := lw_c37 hR hi hX K
    exact ⟨M', pre (ev_swi rfl q37 rfl k1), k2⟩
  by_cases q38 : x = 38
  · obtain ⟨M', k1, k2⟩ := lw_c38 hR hi hX K
    exact ⟨M', pre (ev_swi rfl q38 rfl k1), k2⟩
  by_cases q39 : x = 39
  · obtain ⟨M', k1, k2⟩ := lw_c39 hR hi hX K
    exact ⟨M', pre (ev_swi rfl q39 rfl k1), k2⟩
  by_cases q40 : x = 40
  · obtain ⟨M', k1, k2⟩ := lw_c40 hR hi hX K
    exact ⟨M', pre (ev_swi rfl q40 rfl k1), k2⟩
  by_cases q41 : x = 41
  · obtain ⟨M', k1, k2⟩ := lw_c41 hR hi hX K
    exact ⟨M', pre (ev_swi rfl q41 rfl k1), k2⟩
  exact absurd (by
    have e0 := lv_neT q0 (a := 0) (by decide)
    have e1 := lv_neT q1 (a := 1) (by decide)
    have e2 := lv_neT q2 (a := 2) (by decide)
    have e3 := lv_neT q3 (a := 3) (by decide)
    have e4 := lv_neT q4 (a := 4) (by decide)
    have e5 := lv_neT q5 (a := 5) (by decide)
    have e6 := lv_neT q6 (a := 6) (by decide)
    have e7 := lv_neT q7 (a := 7) (by decide)
    have e8 := lv_neT q8 (a := 8) (by decide)
    have e9 := lv_neT q9 (a := 9) (by decide)
    have e10 := lv_neT q10 (a := 10) (by decide)
    have e11 := lv_neT q11 (a := 11) (by decide)
    have e12 := lv_neT q12 (a := 12) (by decide)
    have e13 := lv_neT q13 (a := 13) (by decide)
    have e14 := lv_neT q14 (a := 14) (by decide)
    have e15 := lv_neT q15 (a := 15) (by decide)
    have e16 := lv_neT q16 (a := 16) (by decide)
    have e17 := lv_neT q17 (a := 17) (by decide)
    have e18 := lv_neT q18 (a := 18) (by decide)
    have e19 := lv_neT q19 (a := 19) (by decide)
    have e20 := lv_neT q20 (a := 20) (by decide)
    have e21 := lv_neT q21 (a := 21) (by decide)
    have e22 := lv_neT q22 (a := 22) (by decide)
    have e23 := lv_neT q23 (a := 23) (by decide)
    have e24 := lv_neT q24 (a := 24) (by decide)
    have e25 := lv_neT q25 (a := 25) (by decide)
    have e26 := lv_neT q26 (a := 26) (by decide)
    have e27 := lv_neT q27 (a := 27) (by decide)
    have e28 := lv_neT q28 (a := 28) (by decide)
    have e29 := lv_neT q29 (a := 29) (by decide)
    have e30 := lv_neT q30 (a := 30) (by decide)
    have e31 := lv_neT q31 (a := 31) (by decide)
    have e32 := lv_neT q32 (a := 32) (by decide)
    have e33 := lv_neT q33 (a := 33) (by decide)
    have e34 := lv_neT q34 (a := 34) (by decide)
    have e35 := lv_neT q35 (a := 35) (by decide)
    have e36 := lv_neT q36 (a := 36) (by decide)
    have e37 := lv_neT q37 (a := 37) (by decide)
    have e38 := lv_neT q38 (a := 38) (by decide)
    have e39 := lv_neT q39 (a := 39) (by decide)
    have e40 := lv_neT q40 (a := 40) (by decide)
    have e41 := lv_neT q41 (a := 41) (by decide)
    omega) hd
theorem lw_loop (hX : X.1 ≤ 3072) : ∀ (f i : Nat), X.1 < i + 6 + 6 * f → i < 4000 → ∀ (d : zD) (im : Option Nat) (tl : List zS) (I : zI) (L : zL), rAll d im tl I L → lwE X 18 (nI i) im tl I L := by
  intro f
  induction f with
  | zero =>
    intro i h hi d im tl I L hR
    exact lw_out hR hX (by omega) (by omega)
  | succ f ih =>
    intro i h hi d im tl I L hR
    by_cases hl : i + 5 < X.1
    · refine lw_one hR hl hX (fun d im tl I L hR => ?_)
      rw [show nI i + 6 = nI (i + 6) from nI_add i 6]
      exact ih (i + 6) (by omega) (by omega) d im tl I L hR
    · exact lw_out hR hX (by omega) (by omega)
end LW2
def bx (I : zI) : zI := va_up (va_up (va_up (va_up (va_up (va_up (va_up (va_up (va_up (va_up (va_up (va_up (va_up (va_up (va_up (va_up (va_up (va_up (va_up (va_up (va_up (va_up (va_up (va_up (va_up (va_up (va_up (va_up (va_up (va_up (va_up (va_up (va_up (va_up (va_up (va_up (va_up (va_up (va_up (va_up (va_up (va_up (va_up (va_up (va_up (va_up (va_up (va_up (va_up (va_up (va_up (va_up (va_up (va_up I 1 (fun _ => 0)) 2 (fun _ => 0)) 2 (upd (fun _ => 0) 0 1)) 3 (fun _ => 0)) 4 (fun _ => 0)) 5 (fun _ => 0)) 6 (fun _ => 0)) 7 (fun _ => 0)) 8 (fun _ => 0)) 3 (upd (fun _ => 0) 0 (-5))) 5 (upd (fun _ => 0) 0 (-5))) 9 (fun _ => 0)) 9 (upd (fun _ => 0) 0 0)) 10 (fun _ => 0)) 11 (fun _ => 0)) 12 (fun _ => 0)) 13 (fun _ => 0)) 14 (fun _ => 0)) 15 (fun _ => 0)) 16 (fun _ => 0)) 17 (fun _ => 0)) 18 (fun _ => 0)) 19 (fun _ => 0)) 20 (fun _ => 0)) 21 (fun _ => 0)) 21 (upd (fun _ => 0) 0 0)) 22 (fun _ => 0)) 23 (fun _ => 0)) 24 (fun _ => 0)) 24 (upd (fun _ => 0) 0 0)) 25 (fun _ => 0)) 26 (fun _ => 0)) 1 (upd (fun _ => 0) 5 0)) 1 (upd (upd (fun _ => 0) 5 0) 6 0)) 1 (upd (upd (upd (fun _ => 0) 5 0) 6 0) 7 0)) 27 (fun _ => 0)) 28 (fun _ => 0)) 28 (upd (fun _ => 0) 0 0)) 29 (fun _ => 0)) 30 (fun _ => 0)) 31 (fun _ => 0)) 31 (upd (fun _ => 0) 0 0)) 31 (upd (upd (fun _ => 0) 0 0) 1 0)) 31 (upd (upd (upd (fun _ => 0) 0 0) 1 0) 2 (-5))) 31 (upd (upd (upd (upd (fun _ => 0) 0 0) 1 0) 2 (-5)) 3 0)) 32 (fun _ => 0)) 33 (fun _ => 0)) 33 (upd (fun _ => 0) 0 0)) 34 (fun _ => 0)) 35 (fun _ => 0)) 36 (fun _ => 0)) 37 (fun _ => 0)) 36 (flI (-5) 4 0 (fun _ => 0))) 38 (fun _ => 0)
def bxL (L : zL) : zL := va_up (va_up (va_up (va_up (va_up (va_up (va_up (va_up (va_up (va_up (va_up (va_up (va_up (va_up (va_up (va_up (va_up (va_up (va_up (va_up (va_up (va_up (va_up (va_up (va_up (va_up (va_up (va_up (va_up (va_up (va_up (va_up (va_up (va_up (va_up (va_up (va_up (va_up (va_up (va_up (va_up (va_up L 1 (fun _ => 0)) 2 (fun _ => 0)) 3 (fun _ => 0)) 4 (fun _ => 0)) 5 (fun _ => 0)) 6 (fun _ => 0)) 7 (fun _ => 0)) 8 (fun _ => 0)) 6 (fl (-9223372036854775808) 30 0 (fun _ => 0))) 7 (fl 9223372036854775807 30 0 (fun _ => 0))) 9 (fun _ => 0)) 10 (fun _ => 0)) 11 (fun _ => 0)) 12 (fun _ => 0)) 13 (fun _ => 0)) 14 (fun _ => 0)) 15 (fun _ => 0)) 16 (fun _ => 0)) 17 (fun _ => 0)) 18 (fun _ => 0)) 19 (fun _ => 0)) 20 (fun _ => 0)) 21 (fun _ => 0)) 22 (fun _ => 0)) 23 (fun _ => 0)) 24 (fun _ => 0)) 25 (fun _ => 0)) 26 (fun _ => 0)) 27 (fun _ => 0)) 28 (fun _ => 0)) 29 (fun _ => 0)) 30 (fun _ => 0)) 31 (fun _ => 0)) 32 (fun _ => 0)) 33 (fun _ => 0)) 34 (fun _ => 0)) 35 (fun _ => 0)) 36 (fun _ => 0)) 37 (fun _ => 0)) 38 (fun _ => 0)) 38 (vp_updL (fun _ => 0) 0 0)) 38 (vp_updL (vp_updL (fun _ => 0) 0 0) 1 1)
def bm (I : zI) : zI := va_up (va_up (va_up (va_up (va_up (va_up (va_up (va_up (va_up (va_up (va_up (va_up (va_up I 40 (fun _ => 0)) 41 (fun _ => 0)) 42 (fun _ => 0)) 43 (fun _ => 0)) 44 (fun _ => 0)) 45 (fun _ => 0)) 46 (fun _ => 0)) 47 (fun _ => 0)) 48 (fun _ => 0)) 49 (fun _ => 0)) 50 (fun _ => 0)) 40 (upd (fun _ => 0) 3 (-1))) 40 (ct_n0)
def bmL (L : zL) : zL := va_up (va_up (va_up (va_up (va_up (va_up (va_up (va_up (va_up (va_up (va_up (va_up L 40 (fun _ => 0)) 41 (fun _ => 0)) 42 (fun _ => 0)) 43 (fun _ => 0)) 44 (fun _ => 0)) 45 (fun _ => 0)) 46 (fun _ => 0)) 47 (fun _ => 0)) 48 (fun _ => 0)) 49 (fun _ => 0)) 50 (fun _ => 0)) 41 (ct_l0)
def b0I : zI := bm (va_up (bx (va_up (fun _ _ => 0) 0 (fun _ => 0))) 39 (fun _ => 0))
def b0L : zL := bmL (va_up (bxL (va_up (fun _ _ => 0) 0 (fun _ => 0))) 39 (fun _ => 0))
theorem b_start {X : zSc} {r : Option Value × zM} (K : zEv X mt_L_law 18 [.retAddr 2, .ref 0, .ref 39, .int (nI 0)] [] (zSH none [], b0I, b0L) r) : zEv X mt_L_law 0 (zent 4 [.retAddr 2]) [] ([], fun _ _ => 0, fun _ _ => 0) r :=
  ev_go 2 4 [.retAddr 2, .null, .null, .null] [.ref 0, .ref 0] (zs_2, va_up (fun _ _ => 0) 0 (fun _ => 0), va_up (fun _ _ => 0) 0 (fun _ => 0)) rfl (ev_call mt_X10_init [.ref 0] 7 [.ref 0] [.ref 0] rfl rfl ct_X10_init_0 (ev_go 3 12 [.retAddr 2, .ref 0, .null, .null] [.ref 39, .ref 39] (zs_53, va_up (bx (va_up (fun _ _ => 0) 0 (fun _ => 0))) 39 (fun _ => 0), va_up (bxL (va_up (fun _ _ => 0) 0 (fun _ => 0))) 39 (fun _ => 0)) rfl (ev_call mt_X11_init [.ref 39] 15 [.ref 39] [.ref 39] rfl rfl ct_X11_init_39 (ev_go 3 18 [.retAddr 2, .ref 0, .ref 39, .int (nI 0)] [] (zSH none [], b0I, b0L) rfl K))))
def b0d : zD := (1, 0, 0, 0, 0, 0, (fun _ => 0), (fun _ => 0), (fun _ => 0), (fun _ => 0), (fun _ => 0), none)
theorem b_all : rAll b0d none [] b0I b0L := by
  refine ⟨RB.mk ?_ ?_ ?_ ?_ ?_ ?_, ⟨0, RT.mk (by omega) rfl rfl (fun k hk => by omega)⟩, ⟨0, RP.mk (by omega) rfl rfl (fun k hk => by omega)⟩, ?_, Or.inl ⟨rfl, rfl, rfl⟩⟩
  · refine RA.mk (by decide) (by decide) rfl rfl (fun k h1 (h2 : k < 1) => by omega) (fun k h1 (h2 : k < 1) => by omega) rfl rfl (fun k (h2 : k < 1) => ?_) (fun k h1 (h2 : k < 1) => by omega) rfl (fun k (h2 : k < 1) => ?_) (fun k (h2 : k < 1) => ?_) (fun k _ h2 => ?_) (fun k h2 => ?_)
    · obtain rfl : k = 0 := by omega
      rfl
    · obtain rfl : k = 0 := by omega
      exact (fl_in (-9223372036854775808) 30 0 (fun _ => 0) 0 (by omega) (by omega)).symm
    · obtain rfl : k = 0 := by omega
      exact (fl_in 9223372036854775807 30 0 (fun _ => 0) 0 (by omega) (by omega)).symm
    · exact ⟨fl_in (-9223372036854775808) 30 0 (fun _ => 0) k (by omega) (by omega), fl_in 9223372036854775807 30 0 (fun _ => 0) k (by omega) (by omega)⟩
    · show ct_l0 (680 + k) = 0
      unfold ct_l0
      rw [pk_uLn (by omega), pk_uLn (by omega)]
  · exact RJ.mk (by decide) rfl rfl rfl rfl (fun j (hj : j < 0) => by omega) rfl (fun j (hj : j < 0) => by omega) (fun j (hj : j < 0) => by omega) (fun j (hj : j < 0) => by omega) (fun j (hj : j < 0) => by omega) (fun j (hj : j < 0) => by omega) (fun j (hj : j < 0) => by omega) (fun j (hj : j < 0) => by omega) (fun j (hj : j < 0) => by omega) (fun j (hj : j < 0) => by omega) (fun j (hj : j < 0) => by omega)
  · refine RO.mk (fun _ => ⟨rfl, rfl⟩) (fun q e => ?_) (fun q e i hi => ?_) (fun q e i hi => ?_)
    · exact absurd (show (none : Option Nat) = some q from e) (by simp)
    · exact absurd (show (none : Option Nat) = some q from e) (by simp)
    · exact absurd (show (none : Option Nat) = some q from e) (by simp)
  · exact RD.mk (by decide) (by decide) rfl rfl rfl rfl (fun k (hk : k < 0) => by omega)
  · exact RC.mk (by decide) rfl rfl (fun k (hk : k < 0) => by omega) (fun k (hk : k < 0) => by omega)
  · refine RR.mk (fun c hc => ⟨Nat.zero_le 20, rfl⟩) (fun c hc => ?_) (fun c hc k (hk : k < 0) => by omega) (fun c hc k (hk : k < 0) => by omega) (fun c hc k (hk : k < 0) => by omega) rfl
    show ct_n0 (1020 + c) = nI 0
    unfold ct_n0
    rw [pk_un (by omega), pk_un (by omega), pk_un (by omega), pk_un (by omega), pk_un (by omega)]
    rfl
  · refine RL.mk (fun i hi => Or.inl ?_)
    match i, hi with
    | 0, _ => exact ⟨rfl, rfl⟩
    | 1, _ => exact ⟨rfl, rfl⟩
    | 2, _ => exact ⟨rfl, rfl⟩
    | 3, _ => exact ⟨rfl, rfl⟩
theorem law_ev (X : zSc) (hX : X.1 ≤ 3072) : ∃ M' : zM, zEv X mt_L_law 0 (zent 4 [.retAddr 2]) [] ([], fun _ _ => 0, fun _ _ => 0) (some (.int 1), M') ∧ M'.1.length ≤ 600000 ∧ zsize M'.1 ≤ 7302250 := by
  obtain ⟨M', k1, k2⟩ := lw_loop (X := X) hX 600 0 (by omega) (by omega) b0d none [] b0I b0L b_all
  exact ⟨M', b_start k1, k2⟩
