section SP
variable {X : zSc} {im : Option Nat} {tl : List zS} {I J : zI} {L K : zL} {R : Nat → Int32} {d : zD}
/-- a journal's letters, posting by posting -/
def pl (I : zI) (j i : Nat) : List Nat := (if i = 0 then [] else [59]) ++ (nl (I 14 (10 * j + i)) ++ ([32] ++ nl (I 15 (10 * j + i))))
def tx (I : zI) (j : Nat) : Nat → List Nat
  | 0 => []
  | i + 1 => tx I j i ++ pl I j i
def rvl (v : Int32) : List Nat := if v = -5 then [] else [32] ++ ([82] ++ ([69] ++ ([86] ++ nl v)))
theorem tx_len (hJ : rJ d I J K) (hA : d.nA ≤ 30) {j : Nat} (hj : j < d.nJ) : ∀ i, i ≤ d.sz j → (tx I j i).length + (if i = 0 then 0 else 1) ≤ 12 * i
  | 0, _ => Nat.le_refl _
  | i + 1, hi => by
    have h := tx_len hJ hA hj i (by omega)
    obtain ⟨⟨a, a1, a2⟩, -⟩ := hJ.a j hj i (by omega)
    have h2 := nl_len2 (k := a) (by omega)
    have h3 := nl_len (I 15 (10 * j + i))
    rw [tx, pl, a2, List.length_append, List.length_append, List.length_append, List.length_append, List.length_singleton]
    by_cases h0 : i = 0
    · subst h0
      rw [if_pos rfl] at h ⊢
      rw [List.length_nil, if_neg (by omega)]
      omega
    · rw [if_neg h0] at h ⊢
      rw [List.length_singleton, if_neg (by omega)]
      omega
theorem c_write (hJ : rJ d I J K) (hA : d.nA ≤ 30) {j : Nat} (hj : j < d.nJ) : ∀ (f i : Nat), i + f = d.sz j → zEv X mt_X7_write 7 [.ref 33, .ref 9, .int (nI j), .int (nI i), .null] [] (zSH im tl, cT I R (tx I j i), L) (none, (zSH im tl, cT I R (tx I j (d.sz j) ++ rvl (I 12 j)), L)) := by
  have h60 := hJ.j60
  obtain ⟨hz, hz10⟩ := hJ.z j hj
  have cj : (nI j).toNatClampNeg = j := kc (by omega)
  have ij := k_in (x := nI j) (n := 60) rfl (by omega) (by omega)
  intro f
  induction f with
  | zero =>
    intro i hi
    have : i = d.sz j := by omega
    subst this
    have hl := tx_len hJ hA hj (d.sz j) (Nat.le_refl _)
    have hle : cT I R (tx I j (d.sz j)) 11 (nI j).toNatClampNeg ≤ nI (d.sz j) := by
      show I 11 (nI j).toNatClampNeg ≤ _
      rw [cj, hz]; exact Int32.le_refl _
    rcases hJ.v j hj with ⟨hv, -⟩ | ⟨k, hk, hv, -⟩
    · rw [rvl, if_pos hv, List.append_nil]
      exact sg_X7_write_7_0 _ _ ij hle ij (show I 12 (nI j).toNatClampNeg = -5 by rw [cj, hv])
    · have hv5 : ¬ I 12 j = -5 := by rw [hv]; exact n5 (by omega)
      have h2 := nl_len2 (k := k) (by omega)
      have hz2 := hJ.z2 j hj
      rw [if_neg (by omega)] at hl
      refine sg_X7_write_7_1 _ _ ij hle ij (show ¬ I 12 (nI j).toNatClampNeg = -5 by rw [cj]; exact hv5) ?_
      rw [rvl, if_neg hv5, hv]
      have st : ∀ (T : List Nat) (x i : Nat), x < 128 → i < 4 → zch i = nI x → T.length < 125 → zEv X mt_X7_write 82 [.ref 33, .ref 9, .int (nI j), .int (nI (i + 1)), .null] [] (zSH im tl, cT I R (T ++ [x]), L) (none, (zSH im tl, cT I R (tx I j (d.sz j) ++ ([32] ++ ([82] ++ ([69] ++ ([86] ++ nl (nI k)))))), L)) → zEv X mt_X7_write 82 [.ref 33, .ref 9, .int (nI j), .int (nI i), .null] [] (zSH im tl, cT I R T, L) (none, (zSH im tl, cT I R (tx I j (d.sz j) ++ ([32] ++ ([82] ++ ([69] ++ ([86] ++ nl (nI k)))))), L)) := by
        intro T x i hx hi hc hT k
        have ca : zEv X mt_X7_add 0 [.ref 33, .int (zch (nI i).toNatClampNeg)] [] (zSH im tl, cT I R T, L) (none, (zSH im tl, cT I R (T ++ [x]), L)) := by
          rw [kc (by omega), hc]; exact c_add1 hx hT
        refine sg_X7_write_82_1 _ _ (k_nle (a := 4) rfl rfl hi (by omega)) (k_in rfl hi (by omega)) ca (sg_X7_write_101_0 _ _ ?_)
        rw [nI_1]
        exact k
      refine st _ 32 0 (by decide) (by decide) rfl (by omega) (st _ 82 1 (by decide) (by decide) rfl (by simp only [List.length_append, List.length_singleton]; omega) (st _ 69 2 (by decide) (by decide) rfl (by simp only [List.length_append, List.length_singleton]; omega) (st _ 86 3 (by decide) (by decide) rfl (by simp only [List.length_append, List.length_singleton]; omega) ?_)))
      have kt : (nI k).toInt = (k : Int) := nI_toInt (by omega)
      have cn := c_num (X := X) (im := im) (tl := tl) (I := I) (L := L) (R := R) (T := tx I j (d.sz j) ++ [32] ++ [82] ++ [69] ++ [86]) (v := nI k) (by rw [kt]; omega) (by rw [kt]; omega) (by simp only [List.length_append, List.length_singleton]; omega)
      refine sg_X7_write_82_0 _ _ (by decide) ij (show zEv X mt_X7_addNumber 0 [.ref 33, .int (I 12 (nI j).toNatClampNeg), .null, .null, .null] [] _ _ by rw [cj, hv]; exact cn) (ev_r (sg_X7_write_117_0 _ _) ?_)
      simp only [List.append_assoc]
  | succ f ih =>
    intro i hi
    obtain ⟨⟨a, a1, a2⟩, -⟩ := hJ.a j hj i (by omega)
    obtain ⟨⟨x1, x2⟩, -⟩ := hJ.x j hj i (by omega)
    have l1 := nl_len2 (k := a) (by omega)
    have l2 := nl_len (I 15 (10 * j + i))
    have hl := tx_len hJ hA hj i (by omega)
    have kt : (nI a).toInt = (a : Int) := nI_toInt (by omega)
    have h2 := ih (i + 1) (by omega)
    have hnl : ¬ cT I R (tx I j i) 11 (nI j).toNatClampNeg ≤ nI i := by
      show ¬ I 11 (nI j).toNatClampNeg ≤ _
      rw [cj, hz]; exact nI_ge (by omega) (by omega)
    have es : nI j * 10 + nI i = nI (10 * j + i) := by rw [show nI j * 10 = nI (j * 10) from pk_mul j 10, nI_add, Nat.mul_comm]
    have is := k_in (x := nI (10 * j + i)) (n := 600) rfl (by omega) (by omega)
    have cs : (nI (10 * j + i)).toNatClampNeg = 10 * j + i := kc (by omega)
    -- after the account
    have tail : ∀ T : List Nat, T.length + 9 ≤ 125 → T ++ ([32] ++ nl (I 15 (10 * j + i))) = tx I j (i + 1) → zEv X mt_X7_write 46 [.ref 33, .ref 9, .int (nI j), .int (nI i), .int (nI (10 * j + i))] [] (zSH im tl, cT I R T, L) (none, (zSH im tl, cT I R (tx I j (d.sz j) ++ rvl (I 12 j)), L)) := by
      intro T hT eT
      have cn := c_num (X := X) (im := im) (tl := tl) (I := I) (L := L) (R := R) (T := T ++ [32]) (v := I 15 (10 * j + i)) x1 x2 (by simp only [List.length_append, List.length_singleton]; omega)
      rw [List.append_assoc, eT] at cn
      refine sg_X7_write_46_0 _ _ _ (c_add1 (x := 32) (by decide) (by omega)) (sg_X7_write_52_0 _ _ _ is (show zEv X mt_X7_addNumber 0 [.ref 33, .int (I 15 (nI (10 * j + i)).toNatClampNeg), .null, .null, .null] [] _ _ by rw [cs]; exact cn) (sg_X7_write_63_0 _ _ _ ?_))
      rw [nI_1]
      exact h2
    by_cases h0 : i = 0
    · have cn := c_num (X := X) (im := im) (tl := tl) (I := I) (L := L) (R := R) (T := tx I j i) (v := nI a) (by rw [kt]; omega) (by rw [kt]; omega) (by omega)
      have eT : tx I j i ++ nl (nI a) ++ ([32] ++ nl (I 15 (10 * j + i))) = tx I j (i + 1) := by
        rw [tx, pl, if_pos h0, List.nil_append, a2, List.append_assoc]
      refine sg_X7_write_7_2 _ _ ij hnl (by rw [h0]; decide) (by rw [es]; exact is) (show zEv X mt_X7_addNumber 0 [.ref 33, .int (I 14 (nI j * 10 + nI i).toNatClampNeg), .null, .null, .null] [] _ _ by rw [es, cs, a2]; exact cn) ?_
      rw [es]
      exact tail _ (by rw [List.length_append]; omega) eT
    · rw [if_neg h0] at hl
      have cn := c_num (X := X) (im := im) (tl := tl) (I := I) (L := L) (R := R) (T := tx I j i ++ [59]) (v := nI a) (by rw [kt]; omega) (by rw [kt]; omega) (by simp only [List.length_append, List.length_singleton]; omega)
      have eT : tx I j i ++ [59] ++ nl (nI a) ++ ([32] ++ nl (I 15 (10 * j + i))) = tx I j (i + 1) := by
        rw [tx, pl, if_neg h0, a2]
        simp only [List.append_assoc]
      refine sg_X7_write_7_3 _ _ ij hnl (nI_nle (by omega) (by omega)) (c_add1 (x := 59) (by decide) (by omega)) ?_
      rw [es]
      refine sg_X7_write_35_0 _ _ _ is (show zEv X mt_X7_addNumber 0 [.ref 33, .int (I 14 (nI (10 * j + i)).toNatClampNeg), .null, .null, .null] [] _ _ by rw [cs, a2]; exact cn) ?_
      exact tail _ (by simp only [List.length_append, List.length_singleton]; omega) eT
theorem m_spell (hJ : rJ d I J K) (hA : d.nA ≤ 30) {j : Nat} (hj : j < d.nJ) : ∀ (f i : Nat), i + f = d.sz j → zEv X mt_X11_spell 17 [.ref 39, .int (nI j), .int (nI i), .null] [] (zSH im tl, mT J R (tx I j i), K) (some (.int (nI (tx I j (d.sz j) ++ rvl (I 12 j)).length)), (zSH im tl, mT J R (tx I j (d.sz j) ++ rvl (I 12 j)), K)) := by
  have h60 := hJ.j60
  have hP := rj_p hJ
  obtain ⟨hz, hz10⟩ := hJ.z j hj
  have e220 : ((220 : Int32) + nI j).toNatClampNeg = 220 + j := kx 220 (a := 220) rfl (by omega)
  have e160 : ((160 : Int32) + nI j).toNatClampNeg = 160 + j := kx 160 (a := 160) rfl (by omega)
  have e280 : ((280 : Int32) + nI j).toNatClampNeg = 280 + j := kx 280 (a := 280) rfl (by omega)
  have i220 := k_in (x := (220 : Int32) + nI j) (n := 1280) (nI_add 220 j) (by omega) (by omega)
  have i160 := k_in (x := (160 : Int32) + nI j) (n := 1280) (nI_add 160 j) (by omega) (by omega)
  have i280 := k_in (x := (280 : Int32) + nI j) (n := 1280) (nI_add 280 j) (by omega) (by omega)
  intro f
  induction f with
  | zero =>
    intro i hi
    have : i = d.sz j := by omega
    subst this
    have hl := tx_len hJ hA hj (d.sz j) (Nat.le_refl _)
    have hle : mT J R (tx I j (d.sz j)) 40 ((220 : Int32) + nI j).toNatClampNeg ≤ nI (d.sz j) := by
      show J 40 ((220 : Int32) + nI j).toNatClampNeg ≤ _
      rw [e220, hJ.zm j hj]; exact Int32.le_refl _
    rcases hJ.v j hj with ⟨hv, hw⟩ | ⟨k, hk, hv, hw⟩
    · rw [rvl, if_pos hv, List.append_nil]
      exact sg_X11_spell_17_0 _ _ i220 hle i280 (show J 40 ((280 : Int32) + nI j).toNatClampNeg < 0 by rw [e280, hw]; decide)
    · have hv5 : ¬ I 12 j = -5 := by rw [hv]; exact n5 (by omega)
      have h2 := nl_len2 (k := k) (by omega)
      have kt : (nI k).toInt = (k : Int) := nI_toInt (by omega)
      rw [rvl, if_neg hv5, hv]
      have cn := m_num (X := X) (im := im) (tl := tl) (J := J) (K := K) (R := R) (T := tx I j (d.sz j) ++ [32] ++ [82] ++ [69] ++ [86]) (v := nI k) rfl (by rw [kt]; omega) (by rw [kt]; omega) (by simp only [List.length_append, List.length_singleton]; omega)
      refine sg_X11_spell_17_1 _ _ i220 hle i280 (show ¬ J 40 ((280 : Int32) + nI j).toNatClampNeg < 0 by rw [e280, hw]; exact nI_pos (by omega)) (m_put1 32 (by omega)) (sg_X11_spell_113_0 _ _ (m_put1 82 (by simp only [List.length_append, List.length_singleton]; omega)) (sg_X11_spell_119_0 _ _ (m_put1 69 (by simp only [List.length_append, List.length_singleton]; omega)) (sg_X11_spell_125_0 _ _ (m_put1 86 (by simp only [List.length_append, List.length_singleton]; omega)) (sg_X11_spell_131_0 _ _ i280 (show zEv X mt_X11_putNumber 0 [.ref 39, .long (J 40 ((280 : Int32) + nI j).toNatClampNeg).toInt64, .null, .null, .null, .null, .null] [] _ _ by rw [e280, hw]; exact cn) (ev_r (sg_X11_spell_146_0 _ _) ?_)))))
      simp only [List.append_assoc]
      rfl
  | succ f ih =>
    intro i hi
    obtain ⟨⟨a, a1, a2⟩, a3⟩ := hJ.a j hj i (by omega)
    obtain ⟨⟨x1, x2⟩, x3⟩ := hJ.x j hj i (by omega)
    have l1 := nl_len2 (k := a) (by omega)
    have l2 := nl_len (I 15 (10 * j + i))
    have hl := tx_len hJ hA hj i (by omega)
    have kt : (nI a).toInt = (a : Int) := nI_toInt (by omega)
    have h2 := ih (i + 1) (by omega)
    have hf := hJ.fz hj
    have hnl : ¬ mT J R (tx I j i) 40 ((220 : Int32) + nI j).toNatClampNeg ≤ nI i := by
      show ¬ J 40 ((220 : Int32) + nI j).toNatClampNeg ≤ _
      rw [e220, hJ.zm j hj]; exact nI_ge (by omega) (by omega)
    have es : J 40 ((160 : Int32) + nI j).toNatClampNeg + nI i = nI (d.fs j + i) := by rw [e160, hJ.fm j hj, nI_add]
    have e400 : ((400 : Int32) + nI (d.fs j + i)).toNatClampNeg = 400 + (d.fs j + i) := kx 400 (a := 400) rfl (by omega)
    have e60 : ((60 : Int32) + nI (d.fs j + i)).toNatClampNeg = 60 + (d.fs j + i) := kx 60 (a := 60) rfl (by omega)
    have i400 := k_in (x := (400 : Int32) + nI (d.fs j + i)) (n := 1280) (nI_add 400 _) (by omega) (by omega)
    have i60 := k_in (x := (60 : Int32) + nI (d.fs j + i)) (n := 1000) (nI_add 60 _) (by omega) (by omega)
    have tail : ∀ T : List Nat, T.length + 9 ≤ 200 → T ++ ([32] ++ nl (I 15 (10 * j + i))) = tx I j (i + 1) → zEv X mt_X11_spell 69 [.ref 39, .int (nI j), .int (nI i), .int (nI (d.fs j + i))] [] (zSH im tl, mT J R T, K) (some (.int (nI (tx I j (d.sz j) ++ rvl (I 12 j)).length)), (zSH im tl, mT J R (tx I j (d.sz j) ++ rvl (I 12 j)), K)) := by
      intro T hT eT
      have cn := m_num (X := X) (im := im) (tl := tl) (J := J) (K := K) (R := R) (T := T ++ [32]) (v := I 15 (10 * j + i)) rfl x1 x2 (by simp only [List.length_append, List.length_singleton]; omega)
      rw [List.append_assoc, eT] at cn
      refine sg_X11_spell_69_0 _ _ _ (m_put1 32 (by omega)) (sg_X11_spell_75_0 _ _ _ i60 (show zEv X mt_X11_putNumber 0 [.ref 39, .long (K 41 ((60 : Int32) + nI (d.fs j + i)).toNatClampNeg), .null, .null, .null, .null, .null] [] _ _ by rw [e60, x3]; exact cn) (sg_X11_spell_88_0 _ _ _ ?_))
      rw [nI_1]
      exact h2
    have acc : ∀ T : List Nat, T.length + 2 ≤ 200 → zEv X mt_X11_putNumber 0 [.ref 39, .long (J 40 ((400 : Int32) + nI (d.fs j + i)).toNatClampNeg).toInt64, .null, .null, .null, .null, .null] [] (zSH im tl, mT J R T, K) (none, (zSH im tl, mT J R (T ++ nl (nI a)), K)) := by
      intro T hT
      rw [e400, a3, a2]
      exact m_num rfl (by rw [kt]; omega) (by rw [kt]; omega) (by omega)
    by_cases h0 : i = 0
    · have eT : tx I j i ++ nl (nI a) ++ ([32] ++ nl (I 15 (10 * j + i))) = tx I j (i + 1) := by
        rw [tx, pl, if_pos h0, List.nil_append, a2, List.append_assoc]
      refine sg_X11_spell_17_2 _ _ i220 hnl i160 (by rw [h0]; decide) (show ¬ ((400 : Int32) + (J 40 ((160 : Int32) + nI j).toNatClampNeg + nI i) < 0 ∨ 1280 ≤ ((400 : Int32) + (J 40 ((160 : Int32) + nI j).toNatClampNeg + nI i)).toNatClampNeg) by rw [es]; exact i400) (show zEv X mt_X11_putNumber 0 [.ref 39, .long (J 40 ((400 : Int32) + (J 40 ((160 : Int32) + nI j).toNatClampNeg + nI i)).toNatClampNeg).toInt64, .null, .null, .null, .null, .null] [] _ _ by rw [es]; exact acc (tx I j i) (by omega)) (show zEv X mt_X11_spell 69 [.ref 39, .int (nI j), .int (nI i), .int (J 40 ((160 : Int32) + nI j).toNatClampNeg + nI i)] [] _ _ from ?_)
      rw [es]
      exact tail _ (by rw [List.length_append]; omega) eT
    · rw [if_neg h0] at hl
      have eT : tx I j i ++ [59] ++ nl (nI a) ++ ([32] ++ nl (I 15 (10 * j + i))) = tx I j (i + 1) := by
        rw [tx, pl, if_neg h0, a2]
        simp only [List.append_assoc]
      refine sg_X11_spell_17_3 _ _ i220 hnl i160 (nI_nle (by omega) (by omega)) (m_put1 59 (by omega)) (show zEv X mt_X11_spell 54 [.ref 39, .int (nI j), .int (nI i), .int (J 40 ((160 : Int32) + nI j).toNatClampNeg + nI i)] [] _ _ from ?_)
      rw [es]
      exact sg_X11_spell_54_0 _ _ _ i400 (acc (tx I j i ++ [59]) (by simp only [List.length_append, List.length_singleton]; omega)) (tail _ (by simp only [List.length_append, List.length_singleton]; omega) eT)
theorem wrT_nil (R : Nat → Int32) : wrT R [] = R := by
  funext k
  show (if k < 0 then _ else R k) = R k
  rw [if_neg (by omega)]
theorem cT_nil (I : zI) : va_up I 33 (upd (I 33) 0 0) = cT I (I 34) [] := by
  unfold cT
  rw [wrT_nil, va_up_id (f := I) (k := 34) rfl]
  rfl
theorem mT_nil (I : zI) : va_up I 39 (upd (I 39) 17 0) = mT I (I 47) [] := by
  unfold mT
  rw [wrT_nil, va_up_id (f := I) (k := 47) rfl]
  rfl
theorem op_spell (hR : rAll d im tl I L) (a : Int32) : zOpI X im tl I L mt_X10_spell mt_X11_spell [.ref 0, .int a] [.ref 39, .int a, .null, .null] := by
  have hJ := hR.1.rj
  have hA := hR.1.ra.n30
  have h60 := hJ.j60
  rcases k_ix a d.nJ (by omega) with h | ⟨j, hj, rfl⟩
  · exact op_roI hR _ (sg_X10_spell_0_0 _ (cj_has0 hJ.c h) (sg_X10_spell_11_0 _ _ rfl)) (sg_X11_spell_0_0 _ (mo_isJournal0 hJ.m h60 h) (sg_X11_spell_5_0 _ _ rfl))
  · obtain ⟨tn, hT⟩ := hR.2.t
    have hz := (hJ.z j hj).2
    have hz2 := hJ.z2 j hj
    have hl := tx_len hJ hA hj (d.sz j) (Nat.le_refl _)
    rw [if_neg (by omega)] at hl
    have hl2 : (tx I j (d.sz j) ++ rvl (I 12 j)).length ≤ 125 := by
      rw [List.length_append]
      rcases hJ.v j hj with ⟨hv, -⟩ | ⟨k, hk, hv, -⟩
      · rw [rvl, if_pos hv, List.length_nil]; omega
      · have h2 := nl_len2 (k := k) (by omega)
        rw [rvl, if_neg (by rw [hv]; exact n5 (by omega)), hv]
        simp only [List.length_append, List.length_singleton]; omega
    have cw := c_write (X := X) (im := im) (tl := tl) (L := L) (R := I 34) hJ hA hj (d.sz j) 0 (by omega)
    generalize hTe : tx I j (d.sz j) ++ rvl (I 12 j) = T at cw hl2
    have hJ2 : rJ d I (cT I (I 34) T) L := hJ
    have mw := m_spell (X := X) (im := im) (tl := tl) (R := I 47) hJ2 hA hj (d.sz j) 0 (by omega)
    rw [hTe] at mw
    refine ⟨nI T.length, cT I (I 34) T, L, mT (cT I (I 34) T) (I 47) T, L, d, sg_X10_spell_0_0 _ (cj_has1 hJ.c hj h60) (sg_X10_spell_11_1 _ _ (by decide) (sg_X7_write_0_0 _ ?_) (sg_X10_spell_31_0 (I := cT I (I 34) T) _)), sg_X11_spell_0_0 _ (mo_isJournal1 (show cT I (I 34) T 40 1 = _ from hJ.m) hj h60) (sg_X11_spell_5_1 _ _ (by decide) ?_), hR.1, ⟨tn, RT.mk hT.t90 hT.c hT.m hT.b⟩, ⟨T.length, RP.mk hl2 rfl rfl (fun k hk => ?_)⟩, hR.2.l, hR.2.i⟩
    · rw [cT_nil]; exact cw
    · rw [mT_nil]; exact mw
    · show wrT (I 47) T k = wrT (I 34) T k
      unfold wrT
      rw [if_pos hk, if_pos hk]
end SP
