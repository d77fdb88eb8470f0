section O6
variable {X : zSc} {im : Option Nat} {tl : List zS} {I J : zI} {L K : zL} {d : zD}
theorem l_sub4 (a b c e : Int64) : (a + b) - (c + e) = (a - c) + (b - e) := by grind
theorem lsum_sub (f g : Nat → Int64) : ∀ n, lsum f n - lsum g n = lsum (fun k => f k - g k) n
  | 0 => by rw [lsum, lsum, lsum, Int64.sub_self]
  | n + 1 => by rw [lsum, lsum, lsum, l_sub4, lsum_sub f g n]
theorem lsum_toInt {f : Nat → Int64} {B : Nat} : ∀ {n : Nat}, (∀ i, i < n → -(B : Int) ≤ (f i).toInt ∧ (f i).toInt ≤ B) → n * B < 2 ^ 62 → -((n * B : Nat) : Int) ≤ (lsum f n).toInt ∧ (lsum f n).toInt ≤ ((n * B : Nat) : Int)
  | 0, _, _ => by
    have : (lsum f 0).toInt = 0 := by show (0 : Int64).toInt = 0; decide +kernel
    rw [this]; omega
  | n + 1, h, hb => by
    rw [Nat.succ_mul] at hb ⊢
    have h1 := lsum_toInt (n := n) (fun i hi => h i (by omega)) (by omega)
    have h2 := h n (by omega)
    have e : (lsum f (n + 1)).toInt = (lsum f n).toInt + (f n).toInt := by
      rw [lsum, Int64.toInt_add]
      exact Int.bmod_eq_of_le (by omega) (by omega)
    rw [e]; omega
theorem cS_bd (h : rJ d I J K) (a : Int32) {j : Nat} (hj : j < d.nJ) : -(10000000 : Int) ≤ (cS I d.sz a j).toInt ∧ (cS I d.sz a j).toInt ≤ 10000000 := by
  have hz := (h.z j hj).2
  have h1 := lsum_toInt (f := fun i => if I 14 (10 * j + i) = a then (I 15 (10 * j + i)).toInt64 else 0) (B := 1000000) (n := d.sz j) (fun i hi => by
    obtain ⟨hx, _⟩ := h.x j hj i hi
    show -((1000000 : Nat) : Int) ≤ (if I 14 (10 * j + i) = a then (I 15 (10 * j + i)).toInt64 else 0).toInt ∧ (if I 14 (10 * j + i) = a then (I 15 (10 * j + i)).toInt64 else 0).toInt ≤ ((1000000 : Nat) : Int)
    split
    · rw [Int32.toInt_toInt64]; exact hx
    · have : (0 : Int64).toInt = 0 := by decide +kernel
      rw [this]; omega) (by omega)
  unfold cS
  omega
theorem cSum_bd (h : rJ d I J K) (a lo hi : Int32) : -(600000000 : Int) ≤ (cSum I d.sz d.nJ a lo hi).toInt ∧ (cSum I d.sz d.nJ a lo hi).toInt ≤ 600000000 := by
  have h60 := h.j60
  have z0 : (0 : Int64).toInt = 0 := by decide +kernel
  have h1 := lsum_toInt (f := fun j => if I 10 j < lo then 0 else if hi < I 10 j then 0 else cS I d.sz a j) (B := 10000000) (n := d.nJ) (fun i hi' => by
    show -((10000000 : Nat) : Int) ≤ (if I 10 i < lo then 0 else if hi < I 10 i then 0 else cS I d.sz a i).toInt ∧ (if I 10 i < lo then 0 else if hi < I 10 i then 0 else cS I d.sz a i).toInt ≤ ((10000000 : Nat) : Int)
    split
    · rw [z0]; omega
    · split
      · rw [z0]; omega
      · exact cS_bd h a hi') (by omega)
  unfold cSum
  omega
theorem cSum_cut (h : rJ d I J K) (a : Int32) {lo hi : Nat} (h1 : 1 ≤ lo) (h2 : lo ≤ hi) (h3 : hi < 2 ^ 30) (hd : d.day ≤ 999) : cSum I d.sz d.nJ a (nI lo) (nI hi) = cSum I d.sz d.nJ a 0 (nI hi) - cSum I d.sz d.nJ a 0 (nI (lo - 1)) := by
  unfold cSum
  rw [lsum_sub]
  refine lsum_congr (fun j hj => ?_)
  obtain ⟨e1, e2⟩ := h.d j hj
  have n0 : ¬ I 10 j < 0 := by rw [e1]; exact nI_pos (by omega)
  rw [if_neg n0, if_neg n0]
  by_cases c1 : d.dy j < lo
  · rw [if_pos (by rw [e1]; exact nI_lt c1 (by omega)), if_neg (by rw [e1]; exact nI_nlt (by omega) (by omega)), if_neg (by rw [e1]; exact nI_nlt (by omega) (by omega)), Int64.sub_self]
  · rw [if_neg (c := I 10 j < nI lo) (by rw [e1]; exact nI_nlt (by omega) (by omega)), if_pos (c := nI (lo - 1) < I 10 j) (by rw [e1]; exact nI_lt (by omega) (by omega)), Int64.sub_zero]
theorem cB_cut (h : rJ d I J K) {t : Nat} (c : Int32) {lo hi : Nat} (h1 : 1 ≤ lo) (h2 : lo ≤ hi) (h3 : hi < 2 ^ 30) (hd : d.day ≤ 999) : cB I d t c (nI lo) (nI hi) = cB I d t c 0 (nI hi) - cB I d t c 0 (nI (lo - 1)) := by
  unfold cB
  rw [lsum_sub]
  refine lsum_congr (fun k hk => ?_)
  split
  · split
    · exact cSum_cut h _ h1 h2 h3 hd
    · rfl
  · rfl
theorem op_left (hR : rAll d im tl I L) (a t : Int32) : zOpL X im tl I L mt_X10_left mt_X11_left [.ref 0, .int a, .int t, .null, .null, .null] [.ref 39, .int a, .int t, .null, .null, .null] := by
  have hA := hR.1.ra
  have hJ := hR.1.rj
  have hD := hR.1.rd
  have h30 := hA.n30
  have h1 := hA.n1
  rcases k_ix a d.nA (by omega) with h | ⟨j, hj, rfl⟩
  · exact op_roL hR _ (sg_X10_left_0_0 _ _ (cv_has0 hA.c h) (sg_X10_left_13_0 _ _ _ rfl)) (sg_X11_left_0_0 _ _ (mo_isAccount0 hA.m h1 h30 h) (sg_X11_left_5_0 _ _ _ rfl))
  · rcases k_ix t 10 (by omega) with h | ⟨t, ht, rfl⟩
    · exact op_roL hR _ (sg_X10_left_0_0 _ _ (cv_has1 hA.c hj h30) (sg_X10_left_13_1 _ _ _ (by decide) (c_isPeriod0 h) (sg_X10_left_20_0 _ _ _ rfl))) (sg_X11_left_0_0 _ _ (mo_isAccount1 hA.m hj h30) (sg_X11_left_5_1 _ _ _ (by decide) (m_inN_0 (n := 10) (by decide +kernel) (by omega) h) (sg_X11_left_15_0 _ _ _ rfl)))
    · have em : (680 : Int32) + 10 * nI j + nI t = nI (680 + (10 * j + t)) := by
        rw [show (680 : Int32) = nI 680 from rfl, show (10 : Int32) = nI 10 from rfl, pk_mul, nI_add, nI_add, Nat.add_assoc]
      have cc : (nI j).toNatClampNeg = j := kc (by omega)
      have ci := k_in (x := nI j) (n := 30) rfl (by omega) (by omega)
      have i2 := k_in (x := 40 + nI j) (n := 1280) (nI_add 40 j) (by omega) (by omega)
      have c2 : I 40 ((40 : Int32) + nI j).toNatClampNeg = I 4 j := by rw [kx 40 (a := 40) rfl (by omega), hA.cu j hj]
      have eB : L 41 ((680 : Int32) + 10 * nI j + nI t).toNatClampNeg = L 8 (10 * j + t) := by rw [em, kc (by omega), hA.bu _ (by omega)]
      have i3 := k_in (n := 1000) em (by omega) (by omega)
      have e99 : (100 : Int32) * nI t + 99 = nI (100 * t + 99) := by rw [show (100 : Int32) = nI 100 from rfl, pk_mul]; exact nI_add _ 99
      have hc : zEv X mt_X10_left 0 [.ref 0, .int (nI j), .int (nI t), .null, .null, .null] [] (zSH im tl, I, L) (some (.long (L 8 (10 * j + t) - cB I d j (I 4 j) (nI (100 * t)) (nI (100 * t + 99)))), (zSH im tl, I, L)) := by
        refine sg_X10_left_0_0 _ _ (cv_has1 hA.c hj h30) (sg_X10_left_13_1 _ _ _ (by decide) (c_isPeriod1 ht) (sg_X10_left_20_1 _ _ _ (by decide) ci c_firstDay (sg_X10_left_42_0 _ _ _ _ _ c_lastDay (sg_X10_left_46_0 _ _ _ _ _ _ (cb_sumOfBranch hA hJ hj _ _ _) (ev_r (sg_X10_left_49_0 _ _ _ (kmi (by omega) (by omega))) ?_)))))
        rw [kmx (by omega), cc]
      refine op_roL hR _ hc (sg_X11_left_0_0 _ _ (mo_isAccount1 hA.m hj h30) (sg_X11_left_5_1 _ _ _ (by decide) (m_inN_1 (n := 10) rfl ht (by omega)) ?_))
      by_cases ht0 : t = 0
      · subst ht0
        refine sg_X11_left_15_1 _ _ _ (by decide) i2 rfl i3 (mo_branchBy hA hJ hD.d hj _ _) (ev_r (sg_X11_left_82_0 _ _ _ _ _ _) ?_)
        rw [eB, c2, e99, Int64.sub_zero]
        rfl
      · refine sg_X11_left_15_2 _ _ _ (by decide) i2 (nI_ne0 (by omega) (by omega)) (mo_branchBy hA hJ hD.d hj _ _) (sg_X11_left_52_0 _ _ _ _ i3 (mo_branchBy hA hJ hD.d hj _ _) (ev_r (sg_X11_left_82_0 _ _ _ _ _ _) ?_))
        rw [eB, c2, e99, show (100 : Int32) * nI t - 1 = nI (100 * t - 1) by rw [show (100 : Int32) = nI 100 from rfl, pk_mul, nI_sub1 (by omega)], ← cB_cut hJ _ (by omega) (by omega) (by omega) hD.d]
theorem op_sorts (hR : rAll d im tl I L) (s c : Int32) : zOpL X im tl I L mt_X10_sorts mt_X11_sorts [.ref 0, .int s, .int c, .null, .null, .null] [.ref 39, .int s, .int c, .null, .null, .null] := by
  have hA := hR.1.ra
  have hJ := hR.1.rj
  have hD := hR.1.rd
  have h30 := hA.n30
  have h1 := hA.n1
  rcases k_ix s 4 (by omega) with h | ⟨s, hs, rfl⟩
  · exact op_roL hR _ (sg_X10_sorts_0_0 _ _ (c_isSort0 h) (sg_X10_sorts_4_0 _ _ _ rfl)) (sg_X11_sorts_0_0 _ _ (m_inN_0 (n := 4) (by decide +kernel) (by omega) h) (sg_X11_sorts_6_0 _ _ _ rfl))
  · rcases k_ix c 4 (by omega) with h | ⟨c, hc, rfl⟩
    · exact op_roL hR _ (sg_X10_sorts_0_0 _ _ (c_isSort1 hs) (sg_X10_sorts_4_1 _ _ _ (by decide) (c_isCurrency0 h) (sg_X10_sorts_11_0 _ _ _ rfl))) (sg_X11_sorts_0_0 _ _ (m_inN_1 (n := 4) rfl hs (by omega)) (sg_X11_sorts_6_1 _ _ _ (by decide) (mo_isCurrency0 h) (sg_X11_sorts_13_0 _ _ _ rfl)))
    · have loopc : ∀ (f k : Nat), k + f = d.nA → zEv X mt_X10_sorts 23 [.ref 0, .int (nI s), .int (nI c), .long (lsum (fun k => if I 5 k = nI s then (if I 4 k = nI c then cSum I d.sz d.nJ (nI k) 0 999 else 0) else 0) k), .null, .int (nI k)] [] (zSH im tl, I, L) (some (.long (lsum (fun k => if I 5 k = nI s then (if I 4 k = nI c then cSum I d.sz d.nJ (nI k) 0 999 else 0) else 0) d.nA)), (zSH im tl, I, L)) := by
        intro f
        induction f with
        | zero =>
          intro k hk
          have : k = d.nA := by omega
          subst this
          exact sg_X10_sorts_23_0 _ _ _ _ (k_le hA.c rfl (Nat.le_refl _) (by omega))
        | succ f ih =>
          intro k hk
          have h2 := ih (k + 1) (by omega)
          rw [lsum, ← nI_1 k] at h2
          have cc : (nI k).toNatClampNeg = k := kc (by omega)
          have ci := k_in (x := nI k) (n := 30) rfl (by omega) (by omega)
          have hn := k_nle hA.c (rfl : nI k = nI k) (by omega) (by omega)
          by_cases e1 : I 5 k = nI s
          · rw [if_pos e1] at h2
            by_cases e2 : I 4 k = nI c
            · rw [if_pos e2] at h2
              exact sg_X10_sorts_23_1 _ _ _ _ hn ci (by rw [cc]; exact e1) ci (by rw [cc]; exact e2) (c_sumByNow hJ hD.d hD.bd _) (sg_X10_sorts_82_0 _ _ _ _ _ _ h2)
            · rw [if_neg e2, Int64.add_zero] at h2
              exact sg_X10_sorts_23_2 _ _ _ _ hn ci (by rw [cc]; exact e1) ci (by rw [cc]; exact e2) h2
          · rw [if_neg e1, Int64.add_zero] at h2
            exact sg_X10_sorts_23_3 _ _ _ _ hn ci (by rw [cc]; exact e1) h2
      have loopm : ∀ (f k : Nat), k + f = d.nA → 1 ≤ k → zEv X mt_X11_sorts 25 [.ref 39, .int (nI s), .int (nI c), .long (lsum (fun k => if I 5 k = nI s then (if I 4 k = nI c then cSum I d.sz d.nJ (nI k) 0 999 else 0) else 0) k), .null, .int (nI k)] [] (zSH im tl, I, L) (some (.long (lsum (fun k => if I 5 k = nI s then (if I 4 k = nI c then cSum I d.sz d.nJ (nI k) 0 999 else 0) else 0) d.nA)), (zSH im tl, I, L)) := by
        intro f
        induction f with
        | zero =>
          intro k hk k1
          have : k = d.nA := by omega
          subst this
          exact sg_X11_sorts_25_0 _ _ _ _ (k_le hA.m rfl (Nat.le_refl _) (by omega))
        | succ f ih =>
          intro k hk k1
          have h2 := ih (k + 1) (by omega) (by omega)
          rw [lsum, ← nI_1 k] at h2
          have i2 := k_in (x := 40 + nI k) (n := 1280) (nI_add 40 k) (by omega) (by omega)
          have c2 : I 40 ((40 : Int32) + nI k).toNatClampNeg = I 4 k := by rw [kx 40 (a := 40) rfl (by omega), hA.cu k (by omega)]
          have i3 := k_in (x := 70 + nI k) (n := 1280) (nI_add 70 k) (by omega) (by omega)
          have c3 : I 40 ((70 : Int32) + nI k).toNatClampNeg = I 5 k := by rw [kx 70 (a := 70) rfl (by omega), hA.so k k1 (by omega)]
          have hn := k_nle hA.m (rfl : nI k = nI k) (by omega) (by omega)
          by_cases e1 : I 5 k = nI s
          · rw [if_pos e1] at h2
            by_cases e2 : I 4 k = nI c
            · rw [if_pos e2] at h2
              exact sg_X11_sorts_25_1 _ _ _ _ hn i3 (by rw [c3]; exact e1) i2 (by rw [c2]; exact e2) (mo_balanceBy hJ hD.d _ _) (sg_X11_sorts_74_0 _ _ _ _ _ _ h2)
            · rw [if_neg e2, Int64.add_zero] at h2
              exact sg_X11_sorts_25_2 _ _ _ _ hn i3 (by rw [c3]; exact e1) i2 (by rw [c2]; exact e2) h2
          · rw [if_neg e1, Int64.add_zero] at h2
            exact sg_X11_sorts_25_3 _ _ _ _ hn i3 (by rw [c3]; exact e1) h2
      have h0 := loopm (d.nA - 1) 1 (by omega) (Nat.le_refl _)
      have hs0 : ¬ I 5 0 = nI s := by rw [hA.so0]; intro e; exact absurd (e ▸ (by decide : (-5 : Int32) < 0) : nI s < 0) (nI_pos (by omega))
      rw [lsum, if_neg hs0, lsum, Int64.add_zero] at h0
      exact op_roL hR _ (sg_X10_sorts_0_0 _ _ (c_isSort1 hs) (sg_X10_sorts_4_1 _ _ _ (by decide) (c_isCurrency1 hc) (sg_X10_sorts_11_1 _ _ _ (by decide) (loopc d.nA 0 (by omega))))) (sg_X11_sorts_0_0 _ _ (m_inN_1 (n := 4) rfl hs (by omega)) (sg_X11_sorts_6_1 _ _ _ (by decide) (mo_isCurrency1 hc) (sg_X11_sorts_13_1 _ _ _ (by decide) h0)))
theorem c_max (x : Int64) : zEv X mt_J9_max_f86c9 0 [.long x, .null, .long 0, .null] [] (zSH im tl, I, L) (some (.long (if x ≤ 0 then 0 else x)), (zSH im tl, I, L)) := by
  by_cases h : lg_cmp x 0 < 0
  · refine ev_r (sg_J9_max_f86c9_0_0 _ _ h) ?_
    rw [if_pos (Int64.le_of_lt ((lg_cmp_lt _ _).mp h))]
  · refine ev_r (sg_J9_max_f86c9_0_1 _ _ h) ?_
    have h2 : ¬ x < 0 := fun e => h ((lg_cmp_lt _ _).mpr e)
    by_cases h3 : x ≤ 0
    · rw [if_pos h3, Int64.le_antisymm h3 (Int64.not_lt.mp h2)]
    · rw [if_neg h3]
theorem c_min (x : Int64) : zEv X mt_J9_min_f86c9 0 [.long x, .null, .long 0, .null] [] (zSH im tl, I, L) (some (.long (if x ≤ 0 then x else 0)), (zSH im tl, I, L)) := by
  by_cases h : 0 < lg_cmp x 0
  · refine ev_r (sg_J9_min_f86c9_0_0 _ _ h) ?_
    rw [if_neg (Int64.not_le.mpr ((lg_cmp_gt _ _).mp h))]
  · refine ev_r (sg_J9_min_f86c9_0_1 _ _ h) ?_
    rw [if_pos (Int64.not_lt.mp (fun e => h ((lg_cmp_gt _ _).mpr e)))]
theorem op_trial (hR : rAll d im tl I L) (c b w : Int32) : zOpL X im tl I L mt_X10_trial mt_X11_trial [.ref 0, .int c, .int b, .int w, .null, .null, .null, .null, .null] [.ref 39, .int c, .int b, .int w, .null, .null, .null, .null, .null] := by
  have hA := hR.1.ra
  have hJ := hR.1.rj
  have hD := hR.1.rd
  have h30 := hA.n30
  rcases k_ix c 4 (by omega) with h | ⟨c, hc, rfl⟩
  · exact op_roL hR _ (sg_X10_trial_0_0 _ _ _ (c_isCurrency0 h) (sg_X10_trial_4_0 _ _ _ _ rfl)) (sg_X11_trial_0_0 _ _ _ (mo_isCurrency0 h) (sg_X11_trial_4_0 _ _ _ _ rfl))
  · rcases k_ix b 1000 (by omega) with h | ⟨t, ht, rfl⟩
    · exact op_roL hR _ (sg_X10_trial_0_0 _ _ _ (c_isCurrency1 hc) (sg_X10_trial_4_1 _ _ _ _ (by decide) (c_isDay0 h) (sg_X10_trial_11_0 _ _ _ _ rfl))) (sg_X11_trial_0_0 _ _ _ (mo_isCurrency1 hc) (sg_X11_trial_4_1 _ _ _ _ (by decide) (mo_isDay0 h) (sg_X11_trial_11_0 _ _ _ _ rfl)))
    · rcases k_ix w 2 (by omega) with h | ⟨q, hq, rfl⟩
      · exact op_roL hR _ (sg_X10_trial_0_0 _ _ _ (c_isCurrency1 hc) (sg_X10_trial_4_1 _ _ _ _ (by decide) (c_isDay1 ht) (sg_X10_trial_11_1 _ _ _ _ (by decide) (c_isOneOfTwo0 h) (sg_X10_trial_18_0 _ _ _ _ rfl)))) (sg_X11_trial_0_0 _ _ _ (mo_isCurrency1 hc) (sg_X11_trial_4_1 _ _ _ _ (by decide) (mo_isDay1 ht) (sg_X11_trial_11_1 _ _ _ _ (by decide) (m_in2_0 h) (sg_X11_trial_20_0 _ _ _ _ rfl))))
      · have key : ∀ (f k : Nat) (z : Int64) (u v : Value), k + f = d.nA → (u = .null ∨ ∃ x, u = .long x) → (v = .null ∨ ∃ x, v = .long x) → ∃ y, zEv X mt_X10_trial 31 [.ref 0, .int (nI c), .int (nI t), .int (nI q), .long z, .null, .int (nI k), u, .null] [] (zSH im tl, I, L) (some (.long y), (zSH im tl, I, L)) ∧ zEv X mt_X11_trial 33 [.ref 39, .int (nI c), .int (nI t), .int (nI q), .long z, .null, .int (nI k), v, .null] [] (zSH im tl, I, L) (some (.long y), (zSH im tl, I, L)) := by
          intro f
          induction f with
          | zero =>
            intro k z u v hk hu hv
            have : k = d.nA := by omega
            subst this
            have h1 := k_le hA.c (rfl : nI d.nA = nI d.nA) (Nat.le_refl _) (by omega)
            have h2 := k_le hA.m (rfl : nI d.nA = nI d.nA) (Nat.le_refl _) (by omega)
            refine ⟨z, ?_, ?_⟩
            · rcases hu with rfl | ⟨x, rfl⟩
              · exact sg_X10_trial_31_0 _ _ _ _ _ h1
              · exact sg_X10_trial_31_3 _ _ _ _ _ _ h1
            · rcases hv with rfl | ⟨x, rfl⟩
              · exact sg_X11_trial_33_0 _ _ _ _ _ h2
              · exact sg_X11_trial_33_3 _ _ _ _ _ _ h2
          | succ f ih =>
            intro k z u v hk hu hv
            have h1 := k_nle hA.c (rfl : nI k = nI k) (by omega) (by omega)
            have h2 := k_nle hA.m (rfl : nI k = nI k) (by omega) (by omega)
            have cc : (nI k).toNatClampNeg = k := kc (by omega)
            have ci := k_in (x := nI k) (n := 30) rfl (by omega) (by omega)
            have i2 := k_in (x := 40 + nI k) (n := 1280) (nI_add 40 k) (by omega) (by omega)
            have c2 : I 40 ((40 : Int32) + nI k).toNatClampNeg = I 4 k := by rw [kx 40 (a := 40) rfl (by omega), hA.cu k (by omega)]
            by_cases e : I 4 k = nI c
            · have e3 : I 4 (nI k).toNatClampNeg = nI c := by rw [cc]; exact e
              have e4 : I 40 ((40 : Int32) + nI k).toNatClampNeg = nI c := by rw [c2]; exact e
              have main : ∃ y, (∀ u', (u' = .null ∨ ∃ x, u' = Value.long x) → zEv X mt_X10_trial 77 [.ref 0, .int (nI c), .int (nI t), .int (nI q), .long z, .null, .int (nI k), u', .null] [.long (cSum I d.sz d.nJ (nI k) 0 (nI t))] (zSH im tl, I, L) (some (.long y), (zSH im tl, I, L))) ∧ (∀ v', (v' = .null ∨ ∃ x, v' = Value.long x) → zEv X mt_X11_trial 68 [.ref 39, .int (nI c), .int (nI t), .int (nI q), .long z, .null, .int (nI k), v', .null] [.long (cSum I d.sz d.nJ (nI k) 0 (nI t))] (zSH im tl, I, L) (some (.long y), (zSH im tl, I, L))) := by
                by_cases q0 : q = 0
                · subst q0
                  by_cases le : cSum I d.sz d.nJ (nI k) 0 (nI t) ≤ 0
                  · obtain ⟨y, y1, y2⟩ := ih (k + 1) z (.long (cSum I d.sz d.nJ (nI k) 0 (nI t))) (.long (cSum I d.sz d.nJ (nI k) 0 (nI t))) (by omega) (Or.inr ⟨_, rfl⟩) (Or.inr ⟨_, rfl⟩)
                    rw [← nI_1 k] at y1 y2
                    have y1' : zEv X mt_X10_trial 91 [.ref 0, .int (nI c), .int (nI t), .int (nI 0), .long z, .null, .int (nI k), .long (cSum I d.sz d.nJ (nI k) 0 (nI t)), .null] [.long (if cSum I d.sz d.nJ (nI k) 0 (nI t) ≤ 0 then 0 else cSum I d.sz d.nJ (nI k) 0 (nI t)), .long z] (zSH im tl, I, L) (some (.long y), (zSH im tl, I, L)) := by
                      rw [if_pos le]
                      refine sg_X10_trial_91_0 _ _ _ _ _ _ _ _ ?_
                      rw [Int64.add_zero]; exact y1
                    refine ⟨y, fun u' hu' => ?_, fun v' hv' => ?_⟩
                    · rcases hu' with rfl | ⟨x, rfl⟩
                      · exact sg_X10_trial_77_0 _ _ _ _ _ _ rfl (c_max _) y1'
                      · exact sg_X10_trial_77_2 _ _ _ _ _ _ _ rfl (c_max _) y1'
                    · rcases hv' with rfl | ⟨x, rfl⟩
                      · exact sg_X11_trial_68_0 _ _ _ _ _ _ ((lg_cmp_le _ _).mpr le) rfl y2
                      · exact sg_X11_trial_68_4 _ _ _ _ _ _ _ ((lg_cmp_le _ _).mpr le) rfl y2
                  · obtain ⟨y, y1, y2⟩ := ih (k + 1) (z + cSum I d.sz d.nJ (nI k) 0 (nI t)) (.long (cSum I d.sz d.nJ (nI k) 0 (nI t))) (.long (cSum I d.sz d.nJ (nI k) 0 (nI t))) (by omega) (Or.inr ⟨_, rfl⟩) (Or.inr ⟨_, rfl⟩)
                    rw [← nI_1 k] at y1 y2
                    have nle : ¬ lg_cmp (cSum I d.sz d.nJ (nI k) 0 (nI t)) 0 ≤ 0 := fun x => le ((lg_cmp_le _ _).mp x)
                    have y1' : zEv X mt_X10_trial 91 [.ref 0, .int (nI c), .int (nI t), .int (nI 0), .long z, .null, .int (nI k), .long (cSum I d.sz d.nJ (nI k) 0 (nI t)), .null] [.long (if cSum I d.sz d.nJ (nI k) 0 (nI t) ≤ 0 then 0 else cSum I d.sz d.nJ (nI k) 0 (nI t)), .long z] (zSH im tl, I, L) (some (.long y), (zSH im tl, I, L)) := by
                      rw [if_neg le]
                      exact sg_X10_trial_91_0 _ _ _ _ _ _ _ _ y1
                    refine ⟨y, fun u' hu' => ?_, fun v' hv' => ?_⟩
                    · rcases hu' with rfl | ⟨x, rfl⟩
                      · exact sg_X10_trial_77_0 _ _ _ _ _ _ rfl (c_max _) y1'
                      · exact sg_X10_trial_77_2 _ _ _ _ _ _ _ rfl (c_max _) y1'
                    · rcases hv' with rfl | ⟨x, rfl⟩
                      · exact sg_X11_trial_68_2 _ _ _ _ _ _ nle rfl y2
                      · exact sg_X11_trial_68_6 _ _ _ _ _ _ _ nle rfl y2
                · have q1 : ¬ nI q = 0 := nI_ne0 (by omega) (by omega)
                  by_cases le : cSum I d.sz d.nJ (nI k) 0 (nI t) ≤ 0
                  · obtain ⟨y, y1, y2⟩ := ih (k + 1) (z + cSum I d.sz d.nJ (nI k) 0 (nI t)) (.long (cSum I d.sz d.nJ (nI k) 0 (nI t))) (.long (cSum I d.sz d.nJ (nI k) 0 (nI t))) (by omega) (Or.inr ⟨_, rfl⟩) (Or.inr ⟨_, rfl⟩)
                    rw [← nI_1 k] at y1 y2
                    have y1' : zEv X mt_X10_trial 100 [.ref 0, .int (nI c), .int (nI t), .int (nI q), .long z, .null, .int (nI k), .long (cSum I d.sz d.nJ (nI k) 0 (nI t)), .null] [.long (if cSum I d.sz d.nJ (nI k) 0 (nI t) ≤ 0 then cSum I d.sz d.nJ (nI k) 0 (nI t) else 0), .long z] (zSH im tl, I, L) (some (.long y), (zSH im tl, I, L)) := by
                      rw [if_pos le]
                      exact sg_X10_trial_100_0 _ _ _ _ _ _ _ _ y1
                    refine ⟨y, fun u' hu' => ?_, fun v' hv' => ?_⟩
                    · rcases hu' with rfl | ⟨x, rfl⟩
                      · exact sg_X10_trial_77_1 _ _ _ _ _ _ q1 (c_min _) y1'
                      · exact sg_X10_trial_77_3 _ _ _ _ _ _ _ q1 (c_min _) y1'
                    · rcases hv' with rfl | ⟨x, rfl⟩
                      · exact sg_X11_trial_68_1 _ _ _ _ _ _ ((lg_cmp_le _ _).mpr le) q1 y2
                      · exact sg_X11_trial_68_5 _ _ _ _ _ _ _ ((lg_cmp_le _ _).mpr le) q1 y2
                  · obtain ⟨y, y1, y2⟩ := ih (k + 1) z (.long (cSum I d.sz d.nJ (nI k) 0 (nI t))) (.long (cSum I d.sz d.nJ (nI k) 0 (nI t))) (by omega) (Or.inr ⟨_, rfl⟩) (Or.inr ⟨_, rfl⟩)
                    rw [← nI_1 k] at y1 y2
                    have nle : ¬ lg_cmp (cSum I d.sz d.nJ (nI k) 0 (nI t)) 0 ≤ 0 := fun x => le ((lg_cmp_le _ _).mp x)
                    have y1' : zEv X mt_X10_trial 100 [.ref 0, .int (nI c), .int (nI t), .int (nI q), .long z, .null, .int (nI k), .long (cSum I d.sz d.nJ (nI k) 0 (nI t)), .null] [.long (if cSum I d.sz d.nJ (nI k) 0 (nI t) ≤ 0 then cSum I d.sz d.nJ (nI k) 0 (nI t) else 0), .long z] (zSH im tl, I, L) (some (.long y), (zSH im tl, I, L)) := by
                      rw [if_neg le]
                      refine sg_X10_trial_100_0 _ _ _ _ _ _ _ _ ?_
                      rw [Int64.add_zero]; exact y1
                    refine ⟨y, fun u' hu' => ?_, fun v' hv' => ?_⟩
                    · rcases hu' with rfl | ⟨x, rfl⟩
                      · exact sg_X10_trial_77_1 _ _ _ _ _ _ q1 (c_min _) y1'
                      · exact sg_X10_trial_77_3 _ _ _ _ _ _ _ q1 (c_min _) y1'
                    · rcases hv' with rfl | ⟨x, rfl⟩
                      · exact sg_X11_trial_68_3 _ _ _ _ _ _ nle q1 y2
                      · exact sg_X11_trial_68_7 _ _ _ _ _ _ _ nle q1 y2
              obtain ⟨y, y1, y2⟩ := main
              refine ⟨y, ?_, ?_⟩
              · have := y1 u hu
                rcases hu with rfl | ⟨x, rfl⟩
                · exact sg_X10_trial_31_1 _ _ _ _ _ h1 ci e3 (cj_sum hJ.c hJ.z hJ.j60 _ _ _) this
                · exact sg_X10_trial_31_4 _ _ _ _ _ _ h1 ci e3 (cj_sum hJ.c hJ.z hJ.j60 _ _ _) this
              · have := y2 v hv
                rcases hv with rfl | ⟨x, rfl⟩
                · exact sg_X11_trial_33_1 _ _ _ _ _ h2 i2 e4 (mo_balanceBy hJ hD.d _ _) this
                · exact sg_X11_trial_33_4 _ _ _ _ _ _ h2 i2 e4 (mo_balanceBy hJ hD.d _ _) this
            · have e3 : ¬ I 4 (nI k).toNatClampNeg = nI c := by rw [cc]; exact e
              have e4 : ¬ I 40 ((40 : Int32) + nI k).toNatClampNeg = nI c := by rw [c2]; exact e
              obtain ⟨y, y1, y2⟩ := ih (k + 1) z u v (by omega) hu hv
              rw [← nI_1 k] at y1 y2
              refine ⟨y, ?_, ?_⟩
              · rcases hu with rfl | ⟨x, rfl⟩
                · exact sg_X10_trial_31_2 _ _ _ _ _ h1 ci e3 y1
                · exact sg_X10_trial_31_5 _ _ _ _ _ _ h1 ci e3 y1
              · rcases hv with rfl | ⟨x, rfl⟩
                · exact sg_X11_trial_33_2 _ _ _ _ _ h2 i2 e4 y2
                · exact sg_X11_trial_33_5 _ _ _ _ _ _ h2 i2 e4 y2
        obtain ⟨y, y1, y2⟩ := key d.nA 0 0 .null .null (by omega) (Or.inl rfl) (Or.inl rfl)
        exact op_roL hR y (sg_X10_trial_0_0 _ _ _ (c_isCurrency1 hc) (sg_X10_trial_4_1 _ _ _ _ (by decide) (c_isDay1 ht) (sg_X10_trial_11_1 _ _ _ _ (by decide) (c_isOneOfTwo1 hq) (sg_X10_trial_18_1 _ _ _ _ (by decide) y1)))) (sg_X11_trial_0_0 _ _ _ (mo_isCurrency1 hc) (sg_X11_trial_4_1 _ _ _ _ (by decide) (mo_isDay1 ht) (sg_X11_trial_11_1 _ _ _ _ (by decide) (m_in2_1 hq) (sg_X11_trial_20_1 _ _ _ _ (by decide) y2))))
end O6
