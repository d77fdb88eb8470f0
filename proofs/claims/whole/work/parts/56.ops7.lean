section O7
variable {X : zSc} {im : Option Nat} {tl : List zS} {I J : zI} {L K : zL} {d : zD}
theorem l_neg {s : Int64} (h : -(600000000 : Int) ≤ s.toInt ∧ s.toInt ≤ 600000000) : (-s).toInt = -s.toInt := by
  rw [Int64.toInt_neg]
  exact Int.bmod_eq_of_le (by omega) (by omega)
theorem op_extreme (hR : rAll d im tl I L) (c w : Int32) : zOpI X im tl I L mt_X10_extreme mt_X11_extreme [.ref 0, .int c, .int w, .null, .null, .null, .null, .null, .null, .null, .null] [.ref 39, .int c, .int w, .null, .null, .null, .null, .null, .null] := by
  have hA := hR.1.ra
  have hJ := hR.1.rj
  have hD := hR.1.rd
  have h30 := hA.n30
  rcases k_ix c 4 (by omega) with h | ⟨c, hc, rfl⟩
  · exact op_roI hR _ (sg_X10_extreme_0_0 _ _ (c_isCurrency0 h) (sg_X10_extreme_4_0 _ _ _ rfl)) (sg_X11_extreme_0_0 _ _ (mo_isCurrency0 h) (sg_X11_extreme_4_0 _ _ _ rfl))
  · rcases k_ix w 2 (by omega) with h | ⟨q, hq, rfl⟩
    · exact op_roI hR _ (sg_X10_extreme_0_0 _ _ (c_isCurrency1 hc) (sg_X10_extreme_4_1 _ _ _ (by decide) (c_isOneOfTwo0 h) (sg_X10_extreme_11_0 _ _ _ rfl))) (sg_X11_extreme_0_0 _ _ (mo_isCurrency1 hc) (sg_X11_extreme_4_1 _ _ _ (by decide) (m_in2_0 h) (sg_X11_extreme_13_0 _ _ _ rfl)))
    · have key : ∀ (f k : Nat) (b : Int32) (m h : Int64) (u u' v : Value), k + f = d.nA → (b = -5 ∨ ¬ b < 0) → (q = 0 → m = h) → (q ≠ 0 → m = -h) → (-(600000000 : Int) ≤ h.toInt ∧ h.toInt ≤ 600000000) → ((u = .null ∧ u' = .null) ∨ ∃ x y, u = .long x ∧ u' = .long y) → (v = .null ∨ ∃ x, v = .long x) → ∃ y, zEv X mt_X10_extreme 25 [.ref 0, .int (nI c), .int (nI q), .int b, .long m, .null, .int (nI k), u, .null, u', .null] [] (zSH im tl, I, L) (some (.int y), (zSH im tl, I, L)) ∧ zEv X mt_X11_extreme 27 [.ref 39, .int (nI c), .int (nI q), .int b, .long h, .null, .int (nI k), v, .null] [] (zSH im tl, I, L) (some (.int y), (zSH im tl, I, L)) := by
        intro f
        induction f with
        | zero =>
          intro k b m h u u' v hk hb hm0 hm1 hbd hu hv
          have : k = d.nA := by omega
          subst this
          have h1 := k_le hA.c (rfl : nI d.nA = nI d.nA) (Nat.le_refl _) (by omega)
          have h2 := k_le hA.m (rfl : nI d.nA = nI d.nA) (Nat.le_refl _) (by omega)
          refine ⟨b, ?_, ?_⟩
          · rcases hu with ⟨rfl, rfl⟩ | ⟨x, y, rfl, rfl⟩
            · exact sg_X10_extreme_25_0 _ _ _ _ _ h1
            · exact sg_X10_extreme_25_3 _ _ _ _ _ _ _ h1
          · rcases hv with rfl | ⟨x, rfl⟩
            · exact sg_X11_extreme_27_0 _ _ _ _ _ h2
            · exact sg_X11_extreme_27_3 _ _ _ _ _ _ h2
        | succ f ih =>
          intro k b m h u u' v hk hb hm0 hm1 hbd hu hv
          have h1 := k_nle hA.c (rfl : nI k = nI k) (by omega) (by omega)
          have h2 := k_nle hA.m (rfl : nI k = nI k) (by omega) (by omega)
          have cc : (nI k).toNatClampNeg = k := kc (by omega)
          have ci := k_in (x := nI k) (n := 30) rfl (by omega) (by omega)
          have i2 := k_in (x := 40 + nI k) (n := 1280) (nI_add 40 k) (by omega) (by omega)
          have c2 : I 40 ((40 : Int32) + nI k).toNatClampNeg = I 4 k := by rw [kx 40 (a := 40) rfl (by omega), hA.cu k (by omega)]
          by_cases e : I 4 k = nI c
          · have e3 : I 4 (nI k).toNatClampNeg = nI c := by rw [cc]; exact e
            have e4 : I 40 ((40 : Int32) + nI k).toNatClampNeg = nI c := by rw [c2]; exact e
            have main : ∃ y, zEv X mt_X10_extreme 66 [.ref 0, .int (nI c), .int (nI q), .int b, .long m, .null, .int (nI k), u, .null, u', .null] [.long (cSum I d.sz d.nJ (nI k) 0 999)] (zSH im tl, I, L) (some (.int y), (zSH im tl, I, L)) ∧ zEv X mt_X11_extreme 64 [.ref 39, .int (nI c), .int (nI q), .int b, .long h, .null, .int (nI k), v, .null] [.long (cSum I d.sz d.nJ (nI k) 0 999)] (zSH im tl, I, L) (some (.int y), (zSH im tl, I, L)) := by
              have hsb := cSum_bd hJ (nI k) 0 999
              generalize cSum I d.sz d.nJ (nI k) 0 999 = s at hsb ⊢
              have nb : ¬ nI k < 0 := nI_pos (by omega)
              by_cases q0 : q = 0
              · subst q0
                have := hm0 rfl
                subst this
                obtain ⟨y, y1, y2⟩ := ih (k + 1) (nI k) s s (.long s) (.long s) (.long s) (by omega) (Or.inr nb) (fun _ => rfl) (fun e => absurd rfl e) hsb (Or.inr ⟨_, _, rfl, rfl⟩) (Or.inr ⟨_, rfl⟩)
                obtain ⟨z, z1, z2⟩ := ih (k + 1) b m m (.long s) (.long s) (.long s) (by omega) hb (fun _ => rfl) (fun e => absurd rfl e) hbd (Or.inr ⟨_, _, rfl, rfl⟩) (Or.inr ⟨_, rfl⟩)
                rw [← nI_1 k] at y1 y2 z1 z2
                by_cases b5 : b = -5
                · refine ⟨y, ?_, ?_⟩
                  · rcases hu with ⟨rfl, rfl⟩ | ⟨x, x', rfl, rfl⟩
                    · exact sg_X10_extreme_66_0 _ _ _ _ _ _ rfl b5 y1
                    · exact sg_X10_extreme_66_6 _ _ _ _ _ _ _ _ rfl b5 y1
                  · have b0 : b < 0 := by rw [b5]; decide
                    rcases hv with rfl | ⟨x, rfl⟩
                    · exact sg_X11_extreme_64_0 _ _ _ _ _ _ b0 y2
                    · exact sg_X11_extreme_64_5 _ _ _ _ _ _ _ b0 y2
                · have b0 : ¬ b < 0 := hb.resolve_left b5
                  by_cases le : s ≤ m
                  · have l1 := (lg_cmp_le _ _).mpr le
                    have l2 : ¬ 0 < lg_cmp s m := fun x => absurd ((lg_cmp_gt _ _).mp x) (Int64.not_lt.mpr le)
                    refine ⟨z, ?_, ?_⟩
                    · rcases hu with ⟨rfl, rfl⟩ | ⟨x, x', rfl, rfl⟩
                      · exact sg_X10_extreme_66_1 _ _ _ _ _ _ rfl b5 l1 z1
                      · exact sg_X10_extreme_66_7 _ _ _ _ _ _ _ _ rfl b5 l1 z1
                    · rcases hv with rfl | ⟨x, rfl⟩
                      · exact sg_X11_extreme_64_2 _ _ _ _ _ _ b0 rfl l2 z2
                      · exact sg_X11_extreme_64_7 _ _ _ _ _ _ _ b0 rfl l2 z2
                  · have l1 : ¬ lg_cmp s m ≤ 0 := fun x => le ((lg_cmp_le _ _).mp x)
                    have l2 : 0 < lg_cmp s m := (lg_cmp_gt _ _).mpr (Int64.not_le.mp le)
                    refine ⟨y, ?_, ?_⟩
                    · rcases hu with ⟨rfl, rfl⟩ | ⟨x, x', rfl, rfl⟩
                      · exact sg_X10_extreme_66_2 _ _ _ _ _ _ rfl b5 l1 y1
                      · exact sg_X10_extreme_66_8 _ _ _ _ _ _ _ _ rfl b5 l1 y1
                    · rcases hv with rfl | ⟨x, rfl⟩
                      · exact sg_X11_extreme_64_1 _ _ _ _ _ _ b0 rfl l2 y2
                      · exact sg_X11_extreme_64_6 _ _ _ _ _ _ _ b0 rfl l2 y2
              · have q1 : ¬ nI q = 0 := nI_ne0 (by omega) (by omega)
                have := hm1 q0
                subst this
                obtain ⟨y, y1, y2⟩ := ih (k + 1) (nI k) (-s) s (.long s) (.long (-s)) (.long s) (by omega) (Or.inr nb) (fun e => absurd e q0) (fun _ => rfl) hsb (Or.inr ⟨_, _, rfl, rfl⟩) (Or.inr ⟨_, rfl⟩)
                obtain ⟨z, z1, z2⟩ := ih (k + 1) b (-h) h (.long s) (.long (-s)) (.long s) (by omega) hb (fun e => absurd e q0) (fun _ => rfl) hbd (Or.inr ⟨_, _, rfl, rfl⟩) (Or.inr ⟨_, rfl⟩)
                rw [← nI_1 k] at y1 y2 z1 z2
                by_cases b5 : b = -5
                · refine ⟨y, ?_, ?_⟩
                  · rcases hu with ⟨rfl, rfl⟩ | ⟨x, x', rfl, rfl⟩
                    · exact sg_X10_extreme_66_3 _ _ _ _ _ _ q1 b5 y1
                    · exact sg_X10_extreme_66_9 _ _ _ _ _ _ _ _ q1 b5 y1
                  · have b0 : b < 0 := by rw [b5]; decide
                    rcases hv with rfl | ⟨x, rfl⟩
                    · exact sg_X11_extreme_64_0 _ _ _ _ _ _ b0 y2
                    · exact sg_X11_extreme_64_5 _ _ _ _ _ _ _ b0 y2
                · have b0 : ¬ b < 0 := hb.resolve_left b5
                  have eq : (-s ≤ -h) ↔ ¬ s < h := by
                    rw [Int64.le_iff_toInt_le, Int64.lt_iff_toInt_lt, l_neg hsb, l_neg hbd]
                    omega
                  by_cases le : s < h
                  · have l1 : ¬ lg_cmp (-s) (-h) ≤ 0 := fun x => eq.mp ((lg_cmp_le _ _).mp x) le
                    have l2 : lg_cmp s h < 0 := (lg_cmp_lt _ _).mpr le
                    refine ⟨y, ?_, ?_⟩
                    · rcases hu with ⟨rfl, rfl⟩ | ⟨x, x', rfl, rfl⟩
                      · exact sg_X10_extreme_66_5 _ _ _ _ _ _ q1 b5 l1 y1
                      · exact sg_X10_extreme_66_11 _ _ _ _ _ _ _ _ q1 b5 l1 y1
                    · rcases hv with rfl | ⟨x, rfl⟩
                      · exact sg_X11_extreme_64_3 _ _ _ _ _ _ b0 q1 l2 y2
                      · exact sg_X11_extreme_64_8 _ _ _ _ _ _ _ b0 q1 l2 y2
                  · have l1 : lg_cmp (-s) (-h) ≤ 0 := (lg_cmp_le _ _).mpr (eq.mpr le)
                    have l2 : ¬ lg_cmp s h < 0 := fun x => le ((lg_cmp_lt _ _).mp x)
                    refine ⟨z, ?_, ?_⟩
                    · rcases hu with ⟨rfl, rfl⟩ | ⟨x, x', rfl, rfl⟩
                      · exact sg_X10_extreme_66_4 _ _ _ _ _ _ q1 b5 l1 z1
                      · exact sg_X10_extreme_66_10 _ _ _ _ _ _ _ _ q1 b5 l1 z1
                    · rcases hv with rfl | ⟨x, rfl⟩
                      · exact sg_X11_extreme_64_4 _ _ _ _ _ _ b0 q1 l2 z2
                      · exact sg_X11_extreme_64_9 _ _ _ _ _ _ _ b0 q1 l2 z2
            obtain ⟨y, y1, y2⟩ := main
            refine ⟨y, ?_, ?_⟩
            · rcases hu with ⟨rfl, rfl⟩ | ⟨x, x', rfl, rfl⟩
              · exact sg_X10_extreme_25_1 _ _ _ _ _ h1 ci e3 (c_sumByNow hJ hD.d hD.bd _) y1
              · exact sg_X10_extreme_25_4 _ _ _ _ _ _ _ h1 ci e3 (c_sumByNow hJ hD.d hD.bd _) y1
            · rcases hv with rfl | ⟨x, rfl⟩
              · exact sg_X11_extreme_27_1 _ _ _ _ _ h2 i2 e4 (mo_balanceBy hJ hD.d _ _) y2
              · exact sg_X11_extreme_27_4 _ _ _ _ _ _ h2 i2 e4 (mo_balanceBy hJ hD.d _ _) y2
          · have e3 : ¬ I 4 (nI k).toNatClampNeg = nI c := by rw [cc]; exact e
            have e4 : ¬ I 40 ((40 : Int32) + nI k).toNatClampNeg = nI c := by rw [c2]; exact e
            obtain ⟨y, y1, y2⟩ := ih (k + 1) b m h u u' v (by omega) hb hm0 hm1 hbd hu hv
            rw [← nI_1 k] at y1 y2
            refine ⟨y, ?_, ?_⟩
            · rcases hu with ⟨rfl, rfl⟩ | ⟨x, x', rfl, rfl⟩
              · exact sg_X10_extreme_25_2 _ _ _ _ _ h1 ci e3 y1
              · exact sg_X10_extreme_25_5 _ _ _ _ _ _ _ h1 ci e3 y1
            · rcases hv with rfl | ⟨x, rfl⟩
              · exact sg_X11_extreme_27_2 _ _ _ _ _ h2 i2 e4 y2
              · exact sg_X11_extreme_27_5 _ _ _ _ _ _ h2 i2 e4 y2
      obtain ⟨y, y1, y2⟩ := key d.nA 0 (-5) 0 0 .null .null .null (by omega) (Or.inl rfl) (fun _ => rfl) (fun _ => by decide) (by decide +kernel) (Or.inl ⟨rfl, rfl⟩) (Or.inl rfl)
      exact op_roI hR y (sg_X10_extreme_0_0 _ _ (c_isCurrency1 hc) (sg_X10_extreme_4_1 _ _ _ (by decide) (c_isOneOfTwo1 hq) (sg_X10_extreme_11_1 _ _ _ (by decide) y1))) (sg_X11_extreme_0_0 _ _ (mo_isCurrency1 hc) (sg_X11_extreme_4_1 _ _ _ (by decide) (m_in2_1 hq) (sg_X11_extreme_13_1 _ _ _ (by decide) y2)))
/-! line -/
theorem lsum_add (f : Nat → Int64) (m : Nat) : ∀ k, lsum f (m + k) = lsum f m + lsum (fun i => f (m + i)) k
  | 0 => by rw [lsum, Int64.add_zero]; rfl
  | k + 1 => by rw [show m + (k + 1) = m + k + 1 by omega, lsum, lsum, lsum_add f m k, Int64.add_assoc]
theorem lsum_cut {f g : Nat → Int64} {s n : Nat} (h1 : s ≤ n) (h2 : ∀ i, i < s → f i = g i) (h3 : ∀ i, s ≤ i → i < n → f i = 0) : lsum f n = lsum g s := by
  obtain ⟨k, rfl⟩ : ∃ k, n = s + k := ⟨n - s, by omega⟩
  rw [lsum_add, lsum_congr h2, lsum_0 (fun i hi => h3 (s + i) (by omega) (by omega)), Int64.add_zero]
theorem ncnt_mono (q : Nat → Bool) (m : Nat) : ∀ k, ncnt q m ≤ ncnt q (m + k)
  | 0 => Nat.le_refl _
  | k + 1 => by
    have := ncnt_mono q m k
    rw [show m + (k + 1) = m + k + 1 by omega, ncnt]
    split <;> omega
theorem ncnt_find (q : Nat → Bool) (a : Nat) : ∀ n, a < ncnt q n → ∃ s, s < n ∧ q s = true ∧ ncnt q s = a
  | 0, h => by rw [ncnt] at h; omega
  | n + 1, h => by
    rw [ncnt] at h
    by_cases h1 : a < ncnt q n
    · obtain ⟨s, h2, h3⟩ := ncnt_find q a n h1
      exact ⟨s, by omega, h3⟩
    · by_cases hq : q n = true
      · rw [if_pos hq] at h
        exact ⟨n, by omega, hq, by omega⟩
      · rw [if_neg hq] at h; omega
theorem cl_at (h : rJ d I J K) (a : Int32) {j i : Nat} (hj : j < d.nJ) (hi : i < d.sz j) : cL I d.sz a (10 * j + i) = decide (J 40 (400 + (d.fs j + i)) = a) := by
  have hz := (h.z j hj).2
  show (decide ((10 * j + i) % 10 < d.sz ((10 * j + i) / 10)) && decide (I 14 (10 * j + i) = a)) = _
  rw [show (10 * j + i) / 10 = j by omega, show (10 * j + i) % 10 = i by omega, decide_eq_true hi, Bool.true_and, ← (h.a j hj i hi).2]
theorem cl_out (h : rJ d I J K) (a : Int32) {j i : Nat} (hj : j < d.nJ) (hi : d.sz j ≤ i) (hi2 : i < 10) : cL I d.sz a (10 * j + i) = false := by
  show (decide ((10 * j + i) % 10 < d.sz ((10 * j + i) / 10)) && decide (I 14 (10 * j + i) = a)) = _
  rw [show (10 * j + i) / 10 = j by omega, show (10 * j + i) % 10 = i by omega, decide_eq_false (by omega), Bool.false_and]
theorem cl_cnt2 (h : rJ d I J K) (a : Int32) {j : Nat} (hj : j < d.nJ) {i : Nat} (hi : i ≤ d.sz j) : ncnt (cL I d.sz a) (10 * j + i) = ncnt (fun p => decide (J 40 (400 + p) = a)) (d.fs j + i) := by
  rw [ncnt_add, cl_cnt h a j (by omega), ncnt_add]
  congr 1
  exact ncnt_congr (fun x hx => cl_at h a hj (by omega))
theorem cl_sum (h : rJ d I J K) (a : Int32) : ∀ j, j ≤ d.nJ → lsum (fun k => if cL I d.sz a k = true then (I 15 k).toInt64 else 0) (10 * j) = lsum (fun p => if decide (J 40 (400 + p) = a) = true then K 41 (60 + p) else 0) (d.fs j) := by
  intro j
  induction j with
  | zero => intro _; rw [h.f0]; rfl
  | succ j ih =>
    intro hj
    have hz := (h.z j (by omega)).2
    rw [show 10 * (j + 1) = 10 * j + 10 by omega, lsum_add, ih (by omega), h.fS j (by omega), lsum_add]
    congr 1
    refine lsum_cut hz (fun x hx => ?_) (fun x h1 h2 => ?_)
    · rw [cl_at h a (by omega) hx, (h.x j (by omega) x hx).2]
    · rw [cl_out h a (by omega) (by omega) (by omega), if_neg (by decide)]
theorem cl_sum2 (h : rJ d I J K) (a : Int32) {j : Nat} (hj : j < d.nJ) {i : Nat} (hi : i ≤ d.sz j) : lsum (fun k => if cL I d.sz a k = true then (I 15 k).toInt64 else 0) (10 * j + i) = lsum (fun p => if decide (J 40 (400 + p) = a) = true then K 41 (60 + p) else 0) (d.fs j + i) := by
  rw [lsum_add, cl_sum h a j (by omega), lsum_add]
  congr 1
  exact lsum_congr (fun x hx => by rw [cl_at h a hj (by omega), (h.x j hj x (by omega)).2])
theorem mo_journalOf (h : rJ d I J K) {j i : Nat} (hj : j < d.nJ) (hi : i < d.sz j) : zEv X mt_X11_journalOf 0 [.ref 39, .int (nI (d.fs j + i)), .null] [] (zSH im tl, J, K) (some (.int (nI j)), (zSH im tl, J, K)) := by
  have h60 := h.j60
  have hP := rj_p h
  refine sg_X11_journalOf_0_0 _ ?_
  have loop : ∀ f k, k + f = j → zEv X mt_X11_journalOf 2 [.ref 39, .int (nI (d.fs j + i)), .int (nI k)] [] (zSH im tl, J, K) (some (.int (nI j)), (zSH im tl, J, K)) := by
    intro f
    induction f with
    | zero =>
      intro k hk
      have : k = j := by omega
      subst this
      have hfz := rj_fz h hj
      refine sg_X11_journalOf_2_0 _ _ (k_in (nI_add 160 k) (by omega) (by omega)) (k_in (nI_add 220 k) (by omega) (by omega)) ?_
      rw [kx 160 (a := 160) rfl (by omega), kx 220 (a := 220) rfl (by omega), h.fm k hj, h.zm k hj, nI_add]
      exact nI_lt (by omega) (by omega)
    | succ f ih =>
      intro k hk
      have hkj : k < d.nJ := by omega
      have hfz := rj_fz h hkj
      have hfz2 := rj_fz h hj
      have hm := rj_mono h (j - (k + 1)) (k + 1) (by omega)
      rw [show k + 1 + (j - (k + 1)) = j by omega, h.fS k hkj] at hm
      refine sg_X11_journalOf_2_1 _ _ (k_in (nI_add 160 k) (by omega) (by omega)) (k_in (nI_add 220 k) (by omega) (by omega)) ?_ ?_
      · rw [kx 160 (a := 160) rfl (by omega), kx 220 (a := 220) rfl (by omega), h.fm k hkj, h.zm k hkj, nI_add]
        exact nI_nlt (by omega) (by omega)
      · rw [nI_1]; exact ih (k + 1) (by omega)
  exact loop j 0 (by omega)
theorem k_m1 (c : Nat) : nI c - 1 + 1 = nI c := by grind
theorem k_lem1 {a m : Nat} (ha : a < 2 ^ 30) (hm : m < 2 ^ 30) : nI a ≤ nI m - 1 ↔ a < m := by
  have e : (nI m - 1).toInt = (m : Int) - 1 := by
    have := pk_sub_toInt (a := m) (b := 1) hm (by omega)
    exact this
  rw [Int32.le_iff_toInt_le, e, nI_toInt (by omega)]
  omega
theorem mo_lineloop (h : rJ d I J K) (a i' w : Int32) {at' pm : Nat} (hp : pm < d.nP) (hq : decide (J 40 (400 + pm) = a) = true) (hc : ncnt (fun p => decide (J 40 (400 + p) = a)) pm = at') {r : Option Value × zM} (k : zEv X mt_X11_line 67 [.ref 39, .int a, .int i', .int w, .int (nI at'), .long (lsum (fun p => if decide (J 40 (400 + p) = a) = true then K 41 (60 + p) else 0) (pm + 1)), .null, .int (nI pm), .int (nI at')] [] (zSH im tl, J, K) r) : zEv X mt_X11_line 67 [.ref 39, .int a, .int i', .int w, .int (nI at'), .long 0, .null, .int (-1), .int (-1)] [] (zSH im tl, J, K) r := by
  have h60 := h.j60
  have hP := rj_p h
  have loop : ∀ f c, c + f = pm + 1 → zEv X mt_X11_line 67 [.ref 39, .int a, .int i', .int w, .int (nI at'), .long (lsum (fun p => if decide (J 40 (400 + p) = a) = true then K 41 (60 + p) else 0) c), .null, .int (nI c - 1), .int (nI (ncnt (fun p => decide (J 40 (400 + p) = a)) c) - 1)] [] (zSH im tl, J, K) r := by
    intro f
    induction f with
    | zero =>
      intro c hc'
      have : c = pm + 1 := by omega
      subst this
      rw [nI_pred, ncnt, if_pos hq, hc, nI_pred]
      exact k
    | succ f ih =>
      intro c hc'
      have h2 := ih (c + 1) (by omega)
      have hle : ncnt (fun p => decide (J 40 (400 + p) = a)) c ≤ at' := by
        have := ncnt_mono (fun p => decide (J 40 (400 + p) = a)) c (pm - c)
        rw [show c + (pm - c) = pm by omega, hc] at this
        exact this
      have hb := ncnt_le (fun p => decide (J 40 (400 + p) = a)) pm
      have nle : ¬ nI at' ≤ nI (ncnt (fun p => decide (J 40 (400 + p) = a)) c) - 1 := fun x => by
        have := (k_lem1 (by omega) (by omega)).mp x
        omega
      have e1 : nI c - 1 + 1 = nI c := k_m1 c
      have i4 : ¬ (((400 : Int32) + (nI c - 1 + 1)) < 0 ∨ 1280 ≤ ((400 : Int32) + (nI c - 1 + 1)).toNatClampNeg) := by rw [e1]; exact k_in (nI_add 400 c) (by omega) (by omega)
      have c4 : ((400 : Int32) + (nI c - 1 + 1)).toNatClampNeg = 400 + c := by rw [e1]; exact kx 400 (a := 400) rfl (by omega)
      rw [lsum, ncnt, nI_pred c] at h2
      by_cases ha : J 40 (400 + c) = a
      · rw [if_pos (decide_eq_true ha), if_pos (decide_eq_true ha), nI_pred] at h2
        refine sg_X11_line_67_1 _ _ _ _ _ _ _ nle i4 (by rw [c4]; exact ha) (by rw [e1]; exact k_in (nI_add 60 c) (by omega) (by omega)) ?_
        rw [e1, k_m1, kx 60 (a := 60) rfl (by omega)]
        exact h2
      · have nq : ¬ decide (J 40 (400 + c) = a) = true := by rw [decide_eq_false ha]; decide
        rw [if_neg nq, if_neg nq, Int64.add_zero] at h2
        refine sg_X11_line_67_2 _ _ _ _ _ _ _ nle i4 (by rw [c4]; exact ha) ?_
        rw [e1]
        exact h2
  exact loop (pm + 1) 0 (by omega)
theorem op_line_at (hR : rAll d im tl I L) {j : Nat} (i' : Int32) {at' w : Nat} (hj : j < d.nA) (hat : at' < ncnt (cL I d.sz (nI j)) (10 * d.nJ)) (hw : w < 4) : ∃ v, zEv X mt_X4_lineAt 0 [.ref 9, .int (nI j), .int (nI at'), .int (nI w), .null, .null, .null, .null] [] (zSH im tl, I, L) (some (.long v), (zSH im tl, I, L)) ∧ zEv X mt_X11_line 51 [.ref 39, .int (nI j), .int i', .int (nI w), .int (nI at'), .null, .null, .null, .null] [.int 1] (zSH im tl, I, L) (some (.long v), (zSH im tl, I, L)) := by
  have hJ := hR.1.rj
  have h60 := hJ.j60
  have hP := rj_p hJ
  obtain ⟨s, hs, hq, hn⟩ := ncnt_find _ _ _ hat
  obtain ⟨g, i, rfl, hi⟩ : ∃ g i, s = 10 * g + i ∧ i < d.sz g := by
    refine ⟨s / 10, s % 10, by omega, ?_⟩
    have : (decide (s % 10 < d.sz (s / 10)) && decide (I 14 s = nI j)) = true := hq
    simp at this
    exact this.1
  have hg : g < d.nJ := by omega
  have hz := (hJ.z g hg).2
  have hfz := rj_fz hJ hg
  have hq2 := hq
  rw [cl_at hJ _ hg hi] at hq2
  have hn2 := hn
  rw [cl_cnt2 hJ _ hg (by omega)] at hn2
  have hc := cj_lineAt (X := X) (im := im) (tl := tl) (L := L) hJ.c hJ.z h60 (nI j) hs hq hw
  rw [hn] at hc
  refine ⟨_, hc, sg_X11_line_51_1 _ _ _ _ _ (by decide) (mo_lineloop hJ _ _ _ (by omega) hq2 hn2 ?_)⟩
  rw [show 10 * g + i + 1 = 10 * g + (i + 1) by omega, cl_sum2 hJ (nI j) hg (i := i + 1) (by omega), show d.fs g + i + 1 = d.fs g + (i + 1) by omega]
  have e10 : (10 * g + i) / 10 = g := by omega
  rcases (show w = 0 ∨ w = 1 ∨ w = 2 ∨ w = 3 by omega) with rfl | rfl | rfl | rfl
  · refine sg_X11_line_67_0 _ _ _ _ _ _ _ (Int32.le_refl _) (fun _ => sg_X11_line_144_0 _ _ _ _ _ _ _ (mo_journalOf hJ hg hi) (ev_r (sg_X11_line_156_0 _ _ _ _ _ _ _ _ _ (k_in (nI_add 100 g) (by omega) (by omega))) ?_)) ?_ ?_ ?_
    · rw [kx 100 (a := 100) rfl (by omega), hJ.dm g hg, cLo, if_pos rfl, e10]
    all_goals exact fun e => absurd e (by decide)
  · refine sg_X11_line_67_0 _ _ _ _ _ _ _ (Int32.le_refl _) ?_ (fun _ => sg_X11_line_160_0 _ _ _ _ _ _ _ (mo_journalOf hJ hg hi) (ev_r (sg_X11_line_166_0 _ _ _ _ _ _ _ _) ?_)) ?_ ?_
    rotate_left
    · rw [cLo, if_neg (by decide), if_pos rfl, e10]
    all_goals exact fun e => absurd e (by decide)
  · refine sg_X11_line_67_0 _ _ _ _ _ _ _ (Int32.le_refl _) ?_ ?_ (fun _ => ev_r (sg_X11_line_168_0 _ _ _ _ _ _ _ (k_in (nI_add 60 (d.fs g + i)) (by omega) (by omega))) ?_) ?_
    rotate_left 2
    · rw [kx 60 (a := 60) rfl (by omega), (hJ.x g hg i hi).2, cLo, if_neg (by decide), if_neg (by decide), if_pos rfl]
    all_goals exact fun e => absurd e (by decide)
  · refine sg_X11_line_67_0 _ _ _ _ _ _ _ (Int32.le_refl _) ?_ ?_ ?_ (fun _ => ev_r (sg_X11_line_179_0 _ _ _ _ _ _ _) ?_)
    rotate_left 3
    · rw [cLo, if_neg (by decide), if_neg (by decide), if_neg (by decide)]
    all_goals exact fun e => absurd e (by decide)
theorem op_line (hR : rAll d im tl I L) (a i w : Int32) : zOpL X im tl I L mt_X10_line mt_X11_line [.ref 0, .int a, .int i, .int w, .null, .null] [.ref 39, .int a, .int i, .int w, .null, .null, .null, .null, .null] := by
  have hA := hR.1.ra
  have hJ := hR.1.rj
  have h30 := hA.n30
  have h60 := hJ.j60
  rcases k_ix a d.nA (by omega) with h | ⟨j, hj, rfl⟩
  · exact op_roL hR _ (sg_X10_line_0_0 _ _ _ (cv_has0 hA.c h) (sg_X10_line_11_0 _ _ _ _ rfl)) (sg_X11_line_0_0 _ _ _ (mo_isAccount0 hA.m hA.n1 h30 h) (sg_X11_line_5_0 _ _ _ _ rfl))
  · rcases k_ix w 4 (by omega) with h | ⟨w, hw, rfl⟩
    · refine op_roL hR _ (sg_X10_line_0_0 _ _ _ (cv_has1 hA.c hj h30) ?_) (sg_X11_line_0_0 _ _ _ (mo_isAccount1 hA.m hj h30) (sg_X11_line_5_1 _ _ _ _ (by decide) (m_inN_0 (n := 4) (by decide +kernel) (by omega) h) (sg_X11_line_14_0 _ _ _ _ rfl)))
      by_cases h0 : w < 0
      · exact sg_X10_line_11_1 _ _ _ _ (by decide) h0
      · refine sg_X10_line_11_3 _ _ _ _ (by decide) h0 (fun x => ?_)
        have h1 := h.resolve_left h0
        exact absurd (Int32.le_trans h1 x) (by decide)
    · have hcnt := ncnt_le (cL I d.sz (nI j)) (10 * d.nJ)
      have hlo := mo_linesOf (X := X) (im := im) (tl := tl) hJ (nI j)
      rw [cl_all hJ] at hlo
      have w0 : ¬ nI w < 0 := nI_pos (by omega)
      have w3 : nI w ≤ 3 := k_le (b := 3) rfl rfl (by omega) (by omega)
      have mw : zEv X mt_X11_in 0 [.int (nI w), .int 0, .int 3] [] (zSH im tl, I, L) (some (.int 1), (zSH im tl, I, L)) := m_inN_1 (n := 4) rfl hw (by omega)
      have hcl := cj_countLines (X := X) (im := im) (tl := tl) (L := L) hJ.c hJ.z h60 (nI j)
      by_cases hi0 : (0 : Int32) ≤ i
      · have hni : ¬ i < 0 := Int32.not_lt.mpr hi0
        rcases k_ix i (ncnt (cL I d.sz (nI j)) (10 * d.nJ)) (by omega) with h | ⟨at', hat, rfl⟩
        · exact op_roL hR _ (sg_X10_line_0_0 _ _ _ (cv_has1 hA.c hj h30) (sg_X10_line_11_2 _ _ _ _ (by decide) w0 w3 hcl (sg_X10_line_38_2 _ _ _ _ hi0 hni (Int32.not_lt.mpr (h.resolve_left hni))))) (sg_X11_line_0_0 _ _ _ (mo_isAccount1 hA.m hj h30) (sg_X11_line_5_1 _ _ _ _ (by decide) mw (sg_X11_line_14_1 _ _ _ _ (by decide) hi0 hlo (sg_X11_line_46_0 _ _ _ _ _ _ _ (m_inN_0 rfl (by omega) h) (sg_X11_line_51_0 _ _ _ _ _ rfl)))))
        · obtain ⟨v, v1, v2⟩ := op_line_at (X := X) hR (nI at') hj hat hw
          exact op_roL hR v (sg_X10_line_0_0 _ _ _ (cv_has1 hA.c hj h30) (sg_X10_line_11_2 _ _ _ _ (by decide) w0 w3 hcl (sg_X10_line_38_1 _ _ _ _ hi0 hni (k_lt rfl rfl hat (by omega)) v1 (sg_X10_line_84_0 _ _ _ _ _ _)))) (sg_X11_line_0_0 _ _ _ (mo_isAccount1 hA.m hj h30) (sg_X11_line_5_1 _ _ _ _ (by decide) mw (sg_X11_line_14_1 _ _ _ _ (by decide) hi0 hlo (sg_X11_line_46_0 _ _ _ _ _ _ _ (m_inN_1 (by rw [nI_sub1 (by omega)]) hat (by omega)) v2))))
      · rcases k_ix (nI (ncnt (cL I d.sz (nI j)) (10 * d.nJ)) + i) (ncnt (cL I d.sz (nI j)) (10 * d.nJ)) (by omega) with h | ⟨at', hat, e⟩
        · refine op_roL hR _ (sg_X10_line_0_0 _ _ _ (cv_has1 hA.c hj h30) (sg_X10_line_11_2 _ _ _ _ (by decide) w0 w3 hcl ?_)) (sg_X11_line_0_0 _ _ _ (mo_isAccount1 hA.m hj h30) (sg_X11_line_5_1 _ _ _ _ (by decide) mw (sg_X11_line_14_2 _ _ _ _ (by decide) hi0 hlo (sg_X11_line_30_0 _ _ _ _ hlo (sg_X11_line_46_0 _ _ _ _ _ _ _ (m_inN_0 rfl (by omega) h) (sg_X11_line_51_0 _ _ _ _ _ rfl))))))
          by_cases h0 : nI (ncnt (cL I d.sz (nI j)) (10 * d.nJ)) + i < 0
          · exact sg_X10_line_38_3 _ _ _ _ hi0 h0
          · exact sg_X10_line_38_5 _ _ _ _ hi0 h0 (Int32.not_lt.mpr (h.resolve_left h0))
        · obtain ⟨v, v1, v2⟩ := op_line_at (X := X) hR i hj hat hw
          rw [← e] at v1 v2
          refine op_roL hR v (sg_X10_line_0_0 _ _ _ (cv_has1 hA.c hj h30) (sg_X10_line_11_2 _ _ _ _ (by decide) w0 w3 hcl (sg_X10_line_38_4 _ _ _ _ hi0 (by rw [e]; exact nI_pos (by omega)) (by rw [e]; exact nI_lt hat (by omega)) v1 (sg_X10_line_84_0 _ _ _ _ _ _)))) (sg_X11_line_0_0 _ _ _ (mo_isAccount1 hA.m hj h30) (sg_X11_line_5_1 _ _ _ _ (by decide) mw (sg_X11_line_14_2 _ _ _ _ (by decide) hi0 hlo (sg_X11_line_30_0 _ _ _ _ hlo (sg_X11_line_46_0 _ _ _ _ _ _ _ ?_ v2)))))
          rw [e]
          exact m_inN_1 (by rw [nI_sub1 (by omega)]) hat (by omega)
end O7
