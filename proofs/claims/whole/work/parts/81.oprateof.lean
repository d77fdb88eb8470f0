section OR2
variable {X : zSc} {im : Option Nat} {tl : List zS} {I J : zI} {L K : zL} {d : zD}
theorem c_half {p : Nat} (hp : p < 2) (a b : Int64) (R : Nat → Int64) : zEv X mt_X3_half 0 [.ref 38, .int (nI p)] [] (zSH im tl, I, va_up L 38 (g38 R a b)) (some (.long (if p = 0 then a else b)), (zSH im tl, I, va_up L 38 (g38 R a b))) := by
  by_cases h : p = 0
  · subst h
    exact sg_X3_half_0_0 _ rfl
  · rw [if_neg h]
    have : p = 1 := by omega
    subst this
    exact sg_X3_half_0_1 _ (by decide)
theorem op_rateOf (hR : rAll d im tl I L) (c t p : Int32) : zOpI X im tl I L mt_X10_rateOf mt_X11_rateOf [.ref 0, .int c, .int t, .int p, .null] [.ref 39, .int c, .int t, .int p] := by
  rcases k_ix c 4 (by omega) with h | ⟨c, hc, rfl⟩
  · exact op_roI hR _ (sg_X10_rateOf_0_0 _ _ _ (c_isCurrency0 h) (sg_X10_rateOf_4_0 _ _ _ _ rfl)) (sg_X11_rateOf_0_0 _ _ _ (mo_isCurrency0 h) (sg_X11_rateOf_4_0 _ _ _ _ rfl))
  · rcases k_ix p 2 (by omega) with h | ⟨p, hp, rfl⟩
    · exact op_roI hR _ (sg_X10_rateOf_0_0 _ _ _ (c_isCurrency1 hc) (sg_X10_rateOf_4_1 _ _ _ _ (by decide) (c_isOneOfTwo0 h) (sg_X10_rateOf_11_0 _ _ _ _ rfl))) (sg_X11_rateOf_0_0 _ _ _ (mo_isCurrency1 hc) (sg_X11_rateOf_4_1 _ _ _ _ (by decide) (m_in2_0 h) (sg_X11_rateOf_13_0 _ _ _ _ rfl)))
    · rcases k_ix t 1000 (by omega) with h | ⟨t, ht, rfl⟩
      · exact op_roI hR _ (sg_X10_rateOf_0_0 _ _ _ (c_isCurrency1 hc) (sg_X10_rateOf_4_1 _ _ _ _ (by decide) (c_isOneOfTwo1 hp) (sg_X10_rateOf_11_1 _ _ _ _ (by decide) (c_isDay0 h) (sg_X10_rateOf_20_0 _ _ _ _ rfl)))) (sg_X11_rateOf_0_0 _ _ _ (mo_isCurrency1 hc) (sg_X11_rateOf_4_1 _ _ _ _ (by decide) (m_in2_1 hp) (sg_X11_rateOf_13_1 _ _ _ _ (by decide) (mo_isDay0 h) (sg_X11_rateOf_22_0 _ _ _ _ rfl))))
      · have hr := hR.1.rr
        obtain ⟨a, b, a1, a2, b1, b2, ha, hb, -⟩ := q_rng (J := I) hr hc (nI t)
        refine ⟨(if p = 0 then gA a b else gB a b).toInt32, I, va_up L 38 (g38 (L 38) (gA a b) (gB a b)), I, va_up (va_up L 38 (g38 (L 38) (gA a b) (gB a b))) 39 (g39 (L 39) (gA a b) (gB a b)), d, sg_X10_rateOf_0_0 _ _ _ (c_isCurrency1 hc) (sg_X10_rateOf_4_1 _ _ _ _ (by decide) (c_isOneOfTwo1 hp) (sg_X10_rateOf_11_1 _ _ _ _ (by decide) (c_isDay1 ht) (sg_X10_rateOf_20_1 _ _ _ _ (by decide) (c_findHeld hr hc _) (sg_X10_rateOf_38_0 _ _ _ _ (c_aboveAt hr hc _ _) (sg_X10_rateOf_56_0 _ _ _ _ _ (c_belowAt hr hc _ _) (sg_X10_rateOf_68_0 _ _ _ _ _ _ (c_become ha hb (by omega) (by omega) (by omega) (by omega)) (sg_X10_rateOf_71_0 _ _ _ _ (c_half hp _ _ _) (sg_X10_rateOf_79_0 _ _ _ _ _)))))))), sg_X11_rateOf_0_0 _ _ _ (mo_isCurrency1 hc) (sg_X11_rateOf_4_1 _ _ _ _ (by decide) (m_in2_1 hp) (sg_X11_rateOf_13_1 _ _ _ _ (by decide) (mo_isDay1 ht) (sg_X11_rateOf_22_1 _ _ _ _ (by decide) (m_rateBy (J := I) hr hc _ ha hb a2 b1 b2 _) ?_))), hR⟩
        by_cases h0 : p = 0
        · subst h0
          exact sg_X11_rateOf_34_0 _ _ _ rfl
        · rw [if_neg h0]
          exact sg_X11_rateOf_34_1 _ _ _ (nI_ne0 (by omega) (by omega))
/-! the sum of a branch is bounded: a posting is of one account -/
def nsum (f : Nat → Nat) : Nat → Nat
  | 0 => 0
  | n + 1 => nsum f n + f n
theorem nsum_le {f g : Nat → Nat} : ∀ {n : Nat}, (∀ i, i < n → f i ≤ g i) → nsum f n ≤ nsum g n
  | 0, _ => Nat.le_refl _
  | n + 1, h => by
    have h1 := nsum_le (n := n) (fun i hi => h i (by omega))
    have h2 := h n (by omega)
    rw [nsum, nsum]; omega
theorem nsum_add (f g : Nat → Nat) : ∀ n, nsum (fun i => f i + g i) n = nsum f n + nsum g n
  | 0 => rfl
  | n + 1 => by
    rw [nsum, nsum, nsum, nsum_add f g n]; omega
theorem nsum_one (x : Int32) : ∀ n, n < 2 ^ 31 → nsum (fun k => if x = nI k then 1 else 0) n ≤ 1
  | 0, _ => by rw [nsum]; omega
  | n + 1, hn => by
    rw [nsum]
    have h1 := nsum_one x n (by omega)
    by_cases e : x = nI n
    · rw [if_pos e]
      have h2 : ∀ m, m ≤ n → nsum (fun k => if x = nI k then 1 else 0) m = 0 := by
        intro m
        induction m with
        | zero => intro _; rfl
        | succ m ih =>
          intro hm
          rw [nsum, ih (by omega), if_neg (fun q => by rw [e, nI_eq (by omega) (by omega)] at q; omega)]
      rw [h2 n (Nat.le_refl _)]
      omega
    · rw [if_neg e]; omega
/-- so many of the first n places are of account k -/
def nof (A : Nat → Int32) (k : Nat) : Nat → Nat
  | 0 => 0
  | n + 1 => nof A k n + (if A n = nI k then 1 else 0)
theorem nof_sum (A : Nat → Int32) {nA : Nat} (hA : nA < 2 ^ 31) : ∀ n, nsum (fun k => nof A k n) nA ≤ n
  | 0 => by
    have : ∀ m, nsum (fun k => nof A k 0) m = 0 := by
      intro m
      induction m with
      | zero => rfl
      | succ m ih => rw [nsum, ih]; rfl
    rw [this]; omega
  | n + 1 => by
    have h1 := nof_sum A hA n
    have h2 := nsum_one (A n) nA hA
    have h3 := nsum_add (fun k => nof A k n) (fun k => if A n = nI k then 1 else 0) nA
    show nsum (fun k => nof A k n + (if A n = nI k then 1 else 0)) nA ≤ n + 1
    rw [h3]; omega
theorem nof_mono (A : Nat → Int32) (k m : Nat) : ∀ n, nof A k m ≤ nof A k (m + n)
  | 0 => Nat.le_refl _
  | n + 1 => by
    have := nof_mono A k m n
    show nof A k m ≤ nof A k (m + n) + (if A (m + n) = nI k then 1 else 0)
    omega
theorem b_add {x y : Int64} {m n : Nat} (hx : x.toInt.natAbs ≤ 1000000 * m) (hy : y.toInt.natAbs ≤ 1000000 * n) (hb : m + n ≤ 1000000) : (x + y).toInt.natAbs ≤ 1000000 * (m + n) := by
  rw [Int64.toInt_add, Int.bmod_eq_of_le (by omega) (by omega)]
  omega
theorem z64 : (0 : Int64).toInt = 0 := by decide +kernel
theorem cS_bd2 (h : rJ d I J K) {j : Nat} (hj : j < d.nJ) (k : Nat) : nof (I 14) k (10 * j) ≤ 600 → (cS I d.sz (nI k) j).toInt.natAbs ≤ 1000000 * (nof (I 14) k (10 * j + d.sz j) - nof (I 14) k (10 * j)) := by
  intro _
  have hz := (h.z j hj).2
  have loop : ∀ i, i ≤ d.sz j → (lsum (fun i => if I 14 (10 * j + i) = nI k then (I 15 (10 * j + i)).toInt64 else 0) i).toInt.natAbs ≤ 1000000 * (nof (I 14) k (10 * j + i) - nof (I 14) k (10 * j)) ∧ nof (I 14) k (10 * j + i) - nof (I 14) k (10 * j) ≤ i := by
    intro i
    induction i with
    | zero =>
      intro _
      show (0 : Int64).toInt.natAbs ≤ _ ∧ _
      rw [z64, Nat.add_zero]
      omega
    | succ i ih =>
      intro hi
      obtain ⟨h1, h2⟩ := ih (by omega)
      have h3 := nof_mono (I 14) k (10 * j) i
      have h4 := (h.x j hj i (by omega)).1
      have e1 : nof (I 14) k (10 * j + (i + 1)) = nof (I 14) k (10 * j + i) + (if I 14 (10 * j + i) = nI k then 1 else 0) := rfl
      rw [lsum, e1]
      by_cases e : I 14 (10 * j + i) = nI k
      · rw [if_pos e, if_pos e]
        have h5 : (I 15 (10 * j + i)).toInt64.toInt.natAbs ≤ 1000000 * 1 := by
          rw [Int32.toInt_toInt64]; omega
        have h6 := b_add h1 h5 (by omega)
        rw [show nof (I 14) k (10 * j + i) + 1 - nof (I 14) k (10 * j) = nof (I 14) k (10 * j + i) - nof (I 14) k (10 * j) + 1 by omega]
        exact ⟨h6, by omega⟩
      · rw [if_neg e, if_neg e, Int64.add_zero, Nat.add_zero]
        exact ⟨h1, by omega⟩
  exact (loop (d.sz j) (Nat.le_refl _)).1
theorem nof_le (A : Nat → Int32) (k : Nat) : ∀ n, nof A k n ≤ n
  | 0 => Nat.le_refl _
  | n + 1 => by
    have := nof_le A k n
    show nof A k n + (if A n = nI k then 1 else 0) ≤ n + 1
    split <;> omega
theorem cSum_bd2 (h : rJ d I J K) (k : Nat) (lo hi : Int32) : (cSum I d.sz d.nJ (nI k) lo hi).toInt.natAbs ≤ 1000000 * nof (I 14) k (10 * d.nJ) := by
  have h60 := h.j60
  have loop : ∀ j, j ≤ d.nJ → (lsum (fun j => if I 10 j < lo then 0 else if hi < I 10 j then 0 else cS I d.sz (nI k) j) j).toInt.natAbs ≤ 1000000 * nof (I 14) k (10 * j) := by
    intro j
    induction j with
    | zero =>
      intro _
      show (0 : Int64).toInt.natAbs ≤ _
      rw [z64]; omega
    | succ j ih =>
      intro hj
      have h1 := ih (by omega)
      have hz := (h.z j (by omega)).2
      have h2 := nof_le (I 14) k (10 * j)
      have h3 := cS_bd2 h (show j < d.nJ by omega) k (by omega)
      have h4 := nof_mono (I 14) k (10 * j) (d.sz j)
      have h5 := nof_mono (I 14) k (10 * j + d.sz j) (10 - d.sz j)
      rw [show 10 * j + d.sz j + (10 - d.sz j) = 10 * (j + 1) by omega] at h5
      have h6 := nof_le (I 14) k (10 * (j + 1))
      rw [lsum]
      have h7 : (lsum (fun j => if I 10 j < lo then 0 else if hi < I 10 j then 0 else cS I d.sz (nI k) j) j + 0).toInt.natAbs ≤ 1000000 * nof (I 14) k (10 * (j + 1)) := by
        rw [Int64.add_zero]; omega
      split
      · exact h7
      · split
        · exact h7
        · have h8 := b_add h1 h3 (by omega)
          omega
  exact loop d.nJ (Nat.le_refl _)
theorem cB_bd (h : rJ d I J K) (hA : d.nA ≤ 30) (t : Nat) (c lo hi : Int32) : (cB I d t c lo hi).toInt.natAbs ≤ 600000000 := by
  have h60 := h.j60
  have h0 := nof_sum (I 14) (nA := d.nA) (by omega) (10 * d.nJ)
  have loop : ∀ n, n ≤ d.nA → (lsum (fun k => if I 4 k = c then (if ib d.p 30 k t = true then cSum I d.sz d.nJ (nI k) lo hi else 0) else 0) n).toInt.natAbs ≤ 1000000 * nsum (fun k => nof (I 14) k (10 * d.nJ)) n ∧ nsum (fun k => nof (I 14) k (10 * d.nJ)) n ≤ 600 * n := by
    intro n
    induction n with
    | zero =>
      intro _
      show (0 : Int64).toInt.natAbs ≤ _ ∧ 0 ≤ _
      rw [z64]; omega
    | succ n ih =>
      intro hn
      obtain ⟨h1, h2⟩ := ih (by omega)
      have h3 := cSum_bd2 h n lo hi
      have h4 := nof_le (I 14) n (10 * d.nJ)
      have e1 : nsum (fun k => nof (I 14) k (10 * d.nJ)) (n + 1) = nsum (fun k => nof (I 14) k (10 * d.nJ)) n + nof (I 14) n (10 * d.nJ) := rfl
      rw [lsum, e1]
      refine ⟨?_, by omega⟩
      have h7 : (lsum (fun k => if I 4 k = c then (if ib d.p 30 k t = true then cSum I d.sz d.nJ (nI k) lo hi else 0) else 0) n + 0).toInt.natAbs ≤ 1000000 * (nsum (fun k => nof (I 14) k (10 * d.nJ)) n + nof (I 14) n (10 * d.nJ)) := by
        rw [Int64.add_zero]; omega
      split
      · split
        · exact b_add h1 h3 (by omega)
        · exact h7
      · exact h7
  have h1 := (loop d.nA (Nat.le_refl _)).1
  have h2 : (cB I d t c lo hi).toInt.natAbs ≤ 1000000 * nsum (fun k => nof (I 14) k (10 * d.nJ)) d.nA := h1
  omega
end OR2
