section BR
variable {X : zSc} {im : Option Nat} {tl : List zS} {I J : zI} {L K : zL} {d : zD}
/-- the sum of a branch in a currency -/
def cB (I : zI) (d : zD) (t : Nat) (c lo hi : Int32) : Int64 := lsum (fun k => if I 4 k = c then (if ib d.p 30 k t = true then cSum I d.sz d.nJ (nI k) lo hi else 0) else 0) d.nA
theorem lsum_0 {f : Nat → Int64} : ∀ {n : Nat}, (∀ k, k < n → f k = 0) → lsum f n = 0
  | 0, _ => rfl
  | n + 1, h => by rw [lsum, lsum_0 (fun k hk => h k (by omega)), h n (by omega)]; rfl
theorem cb_sumOfBranch (hA : rA d I L J K) (hJ : rJ d I J K) {t : Nat} (ht : t < d.nA) (c lo hi : Int32) : zEv X mt_X0_sumOfBranch 0 [.ref 1, .int (nI t), .int c, .int lo, .int hi, .null, .null, .null] [] (zSH im tl, I, L) (some (.long (cB I d t c lo hi)), (zSH im tl, I, L)) := by
  have h30 := hA.n30
  refine sg_X0_sumOfBranch_0_0 _ _ _ _ ?_
  have loop : ∀ (f k : Nat), k + f = d.nA → zEv X mt_X0_sumOfBranch 6 [.ref 1, .int (nI t), .int c, .int lo, .int hi, .long (lsum (fun k => if I 4 k = c then (if ib d.p 30 k t = true then cSum I d.sz d.nJ (nI k) lo hi else 0) else 0) k), .null, .int (nI k)] [] (zSH im tl, I, L) (some (.long (cB I d t c lo hi)), (zSH im tl, I, L)) := by
    intro f
    induction f with
    | zero =>
      intro k hk
      have : k = d.nA := by omega
      subst this
      exact sg_X0_sumOfBranch_6_0 _ _ _ _ _ _ (by rw [hA.c]; exact nI_le (Nat.le_refl _) (by omega))
    | succ f ih =>
      intro k hk
      have e1 : nI k + 1 = nI (k + 1) := nI_1 k
      have h2 := ih (k + 1) (by omega)
      rw [lsum, ← e1] at h2
      have hn := k_nle hA.c (rfl : nI k = nI k) (by omega) (by omega)
      have hi := k_in (x := nI k) (n := 30) rfl (by omega) (by omega)
      have ec : (nI k).toNatClampNeg = k := kc (by omega)
      by_cases hc : I 4 k = c
      · rw [if_pos hc] at h2
        refine sg_X0_sumOfBranch_6_1 _ _ _ _ _ _ hn hi (by rw [ec]; exact hc) (cv_isInBranch h30 hA.pp (by omega) ht) ?_
        cases hb : ib d.p 30 k t with
        | false =>
          rw [hb, if_neg (by decide), Int64.add_zero] at h2
          exact sg_X0_sumOfBranch_42_0 _ _ _ _ _ _ _ rfl h2
        | true =>
          rw [hb, if_pos rfl] at h2
          exact sg_X0_sumOfBranch_42_1 _ _ _ _ _ _ _ (by decide) (cj_sum hJ.c hJ.z hJ.j60 _ _ _) (sg_X0_sumOfBranch_59_0 _ _ _ _ _ _ _ _ h2)
      · rw [if_neg hc, Int64.add_zero] at h2
        exact sg_X0_sumOfBranch_6_2 _ _ _ _ _ _ hn hi (by rw [ec]; exact hc) h2
  have h0 := loop (d.nA - t) t (by omega)
  rw [lsum_0 (n := t) (fun k hk => by rw [ib_lt hk, if_neg (by decide : ¬ false = true)]; split <;> rfl)] at h0
  exact h0
theorem mo_branchBy (hA : rA d I L J K) (hJ : rJ d I J K) (hd : d.day ≤ 999) {t : Nat} (ht : t < d.nA) (c day : Int32) : zEv X mt_X11_branchBy 0 [.ref 39, .int (nI t), .int c, .int day, .null, .null, .null] [] (zSH im tl, J, K) (some (.long (cB I d t c 0 day)), (zSH im tl, J, K)) := by
  have h30 := hA.n30
  refine sg_X11_branchBy_0_0 _ _ _ ?_
  have loop : ∀ (f k : Nat), k + f = d.nA → zEv X mt_X11_branchBy 6 [.ref 39, .int (nI t), .int c, .int day, .long (lsum (fun k => if I 4 k = c then (if ib d.p 30 k t = true then cSum I d.sz d.nJ (nI k) 0 day else 0) else 0) k), .null, .int (nI k)] [] (zSH im tl, J, K) (some (.long (cB I d t c 0 day)), (zSH im tl, J, K)) := by
    intro f
    induction f with
    | zero =>
      intro k hk
      have : k = d.nA := by omega
      subst this
      exact sg_X11_branchBy_6_0 _ _ _ _ _ (by rw [hA.m]; exact nI_le (Nat.le_refl _) (by omega))
    | succ f ih =>
      intro k hk
      have e1 : nI k + 1 = nI (k + 1) := nI_1 k
      have h2 := ih (k + 1) (by omega)
      rw [lsum, ← e1] at h2
      have hn := k_nle hA.m (rfl : nI k = nI k) (by omega) (by omega)
      have hi := k_in (x := 40 + nI k) (n := 1280) (nI_add 40 k) (by omega) (by omega)
      have ec : J 40 ((40 : Int32) + nI k).toNatClampNeg = I 4 k := by rw [kx 40 (a := 40) rfl (by omega), hA.cu k (by omega)]
      by_cases hc : I 4 k = c
      · rw [if_pos hc] at h2
        refine sg_X11_branchBy_6_1 _ _ _ _ _ hn hi (by rw [ec]; exact hc) (mo_isOf h30 (fun k a b => (hA.pp k a b).1) hA.pm hA.pm0 (by omega) ht) ?_
        cases hb : ib d.p 30 k t with
        | false =>
          rw [hb, if_neg (by decide), Int64.add_zero] at h2
          exact sg_X11_branchBy_38_0 _ _ _ _ _ _ rfl h2
        | true =>
          rw [hb, if_pos rfl] at h2
          exact sg_X11_branchBy_38_1 _ _ _ _ _ _ (by decide) (mo_balanceBy hJ hd _ _) (sg_X11_branchBy_50_0 _ _ _ _ _ _ _ h2)
      · rw [if_neg hc, Int64.add_zero] at h2
        exact sg_X11_branchBy_6_2 _ _ _ _ _ hn hi (by rw [ec]; exact hc) h2
  exact loop d.nA 0 (by omega)
/-- the class's lines and the model's postings -/
theorem ncnt_add (q : Nat → Bool) (m : Nat) : ∀ k, ncnt q (m + k) = ncnt q m + ncnt (fun i => q (m + i)) k
  | 0 => rfl
  | k + 1 => by
    rw [show m + (k + 1) = m + k + 1 by omega, ncnt, ncnt, ncnt_add q m k]
    split <;> omega
theorem ncnt_cut {q r : Nat → Bool} {s n : Nat} (h1 : s ≤ n) (h2 : ∀ i, i < s → q i = r i) (h3 : ∀ i, s ≤ i → i < n → q i = false) : ncnt q n = ncnt r s := by
  obtain ⟨k, rfl⟩ : ∃ k, n = s + k := ⟨n - s, by omega⟩
  rw [ncnt_add, ncnt_congr h2, ncnt_0 (fun i hi => h3 (s + i) (by omega) (by omega)), Nat.add_zero]
theorem cl_cnt (h : rJ d I J K) (a : Int32) : ∀ j, j ≤ d.nJ → ncnt (cL I d.sz a) (10 * j) = ncnt (fun p => decide (J 40 (400 + p) = a)) (d.fs j) := by
  intro j
  induction j with
  | zero => intro _; rw [h.f0]; rfl
  | succ j ih =>
    intro hj
    have hz := (h.z j (by omega)).2
    rw [show 10 * (j + 1) = 10 * j + 10 by omega, ncnt_add, ih (by omega), h.fS j (by omega), ncnt_add]
    congr 1
    refine ncnt_cut hz (fun i hi => ?_) (fun i h1 h2 => ?_)
    · show (decide ((10 * j + i) % 10 < d.sz ((10 * j + i) / 10)) && decide (I 14 (10 * j + i) = a)) = _
      rw [show (10 * j + i) / 10 = j by omega, show (10 * j + i) % 10 = i by omega, decide_eq_true hi, Bool.true_and, ← (h.a j (by omega) i hi).2]
    · show (decide ((10 * j + i) % 10 < d.sz ((10 * j + i) / 10)) && decide (I 14 (10 * j + i) = a)) = _
      rw [show (10 * j + i) / 10 = j by omega, show (10 * j + i) % 10 = i by omega, decide_eq_false (by omega), Bool.false_and]
theorem cl_all (h : rJ d I J K) (a : Int32) : ncnt (fun p => decide (J 40 (400 + p) = a)) d.nP = ncnt (cL I d.sz a) (10 * d.nJ) := by
  rw [cl_cnt h a d.nJ (Nat.le_refl _), h.fE]
end BR
