/-- so many are above one -/
def dep (p : Nat → Nat) : Nat → Nat → Nat
  | 0, _ => 0
  | f + 1, a => if a = 0 then 0 else dep p f (p a) + 1
/-- where two ways meet -/
def mee (p : Nat → Nat) : Nat → Nat → Nat → Nat
  | 0, a, _ => a
  | f + 1, a, b => if a = b then a else if b < a then mee p f (p a) b else mee p f a (p b)
section PC
variable {X : zSc} {im : Option Nat} {tl : List zS} {I : zI} {L : zL}
/-! the chart's methods -/
theorem cv_has1 {nA k : Nat} (hA : I 2 0 = nI nA) (hk : k < nA) (h30 : nA ≤ 30) : zEv X mt_X2_has 0 [.ref 2, .int (nI k)] [] (zSH im tl, I, L) (some (.int 1), (zSH im tl, I, L)) :=
  sg_X2_has_0_2 _ (k_pos rfl (by omega)) (k_nle hA rfl hk (by omega))
theorem cv_has0 {nA : Nat} {a : Int32} (hA : I 2 0 = nI nA) (h : a < 0 ∨ nI nA ≤ a) : zEv X mt_X2_has 0 [.ref 2, .int a] [] (zSH im tl, I, L) (some (.int 0), (zSH im tl, I, L)) := by
  by_cases h0 : a < 0
  · exact sg_X2_has_0_0 _ h0
  · exact sg_X2_has_0_1 _ h0 (by rw [hA]; exact h.resolve_left h0)
theorem cv_isInBranch {nA : Nat} {p : Nat → Nat} (h30 : nA ≤ 30) (hp : ∀ k, 1 ≤ k → k < nA → p k < k ∧ I 3 k = nI (p k)) {a t : Nat} (ha : a < nA) (ht : t < nA) : zEv X mt_X2_isInBranch 0 [.ref 2, .int (nI a), .int (nI t), .null, .null] [] (zSH im tl, I, L) (some (.int (zbi1 (ib p 30 a t))), (zSH im tl, I, L)) := by
  refine sg_X2_isInBranch_0_0 _ _ ?_
  have loop : ∀ (f s x : Nat), s + f = 30 → x + s < 30 → x < nA → zEv X mt_X2_isInBranch 5 [.ref 2, .int (nI a), .int (nI t), .int (nI x), .int (nI s)] [] (zSH im tl, I, L) (some (.int (zbi1 (ib p f x t))), (zSH im tl, I, L)) := by
    intro f
    induction f with
    | zero => intro s x h1 h2; omega
    | succ f ih =>
      intro s x h1 h2 hx1
      have hs : ¬ (30 : Int32) ≤ nI s := k_nle (a := 30) rfl rfl (by omega) (by omega)
      by_cases hxt : x ≤ t
      · have hle : nI x ≤ nI t := k_le rfl rfl hxt (by omega)
        by_cases hx : x = t
        · refine ev_r (sg_X2_isInBranch_5_2 _ _ _ _ hs hle (by rw [hx])) ?_
          rw [ib, if_pos hxt, decide_eq_true hx]; rfl
        · refine ev_r (sg_X2_isInBranch_5_3 _ _ _ _ hs hle (k_ne rfl rfl hx (by omega) (by omega))) ?_
          rw [ib, if_pos hxt, decide_eq_false hx]; rfl
      · obtain ⟨h3, h4⟩ := hp x (by omega) hx1
        refine sg_X2_isInBranch_5_4 _ _ _ _ hs (k_nle rfl rfl (by omega) (by omega)) (k_in rfl (by omega) (by omega)) ?_
        rw [kc (by omega), h4, ib, if_neg hxt, show nI s + 1 = nI (s + 1) from nI_1 s]
        exact ih (s + 1) (p x) (by omega) (by omega) (by omega)
  exact loop 30 0 a (by omega) (by omega) ha
theorem cv_countStraightBelow {nA : Nat} {p : Nat → Nat} (hA : I 2 0 = nI nA) (h1 : 1 ≤ nA) (h30 : nA ≤ 30) (hp : ∀ k, 1 ≤ k → k < nA → p k < k ∧ I 3 k = nI (p k)) {t : Nat} (ht : t < nA) : zEv X mt_X2_countStraightBelow 0 [.ref 2, .int (nI t), .null, .null] [] (zSH im tl, I, L) (some (.int (nI (ncnt (fun k => decide (1 ≤ k) && decide (p k = t)) nA))), (zSH im tl, I, L)) := by
  refine sg_X2_countStraightBelow_0_0 _ ?_
  have loop : ∀ (f k : Nat), k + f = nA → 1 ≤ k → zEv X mt_X2_countStraightBelow 4 [.ref 2, .int (nI t), .int (nI (ncnt (fun k => decide (1 ≤ k) && decide (p k = t)) k)), .int (nI k)] [] (zSH im tl, I, L) (some (.int (nI (ncnt (fun k => decide (1 ≤ k) && decide (p k = t)) nA))), (zSH im tl, I, L)) := by
    intro f
    induction f with
    | zero =>
      intro k h2 h3
      have : k = nA := by omega
      subst this
      exact sg_X2_countStraightBelow_4_0 _ _ _ (by rw [hA]; exact nI_le (Nat.le_refl _) (by omega))
    | succ f ih =>
      intro k h2 h3
      obtain ⟨h4, h5⟩ := hp k h3 (by omega)
      have e1 : nI k + 1 = nI (k + 1) := nI_1 k
      by_cases hk : p k = t
      · refine sg_X2_countStraightBelow_4_1 _ _ _ (k_nle hA rfl (by omega) (by omega)) (k_in rfl (by omega) (by omega)) (by rw [kc (by omega), h5, hk]) ?_
        have e2 : nI (ncnt (fun k => decide (1 ≤ k) && decide (p k = t)) k) + 1 = nI (ncnt (fun k => decide (1 ≤ k) && decide (p k = t)) (k + 1)) := by
          rw [ncnt, if_pos (by simp [h3, hk]), nI_1]
        rw [e1, e2]
        exact ih (k + 1) (by omega) (by omega)
      · refine sg_X2_countStraightBelow_4_2 _ _ _ (k_nle hA rfl (by omega) (by omega)) (k_in rfl (by omega) (by omega)) (by rw [kc (by omega), h5]; exact k_ne rfl rfl hk (by omega) (by omega)) ?_
        have e2 : ncnt (fun k => decide (1 ≤ k) && decide (p k = t)) k = ncnt (fun k => decide (1 ≤ k) && decide (p k = t)) (k + 1) := by
          rw [ncnt, if_neg (by simp [hk])]
        rw [e1, e2]
        exact ih (k + 1) (by omega) (by omega)
  exact loop (nA - 1) 1 (by omega) (Nat.le_refl _)
theorem ib_lt {p : Nat → Nat} {a t : Nat} (h : a < t) : ib p 30 a t = false := by
  rw [ib, if_pos (by omega), decide_eq_false (by omega)]
theorem ncnt_0 {q : Nat → Bool} : ∀ {t : Nat}, (∀ k, k < t → q k = false) → ncnt q t = 0
  | 0, _ => rfl
  | t + 1, h => by rw [ncnt, if_neg (by rw [h t (by omega)]; simp), ncnt_0 (fun k hk => h k (by omega))]
theorem cv_countBranch {nA : Nat} {p : Nat → Nat} (hA : I 2 0 = nI nA) (h30 : nA ≤ 30) (hp : ∀ k, 1 ≤ k → k < nA → p k < k ∧ I 3 k = nI (p k)) {t : Nat} (ht : t < nA) : zEv X mt_X2_countBranch 0 [.ref 2, .int (nI t), .null, .null] [] (zSH im tl, I, L) (some (.int (nI (ncnt (fun k => ib p 30 k t) nA))), (zSH im tl, I, L)) := by
  refine sg_X2_countBranch_0_0 _ ?_
  have loop : ∀ (f k : Nat), k + f = nA → zEv X mt_X2_countBranch 4 [.ref 2, .int (nI t), .int (nI (ncnt (fun k => ib p 30 k t) k)), .int (nI k)] [] (zSH im tl, I, L) (some (.int (nI (ncnt (fun k => ib p 30 k t) nA))), (zSH im tl, I, L)) := by
    intro f
    induction f with
    | zero =>
      intro k h2
      have : k = nA := by omega
      subst this
      exact sg_X2_countBranch_4_0 _ _ _ (by rw [hA]; exact nI_le (Nat.le_refl _) (by omega))
    | succ f ih =>
      intro k h2
      have e1 : nI k + 1 = nI (k + 1) := nI_1 k
      refine sg_X2_countBranch_4_1 _ _ _ (k_nle hA rfl (by omega) (by omega)) (cv_isInBranch h30 hp (by omega) ht) ?_
      cases hib : ib p 30 k t with
      | false =>
        refine sg_X2_countBranch_18_0 _ _ _ _ rfl ?_
        have e2 : ncnt (fun k => ib p 30 k t) k = ncnt (fun k => ib p 30 k t) (k + 1) := by rw [ncnt, if_neg (by simp [hib])]
        rw [e1, e2]
        exact ih (k + 1) (by omega)
      | true =>
        refine sg_X2_countBranch_18_1 _ _ _ _ (by decide) ?_
        have e2 : nI (ncnt (fun k => ib p 30 k t) k) + 1 = nI (ncnt (fun k => ib p 30 k t) (k + 1)) := by rw [ncnt, if_pos (by simp [hib]), nI_1]
        rw [e1, e2]
        exact ih (k + 1) (by omega)
  have h0 := loop (nA - t) t (by omega)
  rw [ncnt_0 (q := fun k => ib p 30 k t) (t := t) (fun k hk => ib_lt hk)] at h0
  exact h0
theorem cv_countAbove {nA : Nat} {p : Nat → Nat} (h30 : nA ≤ 30) (hp : ∀ k, 1 ≤ k → k < nA → p k < k ∧ I 3 k = nI (p k)) {a : Nat} (ha : a < nA) : zEv X mt_X2_countAbove 0 [.ref 2, .int (nI a), .null, .null] [] (zSH im tl, I, L) (some (.int (nI (dep p 30 a))), (zSH im tl, I, L)) := by
  refine sg_X2_countAbove_0_0 _ ?_
  have loop : ∀ (f s x : Nat), s + f = 30 → x + s < 30 → x < nA → zEv X mt_X2_countAbove 4 [.ref 2, .int (nI a), .int (nI s), .int (nI x)] [] (zSH im tl, I, L) (some (.int (nI (dep p f x + s))), (zSH im tl, I, L)) := by
    intro f
    induction f with
    | zero => intro s x h1 h2; omega
    | succ f ih =>
      intro s x h1 h2 hx
      have hs : ¬ (30 : Int32) ≤ nI s := k_nle (a := 30) rfl rfl (by omega) (by omega)
      by_cases hx0 : x = 0
      · subst hx0
        refine ev_r (sg_X2_countAbove_4_1 _ _ _ hs (k_le (a := 0) (b := 0) rfl rfl (by omega) (by omega))) ?_
        rw [dep, if_pos rfl, Nat.zero_add]
      · obtain ⟨h3, h4⟩ := hp x (by omega) hx
        refine sg_X2_countAbove_4_2 _ _ _ hs (k_nle (b := 0) rfl rfl (by omega) (by omega)) (k_in rfl (by omega) (by omega)) ?_
        rw [kc (by omega), h4, dep, if_neg hx0, show nI s + 1 = nI (s + 1) from nI_1 s]
        have h5 := ih (s + 1) (p x) (by omega) (by omega) (by omega)
        rw [show dep p f (p x) + 1 + s = dep p f (p x) + (s + 1) by omega]
        exact h5
  exact loop 30 0 a (by omega) (by omega) ha
theorem cv_findMeeting {nA : Nat} {p : Nat → Nat} (h30 : nA ≤ 30) (hp : ∀ k, 1 ≤ k → k < nA → p k < k ∧ I 3 k = nI (p k)) {a b : Nat} (ha : a < nA) (hb : b < nA) : zEv X mt_X2_findMeeting 0 [.ref 2, .int (nI a), .int (nI b), .null, .null, .null] [] (zSH im tl, I, L) (some (.int (nI (mee p 60 a b))), (zSH im tl, I, L)) := by
  refine sg_X2_findMeeting_0_0 _ _ ?_
  have loop : ∀ (f s x y : Nat), s + f = 60 → x + y + s < 60 → x < nA → y < nA → zEv X mt_X2_findMeeting 8 [.ref 2, .int (nI a), .int (nI b), .int (nI x), .int (nI y), .int (nI s)] [] (zSH im tl, I, L) (some (.int (nI (mee p f x y))), (zSH im tl, I, L)) := by
    intro f
    induction f with
    | zero => intro s x y h1 h2; omega
    | succ f ih =>
      intro s x y h1 h2 hx hy
      have hs : ¬ (60 : Int32) ≤ nI s := k_nle (a := 60) rfl rfl (by omega) (by omega)
      rw [mee]
      by_cases hxy : x = y
      · rw [if_pos hxy]
        exact sg_X2_findMeeting_8_1 _ _ _ _ _ hs (by rw [hxy])
      · rw [if_neg hxy]
        have hne : ¬ nI x = nI y := k_ne rfl rfl hxy (by omega) (by omega)
        by_cases hlt : y < x
        · rw [if_pos hlt]
          obtain ⟨h3, h4⟩ := hp x (by omega) hx
          refine sg_X2_findMeeting_8_3 _ _ _ _ _ hs hne (k_nle rfl rfl hlt (by omega)) (k_in rfl (by omega) (by omega)) ?_
          rw [kc (by omega), h4, show nI s + 1 = nI (s + 1) from nI_1 s]
          exact ih (s + 1) (p x) y (by omega) (by omega) (by omega) hy
        · rw [if_neg hlt]
          obtain ⟨h3, h4⟩ := hp y (by omega) hy
          refine sg_X2_findMeeting_8_2 _ _ _ _ _ hs hne (k_le rfl rfl (by omega) (by omega)) (k_in rfl (by omega) (by omega)) ?_
          rw [kc (by omega), h4, show nI s + 1 = nI (s + 1) from nI_1 s]
          exact ih (s + 1) x (p y) (by omega) (by omega) hx (by omega)
  exact loop 60 0 a b (by omega) (by omega) ha hb
end PC
