section MC
variable {X : zSc} {im : Option Nat} {tl : List zS} {J : zI} {K : zL}
/-! the model's small methods -/
theorem mo_in (v a b : Int32) : zEv X mt_X11_in 0 [.int v, .int a, .int b] [] (zSH im tl, J, K) (some (.int (zbi1 (decide (¬ v < a ∧ ¬ b < v)))), (zSH im tl, J, K)) := by
  by_cases h1 : v < a
  · exact ev_r (sg_X11_in_0_0 _ _ _ h1) (by rw [decide_eq_false (fun h => h.1 h1)]; rfl)
  · by_cases h2 : b < v
    · exact ev_r (sg_X11_in_0_1 _ _ _ h1 h2) (by rw [decide_eq_false (fun h => h.2 h2)]; rfl)
    · exact ev_r (sg_X11_in_0_2 _ _ _ h1 h2) (by rw [decide_eq_true ⟨h1, h2⟩]; rfl)
theorem mo_in1 {v a b : Int32} (h1 : ¬ v < a) (h2 : ¬ b < v) : zEv X mt_X11_in 0 [.int v, .int a, .int b] [] (zSH im tl, J, K) (some (.int 1), (zSH im tl, J, K)) := sg_X11_in_0_2 _ _ _ h1 h2
theorem mo_in0 {v a b : Int32} (h : v < a ∨ b < v) : zEv X mt_X11_in 0 [.int v, .int a, .int b] [] (zSH im tl, J, K) (some (.int 0), (zSH im tl, J, K)) := by
  by_cases h1 : v < a
  · exact sg_X11_in_0_0 _ _ _ h1
  · exact sg_X11_in_0_1 _ _ _ h1 (h.resolve_left h1)
/-- below n: not above n - 1 -/
theorem k_lt1 {n : Nat} (h1 : 1 ≤ n) (hn : n < 2 ^ 31) {a : Int32} (h : nI n ≤ a) : nI n - 1 < a := by
  rw [nI_sub1 h1]
  rw [Int32.le_iff_toInt_le, nI_toInt hn] at h
  rw [Int32.lt_iff_toInt_lt, nI_toInt (by omega)]
  omega
theorem mo_isAccount1 {nA k : Nat} (hA : J 40 0 = nI nA) (hk : k < nA) (h30 : nA ≤ 30) : zEv X mt_X11_isAccount 0 [.ref 39, .int (nI k)] [] (zSH im tl, J, K) (some (.int 1), (zSH im tl, J, K)) := by
  refine sg_X11_isAccount_0_0 _ (mo_in1 (k_pos rfl (by omega)) ?_) (sg_X11_isAccount_13_0 _ _ (Or.inr rfl))
  rw [hA, nI_sub1 (by omega)]; exact nI_nlt (by omega) (by omega)
theorem mo_isAccount0 {nA : Nat} {a : Int32} (hA : J 40 0 = nI nA) (h1 : 1 ≤ nA) (h30 : nA ≤ 30) (h : a < 0 ∨ nI nA ≤ a) : zEv X mt_X11_isAccount 0 [.ref 39, .int a] [] (zSH im tl, J, K) (some (.int 0), (zSH im tl, J, K)) := by
  refine sg_X11_isAccount_0_0 _ (mo_in0 ?_) (sg_X11_isAccount_13_0 _ _ (Or.inl rfl))
  rw [hA]
  exact h.imp id (k_lt1 h1 (by omega))
/-- below 0 or from n on, n possibly 0 -/
theorem k_lt2 {n : Nat} (hn : n < 2 ^ 31) {a : Int32} (h : a < 0 ∨ nI n ≤ a) : a < 0 ∨ nI n - 1 < a := by
  rcases h with h | h
  · exact Or.inl h
  · by_cases h1 : 1 ≤ n
    · exact Or.inr (k_lt1 h1 hn h)
    · have : n = 0 := by omega
      subst this
      by_cases h0 : a < 0
      · exact Or.inl h0
      · refine Or.inr ?_
        rw [Int32.lt_iff_toInt_lt] at h0 ⊢
        have e : (nI 0 - 1).toInt = -1 := by decide +kernel
        have e0 : (0 : Int32).toInt = 0 := by decide +kernel
        omega
theorem mo_isJournal1 {nJ k : Nat} (hJ : J 40 1 = nI nJ) (hk : k < nJ) (h60 : nJ ≤ 60) : zEv X mt_X11_isJournal 0 [.ref 39, .int (nI k)] [] (zSH im tl, J, K) (some (.int 1), (zSH im tl, J, K)) := by
  refine sg_X11_isJournal_0_0 _ (mo_in1 (k_pos rfl (by omega)) ?_) (sg_X11_isJournal_13_0 _ _ (Or.inr rfl))
  rw [hJ, nI_sub1 (by omega)]; exact nI_nlt (by omega) (by omega)
theorem mo_isJournal0 {nJ : Nat} {a : Int32} (hJ : J 40 1 = nI nJ) (h60 : nJ ≤ 60) (h : a < 0 ∨ nI nJ ≤ a) : zEv X mt_X11_isJournal 0 [.ref 39, .int a] [] (zSH im tl, J, K) (some (.int 0), (zSH im tl, J, K)) := by
  refine sg_X11_isJournal_0_0 _ (mo_in0 ?_) (sg_X11_isJournal_13_0 _ _ (Or.inl rfl))
  rw [hJ]
  exact k_lt2 (by omega) h
theorem mo_isCurrency1 {c : Nat} (h : c < 4) : zEv X mt_X11_isCurrency 0 [.int (nI c)] [] (zSH im tl, J, K) (some (.int 1), (zSH im tl, J, K)) :=
  sg_X11_isCurrency_0_0 _ (mo_in1 (k_pos rfl (by omega)) (k_nlt (a := 3) rfl rfl (by omega) (by omega))) (sg_X11_isCurrency_6_0 _ _ (Or.inr rfl))
theorem mo_isCurrency0 {c : Int32} (h : c < 0 ∨ nI 4 ≤ c) : zEv X mt_X11_isCurrency 0 [.int c] [] (zSH im tl, J, K) (some (.int 0), (zSH im tl, J, K)) :=
  sg_X11_isCurrency_0_0 _ (mo_in0 (k_lt2 (n := 4) (by omega) h)) (sg_X11_isCurrency_6_0 _ _ (Or.inl rfl))
theorem mo_isDay1 {c : Nat} (h : c < 1000) : zEv X mt_X11_isDay 0 [.int (nI c)] [] (zSH im tl, J, K) (some (.int 1), (zSH im tl, J, K)) :=
  sg_X11_isDay_0_0 _ (mo_in1 (k_pos rfl (by omega)) (k_nlt (a := 999) rfl rfl (by omega) (by omega))) (sg_X11_isDay_8_0 _ _ (Or.inr rfl))
theorem mo_isDay0 {c : Int32} (h : c < 0 ∨ nI 1000 ≤ c) : zEv X mt_X11_isDay 0 [.int c] [] (zSH im tl, J, K) (some (.int 0), (zSH im tl, J, K)) :=
  sg_X11_isDay_0_0 _ (mo_in0 (k_lt2 (n := 1000) (by omega) h)) (sg_X11_isDay_8_0 _ _ (Or.inl rfl))
theorem ib_lt' {p : Nat → Nat} {f a t : Nat} (h : a < t) : ib p f a t = false := by
  cases f with
  | zero => rw [ib, decide_eq_false (by omega)]
  | succ f => rw [ib, if_pos (by omega), decide_eq_false (by omega)]
theorem mo_isOf {nA : Nat} {p : Nat → Nat} (h30 : nA ≤ 30) (hp : ∀ k, 1 ≤ k → k < nA → p k < k) (hm : ∀ k, 1 ≤ k → k < nA → J 40 (10 + k) = nI (p k)) (h0 : J 40 10 = -1) {a t : Nat} (ha : a < nA) (ht : t < nA) : zEv X mt_X11_isOf 0 [.ref 39, .int (nI a), .int (nI t), .null] [] (zSH im tl, J, K) (some (.int (zbi1 (ib p 30 a t))), (zSH im tl, J, K)) := by
  refine sg_X11_isOf_0_0 _ _ ?_
  have loop : ∀ (b x f : Nat), x ≤ b → x < nA → x < f → zEv X mt_X11_isOf 2 [.ref 39, .int (nI a), .int (nI t), .int (nI x)] [] (zSH im tl, J, K) (some (.int (zbi1 (ib p f x t))), (zSH im tl, J, K)) := by
    intro b
    induction b with
    | zero =>
      intro x f hb hx hf
      have hx0 : x = 0 := by omega
      subst hx0
      obtain ⟨g, rfl⟩ : ∃ g, f = g + 1 := ⟨f - 1, by omega⟩
      rw [ib, if_pos (Nat.zero_le t)]
      by_cases e : 0 = t
      · subst e
        exact ev_r (sg_X11_isOf_2_2 _ _ _ (k_pos rfl (by omega)) rfl rfl) rfl
      · rw [decide_eq_false e]
        refine sg_X11_isOf_2_4 _ _ _ (k_pos rfl (by omega)) (k_ne rfl rfl e (by omega) (by omega)) (k_in (nI_add 10 0) (by omega) (by omega)) ?_
        rw [kx 10 (a := 10) rfl (by omega), Nat.add_zero, h0]
        exact ev_r (sg_X11_isOf_2_1 _ _ _ (by decide) (fun q => absurd (q ▸ (by decide : (-1 : Int32) < 0) : nI t < 0) (nI_pos (by omega)))) rfl
    | succ b ih =>
      intro x f hb hx hf
      by_cases hx0 : x ≤ b
      · exact ih x f hx0 hx hf
      · have hp1 := hp x (by omega) hx
        obtain ⟨g, rfl⟩ : ∃ g, f = g + 1 := ⟨f - 1, by omega⟩
        by_cases e : x = t
        · subst e
          rw [ib, if_pos (Nat.le_refl _), decide_eq_true rfl]
          exact ev_r (sg_X11_isOf_2_2 _ _ _ (k_pos rfl (by omega)) rfl rfl) rfl
        · refine sg_X11_isOf_2_4 _ _ _ (k_pos rfl (by omega)) (k_ne rfl rfl e (by omega) (by omega)) (k_in (nI_add 10 x) (by omega) (by omega)) ?_
          rw [kx 10 (a := 10) rfl (by omega), hm x (by omega) hx]
          by_cases hlt : x < t
          · rw [ib_lt' hlt, ← ib_lt' (p := p) (f := g + 1) (a := p x) (t := t) (by omega)]
            exact ih (p x) (g + 1) (by omega) (by omega) (by omega)
          · rw [ib, if_neg (by omega)]
            exact ih (p x) g (by omega) (by omega) (by omega)
  exact loop a a 30 (Nat.le_refl _) ha (by omega)
theorem mo_above {nA : Nat} {p : Nat → Nat} (h30 : nA ≤ 30) (hp : ∀ k, 1 ≤ k → k < nA → p k < k) (hm : ∀ k, 1 ≤ k → k < nA → J 40 (10 + k) = nI (p k)) (h0 : J 40 10 = -1) {a : Nat} (ha : a < nA) : zEv X mt_X11_above 0 [.ref 39, .int (nI a), .null, .null] [] (zSH im tl, J, K) (some (.int (nI (dep p 30 a))), (zSH im tl, J, K)) := by
  have loop : ∀ (b x f s : Nat), x ≤ b → x < nA → x < f → zEv X mt_X11_above 12 [.ref 39, .int (nI a), .int (nI s), .int (J 40 (10 + x))] [] (zSH im tl, J, K) (some (.int (nI (s + dep p f x))), (zSH im tl, J, K)) := by
    intro b
    induction b with
    | zero =>
      intro x f s hb hx hf
      have hx0 : x = 0 := by omega
      subst hx0
      obtain ⟨g, rfl⟩ : ∃ g, f = g + 1 := ⟨f - 1, by omega⟩
      rw [dep, if_pos rfl, show J 40 (10 + 0) = -1 from h0]
      exact sg_X11_above_12_0 _ _ _ (by decide)
    | succ b ih =>
      intro x f s hb hx hf
      by_cases hx0 : x ≤ b
      · exact ih x f s hx0 hx hf
      · have hp1 := hp x (by omega) hx
        obtain ⟨g, rfl⟩ : ∃ g, f = g + 1 := ⟨f - 1, by omega⟩
        rw [dep, if_neg (by omega), hm x (by omega) hx]
        refine sg_X11_above_12_1 _ _ _ (k_pos rfl (by omega)) (k_in (nI_add 10 (p x)) (by omega) (by omega)) ?_
        rw [kx 10 (a := 10) rfl (by omega), nI_1 s, show s + (dep p g (p x) + 1) = s + 1 + dep p g (p x) by omega]
        exact ih (p x) g (s + 1) (by omega) (by omega) (by omega)
  refine sg_X11_above_0_0 _ (k_in (nI_add 10 a) (by omega) (by omega)) ?_
  rw [kx 10 (a := 10) rfl (by omega)]
  have := loop a a 30 0 (Nat.le_refl _) ha (by omega)
  rw [Nat.zero_add] at this
  exact this
end MC
