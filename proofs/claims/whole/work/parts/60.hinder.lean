section HI
variable {X : zSc} {im : Option Nat} {tl : List zS} {I J : zI} {L K : zL} {d : zD}
/-- the class's memory with other rows of causes -/
def cz (I : zI) (A B C : Nat → Int32) : zI := va_up (va_up (va_up I 21 A) 22 B) 23 C
theorem cz_add (I : zI) (A B C A' B' C' : Nat → Int32) : va_up (va_up (va_up (cz I A B C) 22 B') 23 C') 21 A' = cz I A' B' C' := by
  funext j
  unfold cz va_up
  by_cases h1 : j = 21
  · subst h1; rfl
  · by_cases h2 : j = 22
    · subst h2; rfl
    · by_cases h3 : j = 23
      · subst h3; rfl
      · simp [h1, h2, h3]
theorem cz_21 (I : zI) (A B C A' : Nat → Int32) : va_up (cz I A B C) 21 A' = cz I A' B C := by
  funext j
  unfold cz va_up
  by_cases h1 : j = 21
  · subst h1; rfl
  · by_cases h2 : j = 22
    · subst h2; rfl
    · by_cases h3 : j = 23
      · subst h3; rfl
      · simp [h1, h2, h3]
theorem cz_id (I : zI) : cz I (I 21) (I 22) (I 23) = I := by
  funext j
  unfold cz va_up
  by_cases h1 : j = 21
  · subst h1; rfl
  · by_cases h2 : j = 22
    · subst h2; rfl
    · by_cases h3 : j = 23
      · subst h3; rfl
      · simp [h1, h2, h3]
theorem rc_add {nC : Nat} {A B C n : Nat → Int32} (h : RC nC A B C n) (h3 : nC < 3) (w x : Int32) : RC (nC + 1) (upd A 0 (nI (nC + 1))) (upd B nC w) (upd C nC x) (upd (upd (upd n (1264 + nC) w) (1270 + nC) x) 6 (nI (nC + 1))) := by
  refine RC.mk (by omega) pk_us pk_us (fun i hi => ?_) (fun i hi => ?_)
  · rw [pk_un (by omega), pk_un (by omega)]
    by_cases e : i = nC
    · subst e; rw [pk_us, pk_us]
    · rw [pk_un (by omega), pk_un e]; exact h.w i (by omega)
  · rw [pk_un (by omega)]
    by_cases e : i = nC
    · subst e; rw [pk_us, pk_us]
    · rw [pk_un (by omega), pk_un (by omega), pk_un e]; exact h.h i (by omega)
theorem c_addCause {nC : Nat} {A B C n : Nat → Int32} (h : RC nC A B C n) (h3 : nC < 3) (w x : Int32) : zEv X mt_X1_add 0 [.ref 21, .int w, .int x] [] (zSH im tl, cz I A B C, L) (none, (zSH im tl, cz I (upd A 0 (nI (nC + 1))) (upd B nC w) (upd C nC x), L)) := by
  have hA : cz I A B C 21 0 = nI nC := h.c
  refine ev_r (sg_X1_add_0_1 _ _ (k_nle (a := 3) rfl hA h3 (by omega)) (k_in hA h3 (by omega)) (k_in hA h3 (by omega))) ?_
  rw [cz_add, hA, kc (by omega), nI_1]
  rfl
theorem m_addCause {nC : Nat} {A B C n : Nat → Int32} (h : RC nC A B C n) (h3 : nC < 3) (w x : Int32) : zEv X mt_X11_addCause 0 [.ref 39, .int w, .int x] [] (zSH im tl, va_up J 40 n, K) (none, (zSH im tl, va_up J 40 (upd (upd (upd n (1264 + nC) w) (1270 + nC) x) 6 (nI (nC + 1))), K)) := by
  have hm : n 6 = nI nC := h.m
  have e1 : ((1264 : Int32) + va_up J 40 n 40 6).toNatClampNeg = 1264 + nC := by rw [va_up_self, hm, kx 1264 (a := 1264) rfl (by omega)]
  have e2 : (1270 : Int32) + upd (va_up J 40 n 40) ((1264 : Int32) + va_up J 40 n 40 6).toNatClampNeg w 6 = 1270 + nI nC := by rw [e1, pk_un (by omega), va_up_self, hm]
  refine ev_r (sg_X11_addCause_0_0 _ _ (by rw [va_up_self, hm]; exact k_in (nI_add 1264 nC) (by omega) (by omega)) (by rw [e2]; exact k_in (nI_add 1270 nC) (by omega) (by omega))) ?_
  rw [e2, e1, kx 1270 (a := 1270) rfl (by omega), va_up_self, pk_un (f := upd n (1264 + nC) w) (j := 6) (k := 1270 + nC) (by omega), pk_un (j := 6) (k := 1264 + nC) (by omega), hm, nI_1, va_up2, va_up2, va_up2]
theorem m_causedAs {nC : Nat} {A B C n : Nat → Int32} (h : RC nC A B C n) (h3 : nC < 3) (w x : Int32) : zEv X mt_X11_causedAs 0 [.ref 39, .int w, .int x] [] (zSH im tl, va_up J 40 n, K) (some (.int 1), (zSH im tl, va_up J 40 (upd (upd (upd n (1264 + nC) w) (1270 + nC) x) 6 (nI (nC + 1))), K)) :=
  sg_X11_causedAs_0_0 _ _ (m_addCause h h3 w x) (sg_X11_causedAs_6_0 _ _)
/-- what a slip of the class and the open postings of the model are: the same k postings, places of accounts, amounts -/
def RS (nA nP k : Nat) (ac : Nat → Nat) (O A M n : Nat → Int32) (l : Nat → Int64) : Prop := k ≤ 10 ∧ nP ≤ 600 ∧ O 0 = nI k ∧ n 3 = nI k ∧ n 2 = nI nP ∧ (∀ i, i < k → ac i < nA ∧ A i = nI (ac i) ∧ n (400 + (nP + i)) = A i) ∧ (∀ i, i < k → (-1000000 ≤ (M i).toInt ∧ (M i).toInt ≤ 1000000) ∧ l (60 + (nP + i)) = (M i).toInt64)
/-- the sum of a slip's amounts with a property -/
def sS (q : Nat → Bool) (M : Nat → Int32) (k : Nat) : Int64 := lsum (fun i => if q i = true then (M i).toInt64 else 0) k
end HI
