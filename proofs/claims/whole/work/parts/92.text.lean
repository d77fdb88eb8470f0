/-! a text on the tape, as both sides read it -/
/-- the letter at a place; 0 beyond the end -/
def fg (H : Nat → Nat) : Nat → Nat → Nat → Nat × Nat
  | 0, p, v => (v, p)
  | m + 1, p, v => if 48 ≤ H p ∧ H p ≤ 57 then fg H m (p + 1) (v * 10 + (H p - 48)) else (v, p)
def tp (H : Nat → Nat) (nA p : Nat) : Nat ⊕ (Nat × Bool × Nat × Nat) :=
  if (fg H 2 p 0).2 = p then .inl p
  else if ¬ (fg H 2 p 0).1 < nA then .inl p
  else if ¬ H (fg H 2 p 0).2 = 32 then .inl (fg H 2 p 0).2
  else if H ((fg H 2 p 0).2 + 1) = 45 then
    (if (fg H 7 ((fg H 2 p 0).2 + 2) 0).2 = (fg H 2 p 0).2 + 2 then .inl ((fg H 2 p 0).2 + 2)
     else if (fg H 7 ((fg H 2 p 0).2 + 2) 0).1 < 1 ∨ 1000000 < (fg H 7 ((fg H 2 p 0).2 + 2) 0).1 then .inl ((fg H 2 p 0).2 + 2)
     else .inr ((fg H 2 p 0).1, true, (fg H 7 ((fg H 2 p 0).2 + 2) 0).1, (fg H 7 ((fg H 2 p 0).2 + 2) 0).2))
  else
    (if (fg H 7 ((fg H 2 p 0).2 + 1) 0).2 = (fg H 2 p 0).2 + 1 then .inl ((fg H 2 p 0).2 + 1)
     else if (fg H 7 ((fg H 2 p 0).2 + 1) 0).1 < 1 ∨ 1000000 < (fg H 7 ((fg H 2 p 0).2 + 1) 0).1 then .inl ((fg H 2 p 0).2 + 1)
     else .inr ((fg H 2 p 0).1, false, (fg H 7 ((fg H 2 p 0).2 + 1) 0).1, (fg H 7 ((fg H 2 p 0).2 + 1) 0).2))
def tr (H : Nat → Nat) (tn p : Nat) : Nat ⊕ Nat :=
  if ¬ H (p + 1) = 82 then .inl (p + 1)
  else if ¬ H (p + 2) = 69 then .inl (p + 2)
  else if ¬ H (p + 3) = 86 then .inl (p + 3)
  else if (fg H 2 (p + 4) 0).2 = p + 4 then .inl (p + 4)
  else if (fg H 2 (p + 4) 0).2 < tn then .inl (fg H 2 (p + 4) 0).2
  else .inr (fg H 2 (p + 4) 0).1
def sgn (neg : Bool) (m : Nat) : Int32 := if neg = true then -(nI m) else nI m
def pz (H : Nat → Nat) (nA tn : Nat) : Nat → Nat → List (Nat × Int32) → Nat ⊕ (List (Nat × Int32) × Option Nat)
  | 0, p, _ => .inl p
  | f + 1, p, acc => match tp H nA p with
    | .inl q => .inl q
    | .inr (a, neg, m, p') =>
      if H p' = 59 then pz H nA tn f (p' + 1) (acc ++ [(a, sgn neg m)])
      else if tn ≤ p' then (if 2 ≤ (acc ++ [(a, sgn neg m)]).length then .inr (acc ++ [(a, sgn neg m)], none) else .inl tn)
      else if H p' = 32 ∧ 2 ≤ (acc ++ [(a, sgn neg m)]).length then (match tr H tn p' with
        | .inl q => .inl q
        | .inr r => .inr (acc ++ [(a, sgn neg m)], some r))
      else .inl p'
/-- no letter beyond the end, and letters are letters -/
def hh (H : Nat → Nat) (tn : Nat) : Prop := tn ≤ 90 ∧ (∀ k, k < tn → 1 ≤ H k ∧ H k ≤ 127) ∧ ∀ k, tn ≤ k → H k = 0
theorem hh_lt {H : Nat → Nat} {tn p : Nat} (h : hh H tn) (hp : 1 ≤ H p) : p < tn := by
  rcases Nat.lt_or_ge p tn with q | q
  · exact q
  · have := h.2.2 p q; omega
theorem fg_le (H : Nat → Nat) : ∀ m p v, p ≤ (fg H m p v).2 ∧ (fg H m p v).2 ≤ p + m
  | 0, p, v => ⟨Nat.le_refl _, Nat.le_refl _⟩
  | m + 1, p, v => by
    rw [fg]
    split
    · have := fg_le H m (p + 1) (v * 10 + (H p - 48)); omega
    · exact ⟨Nat.le_refl _, by show p ≤ p + (m + 1); omega⟩
theorem fg_tn {H : Nat → Nat} {tn : Nat} (h : hh H tn) : ∀ m p v, p ≤ tn → (fg H m p v).2 ≤ tn
  | 0, p, v, hp => hp
  | m + 1, p, v, hp => by
    rw [fg]
    split
    · rename_i h1
      exact fg_tn h m (p + 1) _ (hh_lt h (by omega))
    · exact hp
theorem fg_val (H : Nat → Nat) : ∀ m p v j, v < 10 ^ j → (fg H m p v).1 < 10 ^ (j + m)
  | 0, p, v, j, hv => hv
  | m + 1, p, v, j, hv => by
    rw [fg]
    split
    · have := fg_val H m (p + 1) (v * 10 + (H p - 48)) (j + 1) (by rw [Nat.pow_succ]; omega)
      rw [show j + (m + 1) = j + 1 + m by omega]
      exact this
    · exact Nat.lt_of_lt_of_le hv (Nat.pow_le_pow_right (by decide) (by omega))
theorem tp_l {H : Nat → Nat} {nA tn p q : Nat} (h : hh H tn) (hp : p ≤ tn) (e : tp H nA p = .inl q) : q ≤ tn := by
  have h1 := fg_le H 2 p 0
  have h2 := fg_tn h 2 p 0 hp
  unfold tp at e
  split at e
  · cases e; exact hp
  · split at e
    · cases e; exact hp
    · split at e
      · cases e; exact h2
      · rename_i h32
        have h32' : H (fg H 2 p 0).2 = 32 := Decidable.not_not.mp h32
        have l1 := hh_lt h (p := (fg H 2 p 0).2) (by omega)
        split at e
        · rename_i h45
          have l2 := hh_lt h (p := (fg H 2 p 0).2 + 1) (by omega)
          split at e
          · cases e; omega
          · split at e
            · cases e; omega
            · cases e
        · split at e
          · cases e; omega
          · split at e
            · cases e; omega
            · cases e
theorem tp_r {H : Nat → Nat} {nA tn p a m q : Nat} {neg : Bool} (h : hh H tn) (hp : p ≤ tn) (e : tp H nA p = .inr (a, neg, m, q)) : a < nA ∧ 1 ≤ m ∧ m ≤ 1000000 ∧ p + 3 ≤ q ∧ q ≤ tn := by
  have h1 := fg_le H 2 p 0
  have h2 := fg_tn h 2 p 0 hp
  unfold tp at e
  split at e
  · cases e
  · split at e
    · cases e
    · split at e
      · cases e
      · rename_i h3 h4 h32
        have h32' : H (fg H 2 p 0).2 = 32 := Decidable.not_not.mp h32
        have h4' : (fg H 2 p 0).1 < nA := Decidable.not_not.mp h4
        have l1 := hh_lt h (p := (fg H 2 p 0).2) (by omega)
        split at e
        · rename_i h45
          have l2 := hh_lt h (p := (fg H 2 p 0).2 + 1) (by omega)
          have h5 := fg_le H 7 ((fg H 2 p 0).2 + 2) 0
          have h6 := fg_tn h 7 ((fg H 2 p 0).2 + 2) 0 (by omega)
          split at e
          · cases e
          · split at e
            · cases e
            · cases e
              refine ⟨h4', by omega, by omega, by omega, h6⟩
        · have h5 := fg_le H 7 ((fg H 2 p 0).2 + 1) 0
          have h6 := fg_tn h 7 ((fg H 2 p 0).2 + 1) 0 (by omega)
          split at e
          · cases e
          · split at e
            · cases e
            · cases e
              refine ⟨h4', by omega, by omega, by omega, h6⟩
theorem tr_l {H : Nat → Nat} {tn p q : Nat} (h : hh H tn) (hp : p < tn) (e : tr H tn p = .inl q) : q ≤ tn := by
  unfold tr at e
  split at e
  · cases e; omega
  · rename_i h1
    have l1 := hh_lt h (p := p + 1) (by omega)
    split at e
    · cases e; omega
    · rename_i h2
      have l2 := hh_lt h (p := p + 2) (by omega)
      split at e
      · cases e; omega
      · rename_i h3
        have l3 := hh_lt h (p := p + 3) (by omega)
        have h6 := fg_tn h 2 (p + 4) 0 (by omega)
        split at e
        · cases e; omega
        · split at e
          · cases e; omega
          · cases e
theorem tr_r {H : Nat → Nat} {tn p r : Nat} (e : tr H tn p = .inr r) : r < 100 := by
  unfold tr at e
  split at e
  · cases e
  · split at e
    · cases e
    · split at e
      · cases e
      · split at e
        · cases e
        · split at e
          · cases e
          · cases e
            exact fg_val H 2 (p + 4) 0 0 (by decide)
/-- the tape's fields -/
def tz (W : Nat → Int32) (tn k : Nat) (rv : Int32) (p : Nat) : Nat → Int32 := upd (upd (upd (upd W 0 (nI tn)) 1 (nI k)) 2 rv) 3 (nI p)
theorem tz_3 (W : Nat → Int32) (tn k : Nat) (rv : Int32) (p q : Nat) : upd (tz W tn k rv p) 3 (nI q) = tz W tn k rv q := by
  unfold tz; rw [upd2]
theorem tz_1 (W : Nat → Int32) (tn k j : Nat) (rv : Int32) (p : Nat) : upd (tz W tn k rv p) 1 (nI j) = tz W tn j rv p := by
  funext x
  show (if x = 1 then nI j else if x = 3 then nI p else if x = 2 then rv else if x = 1 then nI k else if x = 0 then nI tn else W x) = (if x = 3 then nI p else if x = 2 then rv else if x = 1 then nI j else if x = 0 then nI tn else W x)
  by_cases h1 : x = 1
  · subst h1; rfl
  · simp only [if_neg h1]
theorem tz_2 (W : Nat → Int32) (tn k : Nat) (rv rw' : Int32) (p : Nat) : upd (tz W tn k rv p) 2 rw' = tz W tn k rw' p := by
  funext x
  show (if x = 2 then rw' else if x = 3 then nI p else if x = 2 then rv else if x = 1 then nI k else if x = 0 then nI tn else W x) = (if x = 3 then nI p else if x = 2 then rw' else if x = 1 then nI k else if x = 0 then nI tn else W x)
  by_cases h1 : x = 2
  · subst h1; rfl
  · simp only [if_neg h1]
def cM (I : zI) (Z O S T : Nat → Int32) : zI := dz (va_up I 31 Z) O S T
theorem cM_31 (I : zI) (Z O S T Z' : Nat → Int32) : va_up (cM I Z O S T) 31 Z' = cM I Z' O S T := by
  funext j
  unfold cM dz va_up
  by_cases h1 : j = 31
  · subst h1; rfl
  · simp only [if_neg h1]
section CX
variable {X : zSc} {im : Option Nat} {tl : List zS} {I J : zI} {L K : zL} {d : zD} {W O S T : Nat → Int32} {H : Nat → Nat} {tn k p : Nat} {rv : Int32}
theorem c_here (h : hh H tn) (hI : ∀ k, k < tn → I 32 k = nI (H k)) (hp : p ≤ tn) : zEv X mt_X9_here 0 [.ref 31] [] (zSH im tl, cM I (tz W tn k rv p) O S T, L) (some (.int (nI (H p))), (zSH im tl, cM I (tz W tn k rv p) O S T, L)) := by
  have e3 : cM I (tz W tn k rv p) O S T 31 3 = nI p := rfl
  have e0 : cM I (tz W tn k rv p) O S T 31 0 = nI tn := rfl
  have h90 := h.1
  have n0 : ¬ cM I (tz W tn k rv p) O S T 31 3 < 0 := by rw [e3]; exact nI_pos (by omega)
  by_cases hl : p < tn
  · refine ev_r (sg_X9_here_0_3 n0 (by rw [e3, e0]; exact nI_ge hl (by omega)) (by rw [e3]; exact nI_ge (b := 90) (by omega) (by omega)) (k_in e3 (by omega) (by omega))) ?_
    rw [e3, kc (by omega), show cM I (tz W tn k rv p) O S T 32 p = nI (H p) from hI p hl]
  · refine ev_r (sg_X9_here_0_1 n0 (by rw [e3, e0]; exact nI_le (by omega) (by omega))) ?_
    rw [h.2.2 p (by omega)]
    rfl
theorem c_figs (h : hh H tn) (hI : ∀ k, k < tn → I 32 k = nI (H k)) {M : Nat} (hM : M ≤ 7) : ∀ (m j v p : Nat), j + m = M → p ≤ tn → zEv X mt_X9_takeFigures 4 [.ref 31, .int (nI M), .int (nI v), .int (nI j)] [] (zSH im tl, cM I (tz W tn k rv p) O S T, L) (some (.int (nI (fg H m p v).1)), (zSH im tl, cM I (tz W tn k rv (fg H m p v).2) O S T, L)) := by
  intro m
  induction m with
  | zero =>
    intro j v p hj hp
    have : j = M := by omega
    subst this
    exact sg_X9_takeFigures_4_0 _ _ _ (Int32.le_refl _)
  | succ m ih =>
    intro j v p hj hp
    have hle : ¬ nI M ≤ nI j := nI_ge (by omega) (by omega)
    have hH : H p ≤ 127 := by
      rcases Nat.lt_or_ge p tn with q | q
      · exact (h.2.1 p q).2
      · rw [h.2.2 p q]; omega
    rw [fg]
    refine sg_X9_takeFigures_4_1 _ _ _ hle (c_here h hI hp) ?_
    by_cases h1 : H p < 48
    · rw [if_neg (by omega)]
      exact sg_X9_takeFigures_13_0 _ _ _ _ (nI_lt (b := 48) h1 (by omega))
    · refine sg_X9_takeFigures_13_1 _ _ _ _ (nI_nlt (b := 48) (by omega) (by omega)) (c_here h hI hp) ?_
      by_cases h2 : 57 < H p
      · rw [if_neg (by omega)]
        exact sg_X9_takeFigures_22_0 _ _ _ _ (nI_lt (a := 57) h2 (by omega))
      · rw [if_pos (by omega)]
        refine sg_X9_takeFigures_22_1 _ _ _ _ (nI_nlt (a := 57) (by omega) (by omega)) (c_here h hI hp) (sg_X9_takeFigures_35_0 _ _ _ _ _ ?_)
        have e1 : nI v * 10 + nI (H p) - 48 = nI (v * 10 + (H p - 48)) := by
          rw [show nI v * 10 = nI (v * 10) from pk_mul v 10, nI_add, show (48 : Int32) = nI 48 from rfl, pk_sub (by omega), show v * 10 + H p - 48 = v * 10 + (H p - 48) by omega]
        have e2 : va_up (cM I (tz W tn k rv p) O S T) 31 (upd (cM I (tz W tn k rv p) O S T 31) 3 (cM I (tz W tn k rv p) O S T 31 3 + 1)) = cM I (tz W tn k rv (p + 1)) O S T := by
          rw [show cM I (tz W tn k rv p) O S T 31 3 = nI p from rfl, show cM I (tz W tn k rv p) O S T 31 = tz W tn k rv p from rfl, nI_1, tz_3, cM_31]
        rw [e1, e2, nI_1]
        exact ih (j + 1) _ (p + 1) (by omega) (hh_lt h (by omega))
theorem c_fig (h : hh H tn) (hI : ∀ k, k < tn → I 32 k = nI (H k)) {m : Nat} (hM : m ≤ 7) {p : Nat} (hp : p ≤ tn) : zEv X mt_X9_takeFigures 0 [.ref 31, .int (nI m), .null, .null] [] (zSH im tl, cM I (tz W tn k rv p) O S T, L) (some (.int (nI (fg H m p 0).1)), (zSH im tl, cM I (tz W tn k rv (fg H m p 0).2) O S T, L)) :=
  sg_X9_takeFigures_0_0 _ (c_figs h hI hM m 0 0 p (by omega) hp)
/-- the draft holds the first ten parts -/
def dP (acc : List (Nat × Int32)) (O S T : Nat → Int32) : Prop := O 0 = nI (min acc.length 10) ∧ ∀ i, i < acc.length → i < 10 → S i = nI (acc.getD i (0, 0)).1 ∧ T i = (acc.getD i (0, 0)).2
theorem gD_l {α : Type} (l : List α) (x y : α) {i : Nat} (h : i < l.length) : (l ++ [x]).getD i y = l.getD i y := by
  rw [List.getD_eq_getElem?_getD, List.getD_eq_getElem?_getD, List.getElem?_append_left h]
theorem gD_r {α : Type} (l : List α) (x y : α) : (l ++ [x]).getD l.length y = x := by
  rw [List.getD_eq_getElem?_getD, List.getElem?_append_right (Nat.le_refl _), Nat.sub_self]
  rfl
theorem c_dadd {acc : List (Nat × Int32)} (hd : dP acc O S T) (Z : Nat → Int32) (a : Nat) (v : Int32) : ∃ O' S' T', dP (acc ++ [(a, v)]) O' S' T' ∧ zEv X mt_X8_add 0 [.ref 28, .int (nI a), .int v] [] (zSH im tl, cM I Z O S T, L) (none, (zSH im tl, cM I Z O' S' T', L)) := by
  obtain ⟨h0, h1⟩ := hd
  by_cases hl : acc.length < 10
  · rw [show min acc.length 10 = acc.length by omega] at h0
    refine ⟨upd O 0 (nI (acc.length + 1)), upd S acc.length (nI a), upd T acc.length v, ⟨?_, fun i hi hi2 => ?_⟩, c_draftAdd h0 hl _ _⟩
    · rw [pk_us, List.length_append, List.length_singleton, show min (acc.length + 1) 10 = acc.length + 1 by omega]
    · rw [List.length_append, List.length_singleton] at hi
      by_cases e : i = acc.length
      · subst e
        rw [pk_us, pk_us, gD_r]
        exact ⟨rfl, rfl⟩
      · rw [pk_un e, pk_un e, gD_l acc _ _ (by omega)]
        exact h1 i (by omega) hi2
  · rw [show min acc.length 10 = 10 by omega] at h0
    refine ⟨O, S, T, ⟨?_, fun i hi hi2 => ?_⟩, sg_X8_addd_0_0 _ _ (show (10 : Int32) ≤ O 0 by rw [h0]; decide)⟩
    · rw [h0, List.length_append, List.length_singleton, show min (acc.length + 1) 10 = 10 by omega]
    · rw [gD_l acc _ _ (by omega)]
      exact h1 i (by omega) hi2
end CX
