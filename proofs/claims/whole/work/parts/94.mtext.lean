/-! the model reads a text -/
def uz (W : Nat → Int32) (a : Nat) (f : Int32) (k : Nat) (r : Int32) : Nat → Int32 := upd (upd (upd (upd W 10 (nI a)) 11 f) 12 (nI k)) 15 r
theorem uz_10 (W : Nat → Int32) (a b : Nat) (f : Int32) (k : Nat) (r : Int32) : upd (uz W a f k r) 10 (nI b) = uz W b f k r := by
  funext x
  show (if x = 10 then nI b else if x = 15 then r else if x = 12 then nI k else if x = 11 then f else if x = 10 then nI a else W x) = (if x = 15 then r else if x = 12 then nI k else if x = 11 then f else if x = 10 then nI b else W x)
  by_cases h : x = 10
  · subst h; rfl
  · simp only [if_neg h]
theorem uz_11 (W : Nat → Int32) (a : Nat) (f g : Int32) (k : Nat) (r : Int32) : upd (uz W a f k r) 11 g = uz W a g k r := by
  funext x
  show (if x = 11 then g else if x = 15 then r else if x = 12 then nI k else if x = 11 then f else if x = 10 then nI a else W x) = (if x = 15 then r else if x = 12 then nI k else if x = 11 then g else if x = 10 then nI a else W x)
  by_cases h : x = 11
  · subst h; rfl
  · simp only [if_neg h]
theorem uz_12 (W : Nat → Int32) (a : Nat) (f : Int32) (k j : Nat) (r : Int32) : upd (uz W a f k r) 12 (nI j) = uz W a f j r := by
  funext x
  show (if x = 12 then nI j else if x = 15 then r else if x = 12 then nI k else if x = 11 then f else if x = 10 then nI a else W x) = (if x = 15 then r else if x = 12 then nI j else if x = 11 then f else if x = 10 then nI a else W x)
  by_cases h : x = 12
  · subst h; rfl
  · simp only [if_neg h]
theorem uz_15 (W : Nat → Int32) (a : Nat) (f : Int32) (k : Nat) (r s : Int32) : upd (uz W a f k r) 15 s = uz W a f k s := by
  unfold uz; rw [upd2]
def uM (J : zI) (Z P : Nat → Int32) : zI := va_up (va_up J 39 Z) 45 P
theorem uM_39 (J : zI) (Z P Z' : Nat → Int32) : va_up (uM J Z P) 39 Z' = uM J Z' P := by
  funext j
  unfold uM va_up
  by_cases h1 : j = 39
  · subst h1; rfl
  · simp only [if_neg h1]
theorem uM_45 (J : zI) (Z P P' : Nat → Int32) : va_up (uM J Z P) 45 P' = uM J Z P' := by
  unfold uM; rw [va_up2]
def mh (H : Nat → Nat) (tn a : Nat) : Int32 := if a < tn then nI (H a) else -1
section MX
variable {X : zSc} {im : Option Nat} {tl : List zS} {I J : zI} {L K : zL} {W P : Nat → Int32} {Q : Nat → Int64} {H : Nat → Nat} {nA tn k a p : Nat} {r f : Int32}
theorem mh_eq (h : hh H tn) {c : Nat} (hc : 1 ≤ c) (hc2 : c < 128) : mh H tn a = nI c ↔ H a = c := by
  unfold mh
  by_cases hl : a < tn
  · have := (h.2.1 a hl).2
    rw [if_pos hl, nI_eq (by omega) (by omega)]
  · rw [if_neg hl, h.2.2 a (by omega)]
    constructor
    · intro e
      exact absurd (e ▸ (by decide : (-1 : Int32) < 0) : nI c < 0) (nI_pos (by omega))
    · intro e; omega
theorem m_hr (h : hh H tn) (hJ : ∀ k, k < tn → J 44 k = nI (H k)) (h9 : W 9 = nI tn) (ha : a ≤ tn) : zEv X mt_X11_here 0 [.ref 39] [] (zSH im tl, uM J (uz W a f k r) P, K) (some (.int (mh H tn a)), (zSH im tl, uM J (uz W a f k r) P, K)) := by
  have h90 := h.1
  have e9 : uM J (uz W a f k r) P 39 9 = nI tn := h9
  have e10 : uM J (uz W a f k r) P 39 10 = nI a := rfl
  unfold mh
  by_cases hl : a < tn
  · rw [if_pos hl]
    refine ev_r (sg_X11_here_0_1 (by rw [e9, e10]; exact nI_ge hl (by omega)) (k_in e10 (by omega) (by omega))) ?_
    rw [e10, kc (by omega), show uM J (uz W a f k r) P 44 a = nI (H a) from hJ a hl]
  · rw [if_neg hl]
    exact sg_X11_here_0_0 (by rw [e9, e10]; exact nI_le (by omega) (by omega))
theorem m_wr (v : Int32) : zEv X mt_X11_wrong 0 [.ref 39, .int v] [] (zSH im tl, uM J (uz W a (-1) k r) P, K) (none, (zSH im tl, uM J (uz W a v k r) P, K)) := by
  refine ev_r (sg_X11_wrong_0_1 _ (show ¬ (0 : Int32) ≤ -1 by decide)) ?_
  rw [show uM J (uz W a (-1) k r) P 39 = uz W a (-1) k r from rfl, uz_11, uM_39]
theorem m_ex1 (hf : 0 ≤ f) (c : Int32) : zEv X mt_X11_expect 0 [.ref 39, .int c] [] (zSH im tl, uM J (uz W a f k r) P, K) (none, (zSH im tl, uM J (uz W a f k r) P, K)) := sg_X11_expect_0_1 _ (show ¬ f < 0 from Int32.not_lt.mpr hf)
theorem m_ex0 (h : hh H tn) (hJ : ∀ k, k < tn → J 44 k = nI (H k)) (h9 : W 9 = nI tn) (ha : a ≤ tn) {c : Nat} (hc : 1 ≤ c) (hc2 : c < 128) : zEv X mt_X11_expect 0 [.ref 39, .int (nI c)] [] (zSH im tl, uM J (uz W a (-1) k r) P, K) (none, (zSH im tl, (if H a = c then uM J (uz W (a + 1) (-1) k r) P else uM J (uz W a (nI a) k r) P), K)) := by
  have h90 := h.1
  refine sg_X11_expect_0_0 _ (show (-1 : Int32) < 0 by decide) (m_hr h hJ h9 ha) ?_
  by_cases e : H a = c
  · rw [if_pos e]
    refine ev_r (sg_X11_expect_12_0 _ _ ((mh_eq h hc hc2).mpr e)) ?_
    rw [show uM J (uz W a (-1) k r) P 39 10 = nI a from rfl, show uM J (uz W a (-1) k r) P 39 = uz W a (-1) k r from rfl, nI_1, uz_10, uM_39]
  · rw [if_neg e]
    exact sg_X11_expect_12_1 _ _ (fun q => e ((mh_eq h hc hc2).mp q)) (m_wr _) (sg_X11_expect_37_0 _)
theorem m_figs (h : hh H tn) (hJ : ∀ k, k < tn → J 44 k = nI (H k)) (h9 : W 9 = nI tn) {M b : Nat} (hM : 1 ≤ M) (hM7 : M ≤ 7) (hb : b ≤ 100) : ∀ (m v p : Nat), p + m = b + M → b ≤ p → p ≤ tn → zEv X mt_X11_figures 16 [.ref 39, .int (nI M), .int (nI b), .int (nI v)] [] (zSH im tl, uM J (uz W p (-1) k r) P, K) (some (.int (nI (fg H m p v).1)), (zSH im tl, uM J (uz W (fg H m p v).2 (if (fg H m p v).2 = b then nI b else -1) k r) P, K)) := by
  have h90 := h.1
  intro m
  induction m with
  | zero =>
    intro v p hp hb2 hp2
    rw [show (fg H 0 p v) = (v, p) from rfl]
    dsimp only
    rw [if_neg (by omega)]
    exact sg_X11_figures_16_1 _ _ _ (show nI b + nI M ≤ nI p by rw [nI_add]; exact nI_le (by omega) (by omega)) (show ¬ nI p = nI b from k_ne rfl rfl (by omega) (by omega) (by omega))
  | succ m ih =>
    intro v p hp hb2 hp2
    have e10 : uM J (uz W p (-1) k r) P 39 10 = nI p := rfl
    have hlt : ¬ nI b + nI M ≤ uM J (uz W p (-1) k r) P 39 10 := by rw [e10, nI_add]; exact nI_ge (by omega) (by omega)
    rw [fg]
    by_cases hd : 48 ≤ H p ∧ H p ≤ 57
    · rw [if_pos hd]
      have l1 := hh_lt h (p := p) (by omega)
      have emh : mh H tn p = nI (H p) := if_pos l1
      have h2 := ih (v * 10 + (H p - 48)) (p + 1) (by omega) (by omega) (by omega)
      refine sg_X11_figures_16_2 _ _ _ hlt (m_hr h hJ h9 hp2) (sg_X11_figures_30_0 _ _ _ _ (mo_in1 (by rw [emh]; exact nI_nlt (b := 48) (by omega) (by omega)) (by rw [emh]; exact nI_nlt (a := 57) (by omega) (by omega))) (sg_X11_figures_37_2 _ _ _ _ (by decide) (m_hr h hJ h9 hp2) (sg_X11_figures_48_0 _ _ _ _ _ ?_)))
      have e1 : 10 * nI v + mh H tn p - 48 = nI (v * 10 + (H p - 48)) := by
        rw [emh, show (10 : Int32) * nI v = nI (10 * v) from pk_mul 10 v, nI_add, show (48 : Int32) = nI 48 from rfl, pk_sub (by omega), show 10 * v + H p - 48 = v * 10 + (H p - 48) by omega]
      rw [e1, e10, show uM J (uz W p (-1) k r) P 39 = uz W p (-1) k r from rfl, nI_1, uz_10, uM_39]
      exact h2
    · rw [if_neg hd]
      dsimp only
      have hin : mh H tn p < 48 ∨ 57 < mh H tn p := by
        unfold mh
        by_cases hl : p < tn
        · rw [if_pos hl]
          have := (h.2.1 p hl).2
          rcases Nat.lt_or_ge (H p) 48 with q | q
          · exact Or.inl (nI_lt (b := 48) q (by omega))
          · exact Or.inr (nI_lt (a := 57) (by omega) (by omega))
        · rw [if_neg hl]; exact Or.inl (by decide)
      refine sg_X11_figures_16_2 _ _ _ hlt (m_hr h hJ h9 hp2) (sg_X11_figures_30_0 _ _ _ _ (mo_in0 hin) ?_)
      by_cases e : p = b
      · rw [if_pos e]
        have w := m_wr (X := X) (im := im) (tl := tl) (J := J) (K := K) (W := W) (P := P) (a := p) (k := k) (r := r) (nI p)
        rw [e] at w ⊢
        exact sg_X11_figures_37_0 _ _ _ _ rfl rfl w (sg_X11_figures_82_0 _ _ _)
      · rw [if_neg e]
        exact sg_X11_figures_37_1 _ _ _ _ rfl (show ¬ nI p = nI b from k_ne rfl rfl e (by omega) (by omega))
theorem m_fig (h : hh H tn) (hJ : ∀ k, k < tn → J 44 k = nI (H k)) (h9 : W 9 = nI tn) {m : Nat} (hM : 1 ≤ m) (hM7 : m ≤ 7) (hp : p ≤ tn) : zEv X mt_X11_figures 0 [.ref 39, .int (nI m), .null, .null] [] (zSH im tl, uM J (uz W p (-1) k r) P, K) (some (.int (nI (fg H m p 0).1)), (zSH im tl, uM J (uz W (fg H m p 0).2 (if (fg H m p 0).2 = p then nI p else -1) k r) P, K)) :=
  sg_X11_figures_0_0 _ (show (-1 : Int32) < 0 by decide) (m_figs h hJ h9 hM hM7 (by have := h.1; omega) m 0 p rfl (Nat.le_refl _) hp)
theorem m_fig1 (hf : 0 ≤ f) (m : Int32) : zEv X mt_X11_figures 0 [.ref 39, .int m, .null, .null] [] (zSH im tl, uM J (uz W a f k r) P, K) (some (.int 0), (zSH im tl, uM J (uz W a f k r) P, K)) := sg_X11_figures_0_1 _ (show ¬ f < 0 from Int32.not_lt.mpr hf)
/-- once a fault is told, nothing more happens in a part -/
theorem m_37f (hf : 0 ≤ f) (v1 v2 : Int32) : zEv X mt_X11_readPart 37 [.ref 39, .int v1, .int v2, .null, .null] [] (zSH im tl, uM J (uz W a f k r) P, K) (none, (zSH im tl, uM J (uz W a f k r) P, K)) :=
  sg_X11_readPart_37_0 _ _ hf (m_fig1 hf _) (sg_X11_readPart_84_2 _ _ _ _ hf (show ¬ f < 0 from Int32.not_lt.mpr hf))
theorem m_84 {m p3 p4 : Nat} (neg : Bool) (hp3 : p3 ≤ 100) (hm : m < 10000000) (hk : k < 50) : zEv X mt_X11_readPart 84 [.ref 39, .int (nI p3), .int (nI a), .int (if neg = true then 1 else 0), .null] [.int (nI m)] (zSH im tl, uM J (uz W p4 (if p4 = p3 then nI p3 else -1) k r) P, va_up K 46 Q) (none, (if p4 = p3 then (zSH im tl, uM J (uz W p4 (nI p3) k r) P, va_up K 46 Q) else if m < 1 ∨ 1000000 < m then (zSH im tl, uM J (uz W p4 (nI p3) k r) P, va_up K 46 Q) else (zSH im tl, uM J (uz W p4 (-1) (k + 1) r) (upd P k (nI a)), va_up K 46 (vp_updL Q k (sgn neg m).toInt64)))) := by
  by_cases c1 : p4 = p3
  · rw [if_pos c1, if_pos c1]
    exact sg_X11_readPart_84_2 _ _ _ _ (nI_pos' (n := p3) (by omega)) (nI_pos (n := p3) (by omega))
  · rw [if_neg c1, if_neg c1]
    by_cases c2 : m < 1 ∨ 1000000 < m
    · rw [if_pos c2]
      refine sg_X11_readPart_84_3 _ _ _ _ (show ¬ (0 : Int32) ≤ -1 by decide) (mo_in0 ?_) (sg_X11_readPart_101_0 _ _ _ _ _ rfl (m_wr _) (sg_X11_readPart_109_2 _ _ _ _ (nI_pos (n := p3) (by omega))))
      rcases c2 with c | c
      · exact Or.inl (nI_lt (b := 1) c (by omega))
      · exact Or.inr (nI_lt (a := 1000000) c (by omega))
    · rw [if_neg c2]
      have e12 : uM J (uz W p4 (-1) k r) P 39 12 = nI k := rfl
      have i12 := k_in e12 hk (by omega)
      have fin : ∀ w : Int64, va_up (va_up K 46 Q) 46 (vp_updL (va_up K 46 Q 46) (uM J (uz W p4 (-1) k r) P 39 12).toNatClampNeg w) = va_up K 46 (vp_updL Q k w) := by
        intro w
        rw [e12, kc (by omega), va_up_self, va_up2]
      have fin2 : va_up (va_up (uM J (uz W p4 (-1) k r) P) 45 (upd (uM J (uz W p4 (-1) k r) P 45) (uM J (uz W p4 (-1) k r) P 39 12).toNatClampNeg (nI a))) 39 (upd (uM J (uz W p4 (-1) k r) P 39) 12 (uM J (uz W p4 (-1) k r) P 39 12 + 1)) = uM J (uz W p4 (-1) (k + 1) r) (upd P k (nI a)) := by
        rw [e12, kc (by omega), show uM J (uz W p4 (-1) k r) P 45 = P from rfl, show uM J (uz W p4 (-1) k r) P 39 = uz W p4 (-1) k r from rfl, uM_45, nI_1, uz_12, uM_39]
      refine sg_X11_readPart_84_3 _ _ _ _ (show ¬ (0 : Int32) ≤ -1 by decide) (mo_in1 (nI_nlt (b := 1) (by omega) (by omega)) (nI_nlt (a := 1000000) (by omega) (by omega))) ?_
      cases neg with
      | false =>
        refine ev_r (sg_X11_readPart_101_1 _ _ _ _ _ (by decide) (show (-1 : Int32) < 0 by decide) i12 rfl i12) ?_
        rw [fin, fin2]
        rfl
      | true =>
        refine ev_r (sg_X11_readPart_101_2 _ _ _ _ _ (by decide) (show (-1 : Int32) < 0 by decide) i12 (by decide) i12) ?_
        rw [fin, fin2]
        rfl
theorem m_tp (h : hh H tn) (hJ : ∀ k, k < tn → J 44 k = nI (H k)) (h9 : W 9 = nI tn) (hA : J 40 0 = nI nA) (h1 : 1 ≤ nA) (h30 : nA ≤ 30) (hp : p ≤ tn) (hk : k < 50) : match tp H nA p with
    | .inl q => ∃ a', zEv X mt_X11_readPart 0 [.ref 39, .null, .null, .null, .null] [] (zSH im tl, uM J (uz W p (-1) k r) P, va_up K 46 Q) (none, (zSH im tl, uM J (uz W a' (nI q) k r) P, va_up K 46 Q))
    | .inr (a, neg, m, p') => zEv X mt_X11_readPart 0 [.ref 39, .null, .null, .null, .null] [] (zSH im tl, uM J (uz W p (-1) k r) P, va_up K 46 Q) (none, (zSH im tl, uM J (uz W p' (-1) (k + 1) r) (upd P k (nI a)), va_up K 46 (vp_updL Q k (sgn neg m).toInt64))) := by
  have h90 := h.1
  have f1 := fg_le H 2 p 0
  have f2 := fg_tn h 2 p 0 hp
  have f3 := fg_val H 2 p 0 0 (by decide)
  rw [show 10 ^ (0 + 2) = 100 by decide] at f3
  have st : ∀ {rr}, zEv X mt_X11_readPart 10 [.ref 39, .int (nI p), .null, .null, .null] [.int (nI (fg H 2 p 0).1)] (zSH im tl, uM J (uz W (fg H 2 p 0).2 (if (fg H 2 p 0).2 = p then nI p else -1) k r) P, va_up K 46 Q) rr → zEv X mt_X11_readPart 0 [.ref 39, .null, .null, .null, .null] [] (zSH im tl, uM J (uz W p (-1) k r) P, va_up K 46 Q) rr := fun q => sg_X11_readPart_0_0 (m_fig (m := 2) h hJ h9 (by omega) (by omega) hp) q
  have np : (0 : Int32) ≤ nI p := nI_pos' (by omega)
  unfold tp
  by_cases c1 : (fg H 2 p 0).2 = p
  · rw [if_pos c1]
    rw [if_pos c1] at st
    exact ⟨_, st (sg_X11_readPart_10_0 _ _ np (m_ex1 np _) (m_37f np _ _))⟩
  · rw [if_neg c1]
    rw [if_neg c1] at st
    have nf : ¬ (0 : Int32) ≤ -1 := by decide
    by_cases c2 : (fg H 2 p 0).1 < nA
    · rw [if_neg (fun q => q c2)]
      have st1 : ∀ {rr}, zEv X mt_X11_readPart 37 [.ref 39, .int (nI p), .int (nI (fg H 2 p 0).1), .null, .null] [] (zSH im tl, (if H (fg H 2 p 0).2 = 32 then uM J (uz W ((fg H 2 p 0).2 + 1) (-1) k r) P else uM J (uz W (fg H 2 p 0).2 (nI (fg H 2 p 0).2) k r) P), va_up K 46 Q) rr → zEv X mt_X11_readPart 0 [.ref 39, .null, .null, .null, .null] [] (zSH im tl, uM J (uz W p (-1) k r) P, va_up K 46 Q) rr := fun q => st (sg_X11_readPart_10_1 _ _ nf (mo_isAccount1 (J := uM J (uz W (fg H 2 p 0).2 (-1) k r) P) hA c2 h30) (sg_X11_readPart_23_1 _ _ _ (by decide) (m_ex0 (c := 32) h hJ h9 f2 (by omega) (by omega)) q))
      by_cases c3 : H (fg H 2 p 0).2 = 32
      · rw [if_neg (fun q => q c3)]
        rw [if_pos c3] at st1
        have l1 := hh_lt h (p := (fg H 2 p 0).2) (by omega)
        generalize hp1 : (fg H 2 p 0).2 = p1 at *
        generalize ha : (fg H 2 p 0).1 = a at *
        by_cases c4 : H (p1 + 1) = 45
        · rw [if_pos c4]
          have l2 := hh_lt h (p := p1 + 1) (by omega)
          have g3 := fg_val H 7 (p1 + 2) 0 0 (by decide)
          rw [show 10 ^ (0 + 7) = 10000000 by decide] at g3
          have mf := m_fig (X := X) (im := im) (tl := tl) (K := va_up K 46 Q) (P := P) (k := k) (r := r) (m := 7) h hJ h9 (by omega) (by omega) (p := p1 + 2) (by omega)
          have e0 : va_up (uM J (uz W (p1 + 1) (-1) k r) P) 39 (upd (uM J (uz W (p1 + 1) (-1) k r) P 39) 10 (uM J (uz W (p1 + 1) (-1) k r) P 39 10 + 1)) = uM J (uz W (p1 + 2) (-1) k r) P := by
            rw [show uM J (uz W (p1 + 1) (-1) k r) P 39 10 = nI (p1 + 1) from rfl, show uM J (uz W (p1 + 1) (-1) k r) P 39 = uz W (p1 + 1) (-1) k r from rfl, nI_1, uz_10, uM_39]
          rw [← e0] at mf
          have m8 := m_84 (X := X) (im := im) (tl := tl) (J := J) (K := K) (W := W) (P := P) (Q := Q) (k := k) (a := a) (r := r) (m := (fg H 7 (p1 + 2) 0).1) (p3 := p1 + 2) (p4 := (fg H 7 (p1 + 2) 0).2) true (by omega) g3 hk
          have run := st1 (sg_X11_readPart_37_1 _ _ nf (m_hr h hJ h9 (by omega)) (sg_X11_readPart_48_0 _ _ _ ((mh_eq h (c := 45) (by omega) (by omega)).mpr c4) mf (show zEv X mt_X11_readPart 84 [.ref 39, .int (nI (p1 + 1) + 1), .int (nI a), .int 1, .null] _ _ _ by rw [nI_1]; exact m8)))
          by_cases c5 : (fg H 7 (p1 + 2) 0).2 = p1 + 2
          · rw [if_pos c5] at run ⊢
            exact ⟨_, run⟩
          · rw [if_neg c5] at run ⊢
            by_cases c6 : (fg H 7 (p1 + 2) 0).1 < 1 ∨ 1000000 < (fg H 7 (p1 + 2) 0).1
            · rw [if_pos c6] at run ⊢
              exact ⟨_, run⟩
            · rw [if_neg c6] at run ⊢
              exact run
        · rw [if_neg c4]
          have g3 := fg_val H 7 (p1 + 1) 0 0 (by decide)
          rw [show 10 ^ (0 + 7) = 10000000 by decide] at g3
          have m8 := m_84 (X := X) (im := im) (tl := tl) (J := J) (K := K) (W := W) (P := P) (Q := Q) (k := k) (a := a) (r := r) (m := (fg H 7 (p1 + 1) 0).1) (p3 := p1 + 1) (p4 := (fg H 7 (p1 + 1) 0).2) false (by omega) g3 hk
          have run := st1 (sg_X11_readPart_37_1 _ _ nf (m_hr h hJ h9 (by omega)) (sg_X11_readPart_48_1 _ _ _ (fun q => c4 ((mh_eq h (c := 45) (by omega) (by omega)).mp q)) (m_fig (m := 7) h hJ h9 (by omega) (by omega) (by omega)) m8))
          by_cases c5 : (fg H 7 (p1 + 1) 0).2 = p1 + 1
          · rw [if_pos c5] at run ⊢
            exact ⟨_, run⟩
          · rw [if_neg c5] at run ⊢
            by_cases c6 : (fg H 7 (p1 + 1) 0).1 < 1 ∨ 1000000 < (fg H 7 (p1 + 1) 0).1
            · rw [if_pos c6] at run ⊢
              exact ⟨_, run⟩
            · rw [if_neg c6] at run ⊢
              exact run
      · rw [if_pos c3]
        rw [if_neg c3] at st1
        exact ⟨_, st1 (m_37f (nI_pos' (by omega)) _ _)⟩
    · rw [if_pos c2]
      exact ⟨_, st (sg_X11_readPart_10_1 _ _ nf (mo_isAccount0 (J := uM J (uz W (fg H 2 p 0).2 (-1) k r) P) hA h1 h30 (Or.inr (nI_le (by omega) (by omega)))) (sg_X11_readPart_23_0 _ _ _ rfl (m_wr _) (sg_X11_readPart_31_0 _ _ (m_ex1 np _) (m_37f np _ _))))⟩
end MX
