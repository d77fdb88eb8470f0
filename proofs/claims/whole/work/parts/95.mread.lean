/-- behind a part -/
def pr (H : Nat → Nat) (nA tn f p' : Nat) (acc : List (Nat × Int32)) : Nat ⊕ (List (Nat × Int32) × Option Nat) :=
  if H p' = 59 then pz H nA tn f (p' + 1) acc
  else if tn ≤ p' then (if 2 ≤ acc.length then .inr (acc, none) else .inl tn)
  else if H p' = 32 ∧ 2 ≤ acc.length then (match tr H tn p' with
    | .inl q => .inl q
    | .inr r => .inr (acc, some r))
  else .inl p'
theorem pz_r {H : Nat → Nat} {nA tn f p a m p' : Nat} {neg : Bool} {acc : List (Nat × Int32)} (e : tp H nA p = .inr (a, neg, m, p')) : pz H nA tn (f + 1) p acc = pr H nA tn f p' (acc ++ [(a, sgn neg m)]) := by
  rw [pz, e]; rfl
theorem pz_l {H : Nat → Nat} {nA tn f p q : Nat} {acc : List (Nat × Int32)} (e : tp H nA p = .inl q) : pz H nA tn (f + 1) p acc = .inl q := by
  rw [pz, e]
/-- the model's rows hold the parts -/
def mP (acc : List (Nat × Int32)) (P : Nat → Int32) (Q : Nat → Int64) : Prop := ∀ i, i < acc.length → P i = nI (acc.getD i (0, 0)).1 ∧ Q i = (acc.getD i (0, 0)).2.toInt64
theorem mP_snoc {acc : List (Nat × Int32)} {P : Nat → Int32} {Q : Nat → Int64} (h : mP acc P Q) (a : Nat) (v : Int32) : mP (acc ++ [(a, v)]) (upd P acc.length (nI a)) (vp_updL Q acc.length v.toInt64) := by
  intro i hi
  rw [List.length_append, List.length_singleton] at hi
  by_cases e : i = acc.length
  · subst e
    rw [pk_us, pk_uLs, gD_r]
    exact ⟨rfl, rfl⟩
  · rw [pk_un e, pk_uLn e, gD_l acc _ _ (by omega)]
    exact h i (by omega)
def mOut (o : Nat ⊕ (List (Nat × Int32) × Option Nat)) (f : Int32) (k : Nat) (r : Int32) (P : Nat → Int32) (Q : Nat → Int64) : Prop := match o with
  | .inl q => f = nI q ∧ q ≤ 90
  | .inr (acc, rv) => f = -1 ∧ k = acc.length ∧ r = (match rv with | none => -1 | some r => nI r) ∧ mP acc P Q
section MR
variable {X : zSc} {im : Option Nat} {tl : List zS} {I J : zI} {L K : zL} {W P : Nat → Int32} {Q : Nat → Int64} {H : Nat → Nat} {nA tn k a p : Nat} {r f : Int32}
/-- the end of the reading: the tape is empty -/
theorem m_24f (hf : 0 ≤ f) : zEv X mt_X11_readText 24 [.ref 39] [] (zSH im tl, uM J (uz W a f k r) P, K) (none, (zSH im tl, uM J (upd (uz W a f k r) 9 0) P, K)) := by
  refine ev_r (sg_X11_readText_24_0 hf hf hf) ?_
  rw [show uM J (uz W a f k r) P 39 = uz W a f k r from rfl, uM_39]
theorem m_147 : zEv X mt_X11_readText 147 [.ref 39] [] (zSH im tl, uM J (uz W a f k r) P, K) (none, (zSH im tl, uM J (upd (uz W a f k r) 9 0) P, K)) := by
  refine ev_r sg_X11_readText_147_0 ?_
  rw [show uM J (uz W a f k r) P 39 = uz W a f k r from rfl, uM_39]
theorem m_118f (hf : 0 ≤ f) (s : Int32) : zEv X mt_X11_readText 118 [.ref 39] [.int s, .ref 39] (zSH im tl, uM J (uz W a f k r) P, K) (none, (zSH im tl, uM J (upd (uz W a f k s) 9 0) P, K)) := by
  refine ev_r (sg_X11_readText_118_0 _ hf) ?_
  rw [show uM J (uz W a f k r) P 39 = uz W a f k r from rfl, uz_15, uM_39, uM_39]
theorem m_112f (hf : 0 ≤ f) : zEv X mt_X11_readText 112 [.ref 39] [] (zSH im tl, uM J (uz W a f k r) P, K) (none, (zSH im tl, uM J (upd (uz W a f k 0) 9 0) P, K)) :=
  sg_X11_readText_112_0 (m_fig1 hf _) (m_118f hf _)
theorem m_tr (h : hh H tn) (hJ : ∀ k, k < tn → J 44 k = nI (H k)) (h9 : W 9 = nI tn) (hp : p < tn) (h32 : H p = 32) : match tr H tn p with
    | .inl q => ∃ a' r', zEv X mt_X11_readText 79 [.ref 39] [.int (mh H tn p)] (zSH im tl, uM J (uz W p (-1) k r) P, K) (none, (zSH im tl, uM J (upd (uz W a' (nI q) k r') 9 0) P, K))
    | .inr v => ∃ a', zEv X mt_X11_readText 79 [.ref 39] [.int (mh H tn p)] (zSH im tl, uM J (uz W p (-1) k r) P, K) (none, (zSH im tl, uM J (upd (uz W a' (-1) k (nI v)) 9 0) P, K)) := by
  have h90 := h.1
  have m1 := m_ex0 (X := X) (im := im) (tl := tl) (K := K) (P := P) (k := k) (r := r) h hJ h9 (a := p + 1) (c := 82) (by omega) (by omega) (by omega)
  have e0 : va_up (uM J (uz W p (-1) k r) P) 39 (upd (uM J (uz W p (-1) k r) P 39) 10 (uM J (uz W p (-1) k r) P 39 10 + 1)) = uM J (uz W (p + 1) (-1) k r) P := by
    rw [show uM J (uz W p (-1) k r) P 39 10 = nI p from rfl, show uM J (uz W p (-1) k r) P 39 = uz W p (-1) k r from rfl, nI_1, uz_10, uM_39]
  rw [← e0] at m1
  have s1 : ∀ {rr}, zEv X mt_X11_readText 100 [.ref 39] [] (zSH im tl, (if H (p + 1) = 82 then uM J (uz W (p + 1 + 1) (-1) k r) P else uM J (uz W (p + 1) (nI (p + 1)) k r) P), K) rr → zEv X mt_X11_readText 79 [.ref 39] [.int (mh H tn p)] (zSH im tl, uM J (uz W p (-1) k r) P, K) rr := fun q => sg_X11_readText_79_0 _ ((mh_eq h (c := 32) (by omega) (by omega)).mpr h32) m1 q
  unfold tr
  by_cases c1 : H (p + 1) = 82
  · rw [if_neg (fun q => q c1)]
    rw [if_pos c1] at s1
    have l1 := hh_lt h (p := p + 1) (by omega)
    have m2 := m_ex0 (X := X) (im := im) (tl := tl) (K := K) (P := P) (k := k) (r := r) h hJ h9 (a := p + 2) (c := 69) (by omega) (by omega) (by omega)
    by_cases c2 : H (p + 2) = 69
    · rw [if_neg (fun q => q c2)]
      rw [if_pos c2] at m2
      have l2 := hh_lt h (p := p + 2) (by omega)
      have m3 := m_ex0 (X := X) (im := im) (tl := tl) (K := K) (P := P) (k := k) (r := r) h hJ h9 (a := p + 3) (c := 86) (by omega) (by omega) (by omega)
      by_cases c3 : H (p + 3) = 86
      · rw [if_neg (fun q => q c3)]
        rw [if_pos c3] at m3
        have l3 := hh_lt h (p := p + 3) (by omega)
        have g2 := fg_tn h 2 (p + 4) 0 (by omega)
        have mf := m_fig (X := X) (im := im) (tl := tl) (K := K) (P := P) (k := k) (r := r) (m := 2) h hJ h9 (by omega) (by omega) (p := p + 4) (by omega)
        have s4 : ∀ {rr}, zEv X mt_X11_readText 118 [.ref 39] [.int (nI (fg H 2 (p + 4) 0).1), .ref 39] (zSH im tl, uM J (uz W (fg H 2 (p + 4) 0).2 (if (fg H 2 (p + 4) 0).2 = p + 4 then nI (p + 4) else -1) k r) P, K) rr → zEv X mt_X11_readText 79 [.ref 39] [.int (mh H tn p)] (zSH im tl, uM J (uz W p (-1) k r) P, K) rr := fun q => s1 (sg_X11_readText_100_0 m2 (sg_X11_readText_106_0 m3 (sg_X11_readText_112_0 mf q)))
        by_cases c4 : (fg H 2 (p + 4) 0).2 = p + 4
        · rw [if_pos c4]
          rw [if_pos c4] at s4
          exact ⟨_, _, s4 (m_118f (nI_pos' (by omega)) _)⟩
        · rw [if_neg c4]
          rw [if_neg c4] at s4
          have nf : ¬ (0 : Int32) ≤ -1 := by decide
          have e9 : uM J (uz W (fg H 2 (p + 4) 0).2 (-1) k r) P 39 9 = nI tn := h9
          have e10 : uM J (uz W (fg H 2 (p + 4) 0).2 (-1) k r) P 39 10 = nI (fg H 2 (p + 4) 0).2 := rfl
          have e39 : uM J (uz W (fg H 2 (p + 4) 0).2 (-1) k r) P 39 = uz W (fg H 2 (p + 4) 0).2 (-1) k r := rfl
          by_cases c5 : (fg H 2 (p + 4) 0).2 < tn
          · rw [if_pos c5]
            have w := m_wr (X := X) (im := im) (tl := tl) (J := J) (K := K) (W := W) (P := P) (a := (fg H 2 (p + 4) 0).2) (k := k) (r := nI (fg H 2 (p + 4) 0).1) (nI (fg H 2 (p + 4) 0).2)
            refine ⟨(fg H 2 (p + 4) 0).2, nI (fg H 2 (p + 4) 0).1, s4 (sg_X11_readText_118_2 _ nf (by rw [e9, e10]; exact nI_ge c5 (by omega)) ?_ m_147)⟩
            rw [e10, e39, uz_15, uM_39]
            exact w
          · rw [if_neg c5]
            refine ⟨(fg H 2 (p + 4) 0).2, s4 (ev_r (sg_X11_readText_118_1 _ nf (by rw [e9, e10]; exact nI_le (by omega) (by omega))) ?_)⟩
            rw [e39, uz_15, uM_39, uM_39]
      · rw [if_pos c3]
        rw [if_neg c3] at m3
        exact ⟨_, _, s1 (sg_X11_readText_100_0 m2 (sg_X11_readText_106_0 m3 (m_112f (nI_pos' (by omega)))))⟩
    · rw [if_pos c2]
      rw [if_neg c2] at m2
      exact ⟨_, _, s1 (sg_X11_readText_100_0 m2 (sg_X11_readText_106_0 (m_ex1 (nI_pos' (by omega)) _) (m_112f (nI_pos' (by omega)))))⟩
  · rw [if_pos c1]
    rw [if_neg c1] at s1
    exact ⟨_, _, s1 (sg_X11_readText_100_0 (m_ex1 (nI_pos' (by omega)) _) (sg_X11_readText_106_0 (m_ex1 (nI_pos' (by omega)) _) (m_112f (nI_pos' (by omega)))))⟩
theorem m_pr (h : hh H tn) (hJ : ∀ k, k < tn → J 44 k = nI (H k)) (h9 : W 9 = nI tn) (hA : J 40 0 = nI nA) (h1 : 1 ≤ nA) (h30 : nA ≤ 30) : ∀ (f p : Nat) (acc : List (Nat × Int32)) (P : Nat → Int32) (Q : Nat → Int64), acc.length + f = 91 → 4 * acc.length ≤ p + 1 → p ≤ tn → mP acc P Q → ∃ a' v k' r' P' Q', mOut (pr H nA tn f p acc) v k' r' P' Q' ∧ zEv X mt_X11_readText 24 [.ref 39] [] (zSH im tl, uM J (uz W p (-1) acc.length (-1)) P, va_up K 46 Q) (none, (zSH im tl, uM J (upd (uz W a' v k' r') 9 0) P', va_up K 46 Q')) := by
  have h90 := h.1
  have nf : ¬ (0 : Int32) ≤ -1 := by decide
  intro f
  induction f with
  | zero => intro p acc P Q hf hp hp2; omega
  | succ f ih =>
    intro p acc P Q hf hp hp2 hm
    have e12 : uM J (uz W p (-1) acc.length (-1)) P 39 12 = nI acc.length := rfl
    have e9 : uM J (uz W p (-1) acc.length (-1)) P 39 9 = nI tn := h9
    have e10 : uM J (uz W p (-1) acc.length (-1)) P 39 10 = nI p := rfl
    have hr := m_hr (X := X) (im := im) (tl := tl) (K := va_up K 46 Q) (P := P) (f := -1) (k := acc.length) (r := -1) h hJ h9 hp2
    have mx := m_ex0 (X := X) (im := im) (tl := tl) (K := va_up K 46 Q) (P := P) (k := acc.length) (r := -1) h hJ h9 hp2 (c := 59) (by omega) (by omega)
    unfold pr
    by_cases c1 : H p = 59
    · rw [if_pos c1]
      rw [if_pos c1] at mx
      have l1 := hh_lt h (p := p) (by omega)
      -- the sign, then a part
      have s1 : ∀ {rr}, zEv X mt_X11_readText 54 [.ref 39] [] (zSH im tl, uM J (uz W (p + 1) (-1) acc.length (-1)) P, va_up K 46 Q) rr → zEv X mt_X11_readText 24 [.ref 39] [] (zSH im tl, uM J (uz W p (-1) acc.length (-1)) P, va_up K 46 Q) rr := by
        intro rr q
        by_cases c2 : acc.length < 2
        · exact sg_X11_readText_24_4 nf (by rw [e12]; exact nI_lt (b := 2) c2 (by omega)) mx q
        · exact sg_X11_readText_24_5 nf (by rw [e12]; exact nI_nlt (b := 2) (by omega) (by omega)) hr (sg_X11_readText_43_0 _ ((mh_eq h (c := 59) (by omega) (by omega)).mpr c1) mx q)
      have ht := m_tp (X := X) (im := im) (tl := tl) (K := K) (P := P) (Q := Q) (k := acc.length) (r := -1) h hJ h9 hA h1 h30 (p := p + 1) (by omega) (by omega)
      cases he : tp H nA (p + 1) with
      | inl q =>
        rw [he] at ht
        obtain ⟨a', ht⟩ := ht
        have hq := tp_l h (by omega) he
        rw [pz_l he]
        exact ⟨a', nI q, acc.length, -1, P, Q, ⟨rfl, by omega⟩, s1 (sg_X11_readText_54_1 nf ht (sg_X11_readText_65_0 (m_24f (nI_pos' (by omega)))))⟩
      | inr x =>
        obtain ⟨a, neg, m, p'⟩ := x
        rw [he] at ht
        obtain ⟨t1, t2, t3, t4, t5⟩ := tp_r h (by omega) he
        have hl : (acc ++ [(a, sgn neg m)]).length = acc.length + 1 := by rw [List.length_append, List.length_singleton]
        rw [pz_r he]
        obtain ⟨a', v, k', r', P', Q', w1, w2⟩ := ih p' (acc ++ [(a, sgn neg m)]) (upd P acc.length (nI a)) (vp_updL Q acc.length (sgn neg m).toInt64) (by omega) (by omega) t5 (mP_snoc hm a (sgn neg m))
        rw [hl] at w2
        exact ⟨a', v, k', r', P', Q', w1, s1 (sg_X11_readText_54_1 nf ht (sg_X11_readText_65_0 w2))⟩
    · rw [if_neg c1]
      rw [if_neg c1] at mx
      have n59 : ¬ mh H tn p = 59 := fun q => c1 ((mh_eq h (c := 59) (by omega) (by omega)).mp q)
      -- too few parts: the sign is wanted
      have few : acc.length < 2 → zEv X mt_X11_readText 24 [.ref 39] [] (zSH im tl, uM J (uz W p (-1) acc.length (-1)) P, va_up K 46 Q) (none, (zSH im tl, uM J (upd (uz W p (nI p) acc.length (-1)) 9 0) P, va_up K 46 Q)) := fun c2 => sg_X11_readText_24_4 nf (by rw [e12]; exact nI_lt (b := 2) c2 (by omega)) mx (sg_X11_readText_54_0 (nI_pos' (n := p) (by omega)) (m_24f (nI_pos' (by omega))))
      have more : ∀ {rr}, ¬ acc.length < 2 → zEv X mt_X11_readText 79 [.ref 39] [.int (mh H tn p)] (zSH im tl, uM J (uz W p (-1) acc.length (-1)) P, va_up K 46 Q) rr → zEv X mt_X11_readText 24 [.ref 39] [] (zSH im tl, uM J (uz W p (-1) acc.length (-1)) P, va_up K 46 Q) rr := fun c2 q => sg_X11_readText_24_5 nf (by rw [e12]; exact nI_nlt (b := 2) (by omega) (by omega)) hr (sg_X11_readText_43_4 _ n59 nf hr q)
      by_cases c2 : tn ≤ p
      · rw [if_pos c2]
        have hpt : p = tn := by omega
        by_cases c3 : 2 ≤ acc.length
        · rw [if_pos c3]
          refine ⟨p, -1, acc.length, -1, P, Q, ⟨rfl, rfl, rfl, hm⟩, more (by omega) (ev_r (sg_X11_readText_79_2 _ (fun q => ?_) nf (by rw [e9, e10]; exact nI_le c2 (by omega))) ?_)⟩
          · have := (mh_eq h (c := 32) (by omega) (by omega)).mp q
            rw [h.2.2 p c2] at this
            omega
          · rw [show uM J (uz W p (-1) acc.length (-1)) P 39 = uz W p (-1) acc.length (-1) from rfl, uM_39]
        · rw [if_neg c3]
          exact ⟨p, nI p, acc.length, -1, P, Q, ⟨by rw [hpt], by omega⟩, few (by omega)⟩
      · rw [if_neg c2]
        by_cases c3 : H p = 32 ∧ 2 ≤ acc.length
        · rw [if_pos c3]
          have ht := m_tr (X := X) (im := im) (tl := tl) (K := va_up K 46 Q) (P := P) (k := acc.length) (r := -1) h hJ h9 (p := p) (by omega) c3.1
          cases he : tr H tn p with
          | inl q =>
            rw [he] at ht
            obtain ⟨a', r', ht⟩ := ht
            have hq := tr_l h (by omega) he
            exact ⟨a', nI q, acc.length, r', P, Q, ⟨rfl, by omega⟩, more (by omega) ht⟩
          | inr v =>
            rw [he] at ht
            obtain ⟨a', ht⟩ := ht
            exact ⟨a', -1, acc.length, nI v, P, Q, ⟨rfl, rfl, rfl, hm⟩, more (by omega) ht⟩
        · rw [if_neg c3]
          by_cases c4 : acc.length < 2
          · exact ⟨p, nI p, acc.length, -1, P, Q, ⟨rfl, by omega⟩, few c4⟩
          · have n32 : ¬ mh H tn p = 32 := fun q => c3 ⟨(mh_eq h (c := 32) (by omega) (by omega)).mp q, by omega⟩
            exact ⟨p, nI p, acc.length, -1, P, Q, ⟨rfl, by omega⟩, more c4 (sg_X11_readText_79_3 _ n32 nf (by rw [e9, e10]; exact nI_ge (by omega) (by omega)) (m_wr _) m_147)⟩
theorem m_readText (h : hh H tn) (hJ : ∀ k, k < tn → J 44 k = nI (H k)) (h9 : J 39 9 = nI tn) (hA : J 40 0 = nI nA) (h1 : 1 ≤ nA) (h30 : nA ≤ 30) : ∃ a' v k' r' P' Q', mOut (pz H nA tn 91 0 []) v k' r' P' Q' ∧ zEv X mt_X11_readText 0 [.ref 39] [] (zSH im tl, J, K) (none, (zSH im tl, uM J (upd (uz (J 39) a' v k' r') 9 0) P', va_up K 46 Q')) := by
  have e : va_up (va_up (va_up (va_up J 39 (upd (J 39) 10 0)) 39 (upd (upd (J 39) 10 0) 11 (-1))) 39 (upd (upd (upd (J 39) 10 0) 11 (-1)) 12 0)) 39 (upd (upd (upd (upd (J 39) 10 0) 11 (-1)) 12 0) 15 (-1)) = uM J (uz (J 39) 0 (-1) 0 (-1)) (J 45) := by
    rw [va_up2, va_up2, va_up2]
    unfold uM
    rw [va_up_id (f := va_up J 39 (uz (J 39) 0 (-1) 0 (-1))) (k := 45) (v := J 45) rfl]
    rfl
  have ht := m_tp (X := X) (im := im) (tl := tl) (K := K) (P := J 45) (Q := K 46) (k := 0) (r := -1) h hJ h9 hA h1 h30 (p := 0) (by omega) (by omega)
  have nf : ¬ (0 : Int32) ≤ -1 := by decide
  cases he : tp H nA 0 with
  | inl q =>
    rw [he] at ht
    obtain ⟨a', ht⟩ := ht
    have hq := tp_l h (by omega) he
    have h90 := h.1
    rw [pz_l he]
    rw [va_up_id (f := K) (k := 46) rfl, ← e] at ht
    refine ⟨a', nI q, 0, -1, J 45, K 46, ⟨rfl, by omega⟩, sg_X11_readText_0_0 ht ?_⟩
    rw [va_up_id (f := K) (k := 46) rfl]
    exact m_24f (nI_pos' (by omega))
  | inr x =>
    obtain ⟨a, neg, m, p'⟩ := x
    rw [he] at ht
    obtain ⟨t1, t2, t3, t4, t5⟩ := tp_r h (by omega) he
    rw [pz_r he]
    rw [va_up_id (f := K) (k := 46) rfl, ← e] at ht
    obtain ⟨a', v, k', r', P', Q', w1, w2⟩ := m_pr (X := X) (im := im) (tl := tl) (K := K) h hJ h9 hA h1 h30 90 p' ([] ++ [(a, sgn neg m)]) (upd (J 45) 0 (nI a)) (vp_updL (K 46) 0 (sgn neg m).toInt64) rfl (by show 4 * 1 ≤ p' + 1; omega) t5 (mP_snoc (acc := []) (fun i hi => by cases hi) a (sgn neg m))
    exact ⟨a', v, k', r', P', Q', w1, sg_X11_readText_0_0 ht w2⟩
end MR
