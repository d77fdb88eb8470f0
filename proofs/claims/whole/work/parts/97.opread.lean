def rvm : Option Nat → Int32
  | none => -1
  | some r => nI r
/-- every part takes four letters at least -/
theorem pz_len {H : Nat → Nat} {nA tn : Nat} (h : hh H tn) : ∀ (f p : Nat) (acc acc' : List (Nat × Int32)) (r : Option Nat), p ≤ tn → 4 * acc.length ≤ p → pz H nA tn f p acc = .inr (acc', r) → 4 * acc'.length ≤ tn + 1
  | 0, p, acc, acc', r, hp, hg, e => by rw [pz] at e; cases e
  | f + 1, p, acc, acc', r, hp, hg, e => by
    cases he : tp H nA p with
    | inl q => rw [pz_l he] at e; cases e
    | inr x =>
      obtain ⟨a, neg, m, p'⟩ := x
      obtain ⟨t1, t2, t3, t4, t5⟩ := tp_r h hp he
      have hl : (acc ++ [(a, sgn neg m)]).length = acc.length + 1 := by rw [List.length_append, List.length_singleton]
      rw [pz_r he] at e
      unfold pr at e
      split at e
      · rename_i c1
        exact pz_len h f (p' + 1) _ acc' r (hh_lt h (by omega)) (by omega) e
      · split at e
        · split at e
          · cases e; omega
          · cases e
        · split at e
          · split at e
            · cases e
            · cases e; omega
          · cases e
section OQ
variable {X : zSc} {im : Option Nat} {tl : List zS} {I J : zI} {L K : zL} {d : zD} {acc : List (Nat × Int32)}
/-- do the parts from i on reverse the journal's postings? -/
def al (I : zI) (S T : Nat → Int32) (j : Nat) : Nat → Nat → Bool
  | 0, _ => true
  | f + 1, i => if S i = I 14 (10 * j + i) ∧ T i = -(I 15 (10 * j + i)) then al I S T j f (i + 1) else false
theorem al_t (I : zI) (S T : Nat → Int32) (j : Nat) : ∀ f i, al I S T j f i = true → ∀ q, i ≤ q → q < i + f → S q = I 14 (10 * j + q) ∧ T q = -(I 15 (10 * j + q))
  | 0, i, _, q, h1, h2 => by omega
  | f + 1, i, h, q, h1, h2 => by
    rw [al] at h
    split at h
    · rename_i hc
      by_cases e : q = i
      · subst e; exact hc
      · exact al_t I S T j f (i + 1) h q (by omega) (by omega)
    · cases h
theorem c_al (hJ : rJ d I J K) {j k : Nat} (hj : j < d.nJ) (hk : k ≤ 10) (h28 : I 28 0 = nI k) (v3 : Int32) : ∀ (f i : Nat), i + f = k → zEv X mt_X4_isReversal 23 [.ref 9, .int (nI j), .ref 28, .int v3, .int (nI i), .null] [] (zSH im tl, I, L) (some (.int (zbi1 (al I (I 29) (I 30) j f i))), (zSH im tl, I, L)) := by
  have h60 := hJ.j60
  intro f
  induction f with
  | zero =>
    intro i hi
    exact sg_X4_isReversal_23_0 _ _ _ (by rw [h28]; exact nI_le (by omega) (by omega))
  | succ f ih =>
    intro i hi
    have hn : ¬ I 28 0 ≤ nI i := by rw [h28]; exact nI_ge (by omega) (by omega)
    have i10 := k_in (x := nI i) (n := 10) rfl (by omega) (by omega)
    have ck := kmi (j := j) (i := i) (n := 600) (by omega) (by omega)
    have kk : ((nI j * 10) + nI i).toNatClampNeg = 10 * j + i := kmx (by omega)
    have ci : (nI i).toNatClampNeg = i := kc (by omega)
    rw [al]
    by_cases c1 : I 29 i = I 14 (10 * j + i)
    · by_cases c2 : I 30 i = -(I 15 (10 * j + i))
      · rw [if_pos ⟨c1, c2⟩]
        refine sg_X4_isReversal_23_1 _ _ _ hn i10 ck (by rw [ci, kk]; exact c1) i10 ck (by rw [ci, kk]; exact c2) ?_
        rw [nI_1]
        exact ih (i + 1) (by omega)
      · rw [if_neg (fun q => c2 q.2)]
        exact sg_X4_isReversal_23_2 _ _ _ hn i10 ck (by rw [ci, kk]; exact c1) i10 ck (by rw [ci, kk]; exact c2)
    · rw [if_neg (fun q => c1 q.1)]
      exact sg_X4_isReversal_23_3 _ _ _ hn i10 ck (by rw [ci, kk]; exact c1)
theorem i64_inj {x y : Int32} (h : x.toInt64 = y.toInt64) : x = y := by
  apply Int32.toInt_inj.mp
  have := congrArg Int64.toInt h
  rw [Int32.toInt_toInt64, Int32.toInt_toInt64] at this
  exact this
theorem m_al (hJ : rJ d I J K) {S T : Nat → Int32} {j k : Nat} (hj : j < d.nJ) (hk : k = d.sz j) (h12 : J 39 12 = nI k) (hP : ∀ i, i < k → J 45 i = S i ∧ K 46 i = (T i).toInt64) : ∀ (f i : Nat), i + f = k → zEv X mt_X11_doReverse 21 [.ref 39, .int (nI j), .int (nI i)] [] (zSH im tl, J, K) (some (.int (zbi1 (al I S T j f i))), (zSH im tl, J, K)) := by
  have h60 := hJ.j60
  have hPP := rj_p hJ
  have hz := (hJ.z j hj).2
  have hfz := hJ.fz hj
  intro f
  induction f with
  | zero =>
    intro i hi
    exact sg_X11_doReverse_21_0 _ _ (by rw [h12]; exact nI_le (by omega) (by omega))
  | succ f ih =>
    intro i hi
    have hn : ¬ J 39 12 ≤ nI i := by rw [h12]; exact nI_ge (by omega) (by omega)
    have i50 := k_in (x := nI i) (n := 50) rfl (by omega) (by omega)
    have i160 := k_in (x := (160 : Int32) + nI j) (n := 1280) (nI_add 160 j) (by omega) (by omega)
    have e160 : J 40 ((160 : Int32) + nI j).toNatClampNeg = nI (d.fs j) := by rw [kx 160 (a := 160) rfl (by omega), hJ.fm j hj]
    have e400 : (400 : Int32) + nI (d.fs j) + nI i = nI (400 + (d.fs j + i)) := by rw [show (400 : Int32) = nI 400 from rfl, nI_add, nI_add, Nat.add_assoc]
    have e60 : (60 : Int32) + nI (d.fs j) + nI i = nI (60 + (d.fs j + i)) := by rw [show (60 : Int32) = nI 60 from rfl, nI_add, nI_add, Nat.add_assoc]
    have i400 := k_in (x := nI (400 + (d.fs j + i))) (n := 1280) rfl (by omega) (by omega)
    have i60 := k_in (x := nI (60 + (d.fs j + i))) (n := 1000) rfl (by omega) (by omega)
    have c400 : (nI (400 + (d.fs j + i))).toNatClampNeg = 400 + (d.fs j + i) := kc (by omega)
    have c60 : (nI (60 + (d.fs j + i))).toNatClampNeg = 60 + (d.fs j + i) := kc (by omega)
    have ci : (nI i).toNatClampNeg = i := kc (by omega)
    obtain ⟨p1, p2⟩ := hP i (by omega)
    have ha := (hJ.a j hj i (by omega)).2
    obtain ⟨xb, hx⟩ := hJ.x j hj i (by omega)
    obtain ⟨-, hneg⟩ := i_neg xb
    have key : lg_cmp (K 46 i) (-(K 41 (60 + (d.fs j + i)))) = 0 ↔ T i = -(I 15 (10 * j + i)) := by
      rw [lg_cmp_eq, p2, hx, hneg]
      exact ⟨fun e => i64_inj e, fun e => by rw [e]⟩
    rw [al]
    by_cases c1 : S i = I 14 (10 * j + i)
    · have c1' : J 45 (nI i).toNatClampNeg = J 40 (400 + J 40 ((160 : Int32) + nI j).toNatClampNeg + nI i).toNatClampNeg := by rw [ci, e160, e400, c400, p1, ha]; exact c1
      by_cases c2 : T i = -(I 15 (10 * j + i))
      · rw [if_pos ⟨c1, c2⟩]
        refine sg_X11_doReverse_21_1 _ _ hn i50 i160 (by rw [e160, e400]; exact i400) c1' i50 i160 (by rw [e160, e60]; exact i60) (by rw [ci, e160, e60, c60]; exact key.mpr c2) ?_
        rw [nI_1]
        exact ih (i + 1) (by omega)
      · rw [if_neg (fun q => c2 q.2)]
        exact sg_X11_doReverse_21_2 _ _ hn i50 i160 (by rw [e160, e400]; exact i400) c1' i50 i160 (by rw [e160, e60]; exact i60) (by rw [ci, e160, e60, c60]; exact fun q => c2 (key.mp q))
    · rw [if_neg (fun q => c1 q.1)]
      exact sg_X11_doReverse_21_3 _ _ hn i50 i160 (by rw [e160, e400]; exact i400) (by rw [ci, e160, e400, c400, p1, ha]; exact c1)
/-- the class's whole test, and the model's -/
theorem j_isRev (hJ : rJ d I I K) {j k : Nat} (hk50 : k < 50) (h28 : I 28 0 = nI (min k 10)) (hj : j < d.nJ) : ∃ b : Bool, (b = true → k = d.sz j ∧ ∀ i, i < d.sz j → I 29 i = I 14 (10 * j + i) ∧ I 30 i = -(I 15 (10 * j + i))) ∧ zEv X mt_X4_isReversal 0 [.ref 9, .int (nI j), .ref 28, .int (nI k), .null, .null] [] (zSH im tl, I, L) (some (.int (zbi1 b)), (zSH im tl, I, L)) ∧ ∀ (J : zI) (K' : zL) (s0 : Int32) (r : Option Value × zM), ¬ s0 = 0 → J 40 = I 40 → J 39 15 = nI j → J 39 12 = nI k → K' 41 = K 41 → (∀ i, i < k → i < 10 → J 45 i = I 29 i ∧ K' 46 i = (I 30 i).toInt64) → (b = false → r = (some (.int (-3)), (zSH im tl, J, K'))) → (b = true → zEv X mt_X11_read 68 [.ref 39, .null] [.int 1] (zSH im tl, J, K') r) → zEv X mt_X11_read 46 [.ref 39, .null] [.int s0] (zSH im tl, J, K') r := by
  have h60 := hJ.j60
  obtain ⟨hz, hz10⟩ := hJ.z j hj
  obtain ⟨b0, b1, b2⟩ := j_may (X := X) (im := im) (tl := tl) hJ hj
  have cj : (nI j).toNatClampNeg = j := kc (by omega)
  have ij := k_in (x := nI j) (n := 60) rfl (by omega) (by omega)
  cases b0 with
  | false =>
    refine ⟨false, (fun e => by cases e), sg_X4_isReversal_0_0 _ _ (b1 I L rfl rfl rfl) (sg_X4_isReversal_5_0 _ _ _ rfl), fun J K' s0 r hs h40 h15 h12 h41 hP hf ht => ?_⟩
    rw [hf rfl]
    exact sg_X11_read_46_1 _ hs (by rw [h15]; exact b2 J K' h40) (sg_X11_read_57_0 _ rfl)
  | true =>
    by_cases c1 : k = d.sz j
    · have hm : min k 10 = k := by omega
      rw [hm] at h28
      refine ⟨al I (I 29) (I 30) j k 0, fun e => ⟨c1, fun i hi => al_t _ _ _ _ _ _ e i (by omega) (by omega)⟩, sg_X4_isReversal_0_0 _ _ (b1 I L rfl rfl rfl) (sg_X4_isReversal_5_1 _ _ _ (by decide) ij (by rw [cj, hz, c1]) (c_al hJ hj (by omega) h28 _ k 0 (by omega))), fun J K' s0 r hs h40 h15 h12 h41 hP hf ht => ?_⟩
      have hJ2 : rJ d I J K' := by
        show RJ _ _ _ _ _ _ _ _ _ _ _ _ _ _ (J 40) (K' 41)
        rw [h40, h41]; exact hJ
      have ma := m_al (X := X) (im := im) (tl := tl) hJ2 hj c1 h12 (S := I 29) (T := I 30) (fun i hi => hP i hi (by omega)) k 0 (by omega)
      have e220 : J 40 ((220 : Int32) + nI j).toNatClampNeg = nI (d.sz j) := by rw [kx 220 (a := 220) rfl (by omega), hJ2.zm j hj]
      have md := sg_X11_doReverse_0_0 (X := X) (im := im) (tl := tl) (I := J) (L := K') (nI j) (k_in (nI_add 220 j) (by omega) (by omega)) (by rw [e220, h12, c1]) ma
      refine sg_X11_read_46_1 _ hs (by rw [h15]; exact b2 J K' h40) (sg_X11_read_57_1 _ (by decide) (by rw [h15]; exact md) ?_)
      cases hb : al I (I 29) (I 30) j k 0 with
      | false =>
        rw [hf hb]
        exact sg_X11_read_68_0 _ rfl
      | true => exact ht hb
    · refine ⟨false, (fun e => by cases e), sg_X4_isReversal_0_0 _ _ (b1 I L rfl rfl rfl) (sg_X4_isReversal_5_2 _ _ _ (by decide) ij (by rw [cj, hz]; exact k_ne rfl rfl c1 (by omega) (by omega))), fun J K' s0 r hs h40 h15 h12 h41 hP hf ht => ?_⟩
      have hJ2 : rJ d I J K' := by
        show RJ _ _ _ _ _ _ _ _ _ _ _ _ _ _ (J 40) (K' 41)
        rw [h40, h41]; exact hJ
      have e220 : J 40 ((220 : Int32) + nI j).toNatClampNeg = nI (d.sz j) := by rw [kx 220 (a := 220) rfl (by omega), hJ2.zm j hj]
      rw [hf rfl]
      exact sg_X11_read_46_1 _ hs (by rw [h15]; exact b2 J K' h40) (sg_X11_read_57_1 _ (by decide) (by rw [h15]; exact sg_X11_doReverse_0_1 _ (k_in (nI_add 220 j) (by omega) (by omega)) (by rw [e220, h12]; exact k_ne rfl rfl c1 (by omega) (by omega))) (sg_X11_read_68_0 _ rfl))
theorem op_read (hR : rAll d im tl I L) : zOpI X im tl I L mt_X10_read mt_X11_read [.ref 0, .null, .null] [.ref 39, .null] := by
  have hA := hR.1.ra
  have hJ := hR.1.rj
  have hO := hR.1.ro
  have h60 := hJ.j60
  have h30 := hA.n30
  obtain ⟨tn, hT⟩ := hR.2.t
  obtain ⟨pn, hP⟩ := hR.2.p
  have h90 := hT.t90
  obtain ⟨H, hH⟩ : ∃ H : Nat → Nat, H = fun k => if k < tn then (I 32 k).toNatClampNeg else 0 := ⟨_, rfl⟩
  have hI : ∀ k, k < tn → I 32 k = nI (H k) := fun k hk => by
    obtain ⟨⟨x, x1, x2, x3⟩, -⟩ := hT.b k hk
    rw [hH]
    show I 32 k = nI (if k < tn then (I 32 k).toNatClampNeg else 0)
    rw [if_pos hk, x3, kc (by omega)]
  have hh' : hh H tn := by
    refine ⟨h90, fun k hk => ?_, fun k hk => ?_⟩
    · obtain ⟨⟨x, x1, x2, x3⟩, -⟩ := hT.b k hk
      have e := hI k hk
      rw [x3] at e
      rw [hH] at e ⊢
      show 1 ≤ (if k < tn then (I 32 k).toNatClampNeg else 0) ∧ (if k < tn then (I 32 k).toNatClampNeg else 0) ≤ 127
      rw [if_pos hk, x3, kc (by omega)]
      omega
    · rw [hH]; exact if_neg (by omega)
  have hI44 : ∀ k, k < tn → I 44 k = nI (H k) := fun k hk => (hT.b k hk).2.trans (hI k hk)
  obtain ⟨v, k, rv, p, O, S, T, cO, cP⟩ := c_parse (X := X) (im := im) (tl := tl) (L := L) hh' hI hA.c h30 hT.c
  have e31 : cM I (tz (I 31) tn k rv p) O S T 31 = tz (I 31) tn k rv p := rfl
  cases ho : pz H d.nA tn 91 0 [] with
  | inl q =>
    rw [ho] at cO
    have hv : v = nI q := cO
    have mk := fun (J : zI) (h1 : ∀ k, k < tn → J 44 k = nI (H k)) (h2 : J 39 9 = nI tn) (h3 : J 40 0 = nI d.nA) => m_readText (X := X) (im := im) (tl := tl) (K := L) hh' h1 h2 h3 hA.n1 h30
    obtain ⟨a', f', k', r', P', Q', w1, w2⟩ := mk (cM I (upd (tz (I 31) tn k rv p) 0 0) O S T) hI44 hT.m hA.m
    rw [ho] at w1
    obtain ⟨hf, hq⟩ := w1
    subst hf
    refine ⟨-100 - nI q, cM I (upd (tz (I 31) tn k rv p) 0 0) O S T, L, uM (cM I (upd (tz (I 31) tn k rv p) 0 0) O S T) (upd (uz (I 39) a' (nI q) k' r') 9 0) P', va_up L 46 Q', d, sg_X10_read_0_0 cP (ev_r (sg_X10_read_18_3 _ ?_) ?_), sg_X11_read_0_0 w2 (sg_X11_read_4_6 (show ¬ nI q < 0 from nI_pos (by omega))), hR.1, ⟨0, RT.mk (by omega) rfl rfl (fun k hk => by omega)⟩, ⟨pn, RP.mk hP.p125 hP.c hP.m hP.b⟩, hR.2.l, hR.2.i⟩
    · rw [hv]
      exact fun e => absurd (e ▸ (by decide : (-1 : Int32) < 0) : nI q < 0) (nI_pos (by omega))
    · rw [hv, e31, cM_31]
  | inr x =>
    obtain ⟨acc, r⟩ := x
    rw [ho] at cO
    obtain ⟨hv, hk, hrv, hd⟩ := cO
    obtain ⟨hg, h2, hlen, hr100⟩ := pz_ok hh' 91 0 [] acc r (by omega) (fun i hi => by cases hi) ho
    have hlen' : acc.length ≤ 23 := by
      have := pz_len hh' 91 0 [] acc r (by omega) (by decide) ho
      omega
    subst hv
    subst hk
    -- the class's memory behind the parsing, and the model's reading over any memory
    obtain ⟨I0, hI0⟩ : ∃ I0, I0 = cM I (upd (tz (I 31) tn acc.length rv p) 0 0) O S T := ⟨_, rfl⟩
    have e0 : va_up (cM I (tz (I 31) tn acc.length rv p) O S T) 31 (upd (cM I (tz (I 31) tn acc.length rv p) O S T 31) 0 0) = I0 := by rw [hI0, e31, cM_31]
    have mread : ∀ (J : zI), (∀ k, k < tn → J 44 k = nI (H k)) → J 39 = I 39 → J 40 0 = nI d.nA → ∃ a' r' P' Q', r' = rvm r ∧ mP acc P' Q' ∧ zEv X mt_X11_readText 0 [.ref 39] [] (zSH im tl, J, L) (none, (zSH im tl, uM J (upd (uz (I 39) a' (-1) acc.length r') 9 0) P', va_up L 46 Q')) := by
      intro J h1 h2 h3
      obtain ⟨a', f', k', r', P', Q', w1, w2⟩ := m_readText (X := X) (im := im) (tl := tl) (K := L) hh' h1 (by rw [h2]; exact hT.m) h3 hA.n1 h30
      rw [ho] at w1
      obtain ⟨y1, y2, y3, y4⟩ := w1
      subst y1
      subst y2
      rw [h2] at w2
      exact ⟨a', r', P', Q', y3, y4, w2⟩
    cases hop : d.op with
    | some q =>
      obtain ⟨k10, _, b1, b2, b3⟩ := hO.yes q hop
      obtain ⟨a', r', P', Q', w1, w2, w3⟩ := mread I0 (by rw [hI0]; exact hI44) (by rw [hI0]; rfl) (by rw [hI0]; exact hA.m)
      subst hI0
      refine ⟨-3, _, L, _, _, d, sg_X10_read_0_0 cP (ev_r (sg_X10_read_18_2 _ rfl (show ¬ I 1 5 = 0 by rw [b1]; decide)) (by rw [e0])), sg_X11_read_0_0 w3 (sg_X11_read_4_5 (show (-1 : Int32) < 0 by decide) (show ¬ I 40 3 < 0 by rw [b3]; exact nI_pos (by omega))), hR.1, ⟨0, RT.mk (by omega) rfl rfl (fun k hk => by omega)⟩, ⟨pn, RP.mk hP.p125 hP.c hP.m hP.b⟩, hR.2.l, hR.2.i⟩
    | none =>
      obtain ⟨b1, b3⟩ := hO.no hop
      have n3 : I 40 3 < 0 := by rw [b3]; decide
      -- an answer that changes nothing but the tape
      have same : ∀ w : Int32, zEv X mt_X10_read 18 [.ref 0, .null, .null] [.int (-1)] (zSH im tl, cM I (tz (I 31) tn acc.length rv p) O S T, L) (some (.int w), (zSH im tl, I0, L)) → (∀ (a' : Nat) (r' : Int32) (P' : Nat → Int32) (Q' : Nat → Int64), r' = rvm r → mP acc P' Q' → zEv X mt_X11_read 4 [.ref 39, .null] [] (zSH im tl, uM I0 (upd (uz (I 39) a' (-1) acc.length r') 9 0) P', va_up L 46 Q') (some (.int w), (zSH im tl, uM I0 (upd (uz (I 39) a' (-1) acc.length r') 9 0) P', va_up L 46 Q'))) → zOpI X im tl I L mt_X10_read mt_X11_read [.ref 0, .null, .null] [.ref 39, .null] := by
        intro w q1 q2
        obtain ⟨a', r', P', Q', w1, w2, w3⟩ := mread I0 (by rw [hI0]; exact hI44) (by rw [hI0]; rfl) (by rw [hI0]; exact hA.m)
        have q3 := q2 a' r' P' Q' w1 w2
        subst hI0
        exact ⟨w, _, L, _, _, d, sg_X10_read_0_0 cP q1, sg_X11_read_0_0 w3 q3, hR.1, ⟨0, RT.mk (by omega) rfl rfl (fun k hk => by omega)⟩, ⟨pn, RP.mk hP.p125 hP.c hP.m hP.b⟩, hR.2.l, hR.2.i⟩
      -- an answer after which the book is another
      have book : ∀ (w : Int32) (r9 r10 r11 r12 r13 r14 r15 A B C n' : Nat → Int32) (l' : Nat → Int64) (d' : zD) (a' : Nat) (r' : Int32) (P' : Nat → Int32) (Q' : Nat → Int64), zEv X mt_X10_read 18 [.ref 0, .null, .null] [.int (-1)] (zSH im tl, cM I (tz (I 31) tn acc.length rv p) O S T, L) (some (.int w), (zSH im tl, jz I0 r9 r10 r11 r12 r13 r14 r15 A B C, L)) → zEv X mt_X11_read 0 [.ref 39, .null] [] (zSH im tl, jz I0 r9 r10 r11 r12 r13 r14 r15 A B C, L) (some (.int w), (zSH im tl, va_up (uM (jz I0 r9 r10 r11 r12 r13 r14 r15 A B C) (upd (uz (I 39) a' (-1) acc.length r') 9 0) P') 40 n', va_up (va_up L 46 Q') 41 l')) → RB d' (I 1) (I 2) (I 3) (I 4) (I 5) r9 r10 r11 r12 r13 r14 r15 (I 17) (I 18) (I 19) (I 20) A B C (I 24) (I 25) (I 26) (L 6) (L 7) (L 8) (L 27) n' l' → zOpI X im tl I L mt_X10_read mt_X11_read [.ref 0, .null, .null] [.ref 39, .null] := by
        intro w r9 r10 r11 r12 r13 r14 r15 A B C n' l' d' a' r' P' Q' q1 q2 q3
        subst hI0
        exact ⟨w, _, L, _, _, d', sg_X10_read_0_0 cP q1, q2, q3, ⟨0, RT.mk (by omega) rfl rfl (fun k hk => by omega)⟩, ⟨pn, RP.mk hP.p125 hP.c hP.m hP.b⟩, hR.2.l, hR.2.i⟩
      have hd0 : dP acc (I0 28) (I0 29) (I0 30) := by rw [hI0]; exact hd
      have i40 : I0 40 = I 40 := by rw [hI0]; rfl
      have i9 : I0 9 0 = nI d.nJ := by rw [hI0]; exact hJ.c
      have cfull := cj_isFull (X := X) (im := im) (tl := tl) (I := I0) (L := L) (nJ := d.nJ) i9 h60
      have i311 : I0 31 1 = nI acc.length := by rw [hI0]; rfl
      cases r with
      | none =>
        have hrv' : rv = -5 := hrv
        subst hrv'
        have c18 : ∀ {rr}, zEv X mt_X10_read 102 [.ref 0, .int (-1), .int (-5)] [.int (zbi1 (decide (d.nJ = 60)))] (zSH im tl, I0, L) rr → zEv X mt_X10_read 18 [.ref 0, .null, .null] [.int (-1)] (zSH im tl, cM I (tz (I 31) tn acc.length (-5) p) O S T, L) rr := fun q => sg_X10_read_18_0 _ rfl (show I 1 5 = 0 from b1) (show (-5 : Int32) = -5 from rfl) (by rw [e0]; exact cfull) q
        have m15 : (-1 : Int32) < 0 := by decide
        by_cases hf : d.nJ = 60
        · refine same (-4) (c18 (sg_X10_read_102_2 _ _ _ (by rw [decide_eq_true hf]; decide))) (fun a' r' P' Q' y1 y2 => ?_)
          subst y1
          exact sg_X11_read_4_0 m15 (show I0 40 3 < 0 by rw [i40]; exact n3) m15 (show I0 40 1 = 60 by rw [i40, hJ.m, hf]; rfl)
        · have n60 : ¬ I0 40 1 = 60 := by rw [i40]; exact k_ne (a := d.nJ) (b := 60) hJ.m rfl hf (by omega) (by omega)
          by_cases h10 : acc.length ≤ 10
          · have hA0 : ∀ K : zL, K 41 = L 41 → rA d I0 L I0 K := fun K e => by
              show RA _ _ _ _ _ _ _ _ _ (I0 40) (K 41)
              rw [e, hI0]; exact hA
            have hJ0 : ∀ K : zL, K 41 = L 41 → rJ d I0 I0 K := fun K e => by
              show RJ _ _ _ _ _ _ _ _ _ _ _ _ _ _ (I0 40) (K 41)
              rw [e, hI0]; exact hJ
            have hD0 : ∀ K : zL, K 41 = L 41 → RD d.day d.cl (I0 1) (L 27) (I0 40) (K 41) := fun K e => by
              rw [e, hI0]; exact hR.1.rd
            have hRR0 : RR d.cnt (I0 17) (I0 18) (I0 19) (I0 20) (I0 40) := by rw [hI0]; exact hR.1.rr
            have hB0 : I0 1 5 = 0 := by rw [hI0]; exact b1
            have jn := fun (K : zL) (e : K 41 = L 41) (hQ : ∀ i, i < acc.length → K 46 i = (acc.getD i (0, 0)).2.toInt64) => j_none (X := X) (im := im) (tl := tl) (hA0 K e) (hJ0 K e) (hD0 K e) hRR0 hB0 (by omega) hd0 h10 hg hQ
            obtain ⟨v1, s9, s10, s11, s12, s13, s14, s15, A1, B1, C1, _, _, _, t1, -, -⟩ := jn (va_up L 46 (fun i => (acc.getD i (0, 0)).2.toInt64)) rfl (fun i hi => rfl)
            obtain ⟨a', r', P', Q', w1, w2, w3⟩ := mread (jz I0 s9 s10 s11 s12 s13 s14 s15 A1 B1 C1) (by rw [hI0]; exact hI44) (by rw [hI0]; rfl) (by rw [hI0]; exact hA.m)
            subst w1
            obtain ⟨v2, r9, r10, r11, r12, r13, r14, r15, A, B, C, n', l', d', u1, u2, u3⟩ := jn (va_up L 46 Q') rfl (fun i hi => (w2 i hi).2)
            have hdet := ev_det t1 u1
            injection hdet with hv12 hM
            injection hM with _ hM
            injection hM with hM _
            rw [hM] at w3
            refine book v2 r9 r10 r11 r12 r13 r14 r15 A B C n' l' d' a' (-1) P' Q' (c18 (sg_X10_read_102_0 _ _ _ (by rw [decide_eq_false hf]; rfl) (by rw [i311]; exact nI_le (b := 10) h10 (by omega)) u1 (sg_X10_read_132_0 _ _ _))) (sg_X11_read_0_0 w3 (sg_X11_read_4_1 m15 (show I0 40 3 < 0 by rw [i40]; exact n3) m15 n60 (show nI acc.length ≤ 10 from nI_le (b := 10) h10 (by omega)) m15 (u2 _ rfl rfl (fun i hi => (w2 i hi).1)))) ?_
            rw [hI0] at u3
            exact u3
          · refine same (-4) (c18 (sg_X10_read_102_1 _ _ _ (by rw [decide_eq_false hf]; rfl) (by rw [i311]; exact nI_ge (a := 10) (by omega) (by omega)))) (fun a' r' P' Q' y1 y2 => ?_)
            subst y1
            exact sg_X11_read_4_3 m15 (show I0 40 3 < 0 by rw [i40]; exact n3) m15 n60 (show ¬ nI acc.length ≤ 10 from nI_ge (a := 10) (by omega) (by omega))
      | some j =>
        have hrv' : rv = nI j := hrv
        subst hrv'
        have hj100 := hr100 j rfl
        have nj5 : ¬ nI j = -5 := n5 (by omega)
        have c18 : ∀ {s : Int32} {rr}, zEv X mt_X4_isReversal 0 [.ref 9, .int (nI j), .ref 28, .int (nI acc.length), .null, .null] [] (zSH im tl, I0, L) (some (.int s), (zSH im tl, I0, L)) → zEv X mt_X10_read 86 [.ref 0, .int (-1), .int (nI j)] [.int s] (zSH im tl, I0, L) rr → zEv X mt_X10_read 18 [.ref 0, .null, .null] [.int (-1)] (zSH im tl, cM I (tz (I 31) tn acc.length (nI j) p) O S T, L) rr := fun q1 q2 => sg_X10_read_18_1 _ rfl (show I 1 5 = 0 from b1) nj5 (by rw [e0]; exact q1) q2
        have m11 : (-1 : Int32) < 0 := by decide
        have m15 : ¬ nI j < 0 := nI_pos (by omega)
        have hJ0 : rJ d I0 I0 L := by rw [hI0]; exact hJ
        rcases Nat.lt_or_ge j d.nJ with hj | hj
        · obtain ⟨b, hb, cb, mb⟩ := j_isRev (X := X) (im := im) (tl := tl) (L := L) (K := L) (j := j) (k := acc.length) hJ0 (by omega) hd0.1 hj
          -- the model up to the test, over any memory that the class left
          have m4 : ∀ (M : zI) (a' : Nat) (P' : Nat → Int32) (Q' : Nat → Int64) (rr : Option Value × zM), M 40 = I 40 → mP acc P' Q' → (b = false → rr = (some (.int (-3)), (zSH im tl, uM M (upd (uz (I 39) a' (-1) acc.length (nI j)) 9 0) P', va_up L 46 Q'))) → (b = true → zEv X mt_X11_read 68 [.ref 39, .null] [.int 1] (zSH im tl, uM M (upd (uz (I 39) a' (-1) acc.length (nI j)) 9 0) P', va_up L 46 Q') rr) → zEv X mt_X11_read 4 [.ref 39, .null] [] (zSH im tl, uM M (upd (uz (I 39) a' (-1) acc.length (nI j)) 9 0) P', va_up L 46 Q') rr := by
            intro M a' P' Q' rr hM y2 hf ht
            refine sg_X11_read_4_4 m11 (show M 40 3 < 0 by rw [hM]; exact n3) m15 (mo_isJournal1 (nJ := d.nJ) (show M 40 1 = _ by rw [hM]; exact hJ.m) hj h60) (mb _ _ 1 _ (by decide) (show M 40 = I0 40 by rw [hM, i40]) rfl rfl rfl (fun i hi hi2 => ?_) hf ht)
            obtain ⟨z1, z2⟩ := y2 i hi
            obtain ⟨z3, z4⟩ := hd0.2 i hi hi2
            exact ⟨by rw [z3]; exact z1, by rw [z4]; exact z2⟩
          cases b with
          | false =>
            refine same (-3) (c18 cb (sg_X10_read_86_0 _ _ _ rfl)) (fun a' r' P' Q' y1 y2 => ?_)
            subst y1
            exact m4 I0 a' P' Q' _ i40 y2 (fun _ => rfl) (fun e => by cases e)
          | true =>
            obtain ⟨hsz, hm⟩ := hb rfl
            have hz10 := (hJ.z j hj).2
            by_cases hf : d.nJ = 60
            · refine same (-4) (c18 cb (sg_X10_read_86_1 _ _ _ (by decide) cfull (sg_X10_read_102_2 _ _ _ (by rw [decide_eq_true hf]; decide)))) (fun a' r' P' Q' y1 y2 => ?_)
              subst y1
              exact m4 I0 a' P' Q' _ i40 y2 (fun e => by cases e) (fun _ => sg_X11_read_68_1 _ (by decide) (show I0 40 1 = 60 by rw [i40, hJ.m, hf]; rfl))
            · have n60 : ¬ I 40 1 = 60 := k_ne (a := d.nJ) (b := 60) hJ.m rfl hf (by omega) (by omega)
              have h28 : I0 28 0 = nI (d.sz j) := by rw [hd0.1, ← hsz, show min acc.length 10 = acc.length by omega]
              have jn := fun (K : zL) (e : K 41 = L 41) => j_reversed (X := X) (im := im) (tl := tl) (I := I0) (L := L) (K := K) (d := d) (r := j) (by
                  show RA _ _ _ _ _ _ _ _ _ (I0 40) (K 41)
                  rw [e, hI0]; exact hA) (by
                  show RJ _ _ _ _ _ _ _ _ _ _ _ _ _ _ (I0 40) (K 41)
                  rw [e, hI0]; exact hJ) (by rw [e, hI0]; exact hR.1.rd) (by rw [hI0]; exact hR.1.rr) (by rw [hI0]; exact b1) (by omega) hj h28 hm
              obtain ⟨v1, s9, s10, s11, s12, s13, s14, s15, A1, B1, C1, _, _, _, t1, -, -⟩ := jn L rfl
              obtain ⟨a', r', P', Q', w1, w2, w3⟩ := mread (jz I0 s9 s10 s11 s12 s13 s14 s15 A1 B1 C1) (by rw [hI0]; exact hI44) (by rw [hI0]; rfl) (by rw [hI0]; exact hA.m)
              subst w1
              obtain ⟨v2, r9, r10, r11, r12, r13, r14, r15, A, B, C, n', l', d', u1, u2, u3⟩ := jn (va_up L 46 Q') rfl
              have hdet := ev_det t1 u1
              injection hdet with hv12 hM
              injection hM with _ hM
              injection hM with hM _
              rw [hM] at w3
              refine book v2 r9 r10 r11 r12 r13 r14 r15 A B C n' l' d' a' (nI j) P' Q' (c18 cb (sg_X10_read_86_1 _ _ _ (by decide) cfull (sg_X10_read_102_0 _ _ _ (by rw [decide_eq_false hf]; rfl) (by rw [i311]; exact nI_le (b := 10) (by omega) (by omega)) u1 (sg_X10_read_132_0 _ _ _)))) (sg_X11_read_0_0 w3 (m4 _ a' P' Q' _ i40 w2 (fun e => by cases e) (fun _ => sg_X11_read_68_3 _ (by decide) (show ¬ I0 40 1 = 60 by rw [i40]; exact n60) (show nI acc.length ≤ 10 from nI_le (b := 10) (by omega) (by omega)) m15 (u2 _ rfl) (sg_X11_read_112_0 _)))) ?_
              rw [hI0] at u3
              exact u3
        · have hge : nI d.nJ ≤ nI j := nI_le hj (by omega)
          refine same (-3) (c18 (s := 0) (sg_X4_isReversal_0_0 _ _ (sg_X4_isReversible_0_0 _ (cj_has0 i9 (Or.inr hge)) (sg_X4_isReversible_5_0 _ _ rfl)) (sg_X4_isReversal_5_0 _ _ _ rfl)) (sg_X10_read_86_0 _ _ _ rfl)) (fun a' r' P' Q' y1 y2 => ?_)
          subst y1
          exact sg_X11_read_4_4 m11 (show I0 40 3 < 0 by rw [i40]; exact n3) m15 (mo_isJournal0 (nJ := d.nJ) (show I0 40 1 = _ by rw [i40]; exact hJ.m) h60 (Or.inr hge)) (sg_X11_read_46_0 _ rfl)
end OQ
