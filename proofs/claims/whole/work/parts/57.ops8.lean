section O8
variable {X : zSc} {im : Option Nat} {tl : List zS} {I J : zI} {L K : zL} {d : zD}
theorem nar_byte : ∀ x, x < 128 → vp_nar .byte (nI x).toInt8.toInt32 = nI x := by decide +kernel
theorem k_12 {a : Int32} {n : Nat} {M : Int32} (hM : M.toInt = n) (h1 : ¬ a < 1) (h2 : a ≤ M) : ∃ j : Nat, 1 ≤ j ∧ j ≤ n ∧ a = nI j := by
  obtain ⟨j, hj, rfl⟩ := nI_of2 hM (fun e => h1 (Int32.lt_trans e (by decide))) h2
  refine ⟨j, ?_, hj, rfl⟩
  by_cases e : j = 0
  · subst e; exact absurd (by decide : nI 0 < 1) h1
  · omega
theorem op_feed (hR : rAll d im tl I L) (a : Int32) : zOpI X im tl I L mt_X10_feed mt_X11_feed [.ref 0, .int a] [.ref 39, .int a] := by
  obtain ⟨tn, hT⟩ := hR.2.t
  obtain ⟨pn, hP⟩ := hR.2.p
  have h90 := hT.t90
  by_cases h1 : a < 1
  · exact op_roI hR _ (sg_X10_feed_0_0 _ h1) (sg_X11_feed_0_0 _ (mo_in0 (Or.inl h1)) (sg_X11_feed_7_0 _ _ rfl))
  · by_cases h2 : a ≤ 127
    · have mi : ∀ J : zI, zEv X mt_X11_in 0 [.int a, .int 1, .int 127] [] (zSH im tl, J, L) (some (.int 1), (zSH im tl, J, L)) := fun J => mo_in1 h1 (Int32.not_lt.mpr h2)
      by_cases hf : tn = 90
      · exact op_roI hR _ (sg_X10_feed_0_2 _ h1 h2 (k_nlt (b := 90) hT.c rfl (by omega) (by omega))) (sg_X11_feed_0_0 _ (mi _) (sg_X11_feed_7_1 _ _ (by decide) (by rw [hT.m, hf]; rfl)))
      · obtain ⟨x, x1, x2, rfl⟩ := k_12 (n := 127) (M := 127) (by decide +kernel) h1 h2
        have cc : (I 31 0).toNatClampNeg = tn := by rw [hT.c, kc (by omega)]
        have cm : (I 39 9).toNatClampNeg = tn := by rw [hT.m, kc (by omega)]
        refine ⟨nI (tn + 1), va_up (va_up I 32 (upd (I 32) tn (nI x))) 31 (upd (I 31) 0 (nI (tn + 1))), L, va_up (va_up (va_up (va_up I 32 (upd (I 32) tn (nI x))) 31 (upd (I 31) 0 (nI (tn + 1)))) 44 (upd (I 44) tn (nI x))) 39 (upd (I 39) 9 (nI (tn + 1))), L, d, sg_X10_feed_0_1 _ h1 h2 (k_lt (b := 90) hT.c rfl (by omega) (by omega)) (ev_r (sg_X9_add_0_1 _ (k_nle (a := 90) rfl hT.c (by omega) (by omega)) (k_in hT.c (by omega) (by omega))) ?_) (sg_X10_feed_37_0 (I := va_up (va_up I 32 (upd (I 32) tn (nI x))) 31 (upd (I 31) 0 (nI (tn + 1)))) _), sg_X11_feed_0_0 _ (mi _) (ev_r (sg_X11_feed_7_2 _ _ (by decide) (k_ne (a := tn) (b := 90) hT.m rfl hf (by omega) (by omega)) (k_in (a := tn) hT.m (by omega) (by omega))) ?_), hR.1, ?_, ?_, hR.2.l, hR.2.i⟩
        · rw [cc, hT.c, nI_1, nar_byte x (by omega)]
        · show (some (Value.int (I 39 9 + 1)), zSH im tl, va_up (va_up (va_up (va_up I 32 (upd (I 32) tn (nI x))) 31 (upd (I 31) 0 (nI (tn + 1)))) 44 (upd (I 44) (I 39 9).toNatClampNeg (nI x))) 39 (upd (I 39) 9 (I 39 9 + 1)), L) = _
          rw [cm, hT.m, nI_1]
        · refine ⟨tn + 1, RT.mk (by omega) rfl rfl (fun k hk => ?_)⟩
          show (∃ y, 1 ≤ y ∧ y ≤ 127 ∧ upd (I 32) tn (nI x) k = nI y) ∧ upd (I 44) tn (nI x) k = upd (I 32) tn (nI x) k
          by_cases e : k = tn
          · subst e
            rw [pk_us, pk_us]
            exact ⟨⟨x, x1, x2, rfl⟩, rfl⟩
          · rw [pk_un e, pk_un e]
            exact hT.b k (by omega)
        · exact ⟨pn, RP.mk hP.p125 hP.c hP.m hP.b⟩
    · exact op_roI hR _ (sg_X10_feed_0_3 _ h1 h2) (sg_X11_feed_0_0 _ (mo_in0 (Or.inr (Int32.not_le.mp h2))) (sg_X11_feed_7_0 _ _ rfl))
theorem op_clear (hR : rAll d im tl I L) : zOpI X im tl I L mt_X10_clear mt_X11_clear [.ref 0, .null] [.ref 39, .null] := by
  obtain ⟨tn, hT⟩ := hR.2.t
  obtain ⟨pn, hP⟩ := hR.2.p
  refine ⟨nI tn, va_up I 31 (upd (I 31) 0 0), L, va_up (va_up I 31 (upd (I 31) 0 0)) 39 (upd (I 39) 9 0), L, d, ev_r sg_X10_clear_0_0 (by rw [hT.c]), ev_r sg_X11_clear_0_0 ?_, hR.1, ⟨0, RT.mk (by omega) rfl rfl (fun k hk => by omega)⟩, ⟨pn, RP.mk hP.p125 hP.c hP.m hP.b⟩, hR.2.l, hR.2.i⟩
  show (some (Value.int (I 39 9)), zSH im tl, va_up (va_up I 31 (upd (I 31) 0 0)) 39 (upd (I 39) 9 0), L) = _
  rw [hT.m]
theorem op_paper (hR : rAll d im tl I L) (a : Int32) : zOpI X im tl I L mt_X10_paper mt_X11_paper [.ref 0, .int a] [.ref 39, .int a] := by
  obtain ⟨pn, hP⟩ := hR.2.p
  have h125 := hP.p125
  rcases k_ix a pn (by omega) with h | ⟨j, hj, rfl⟩
  · refine op_roI hR (-1) ?_ (sg_X11_paper_0_0 _ (m_inN_0 (n := pn) (by rw [hP.m]) (by omega) h) (sg_X11_paper_11_0 _ _ rfl))
    by_cases h0 : a < 0
    · exact sg_X10_paper_0_0 _ h0
    · exact sg_X10_paper_0_2 _ h0 (by rw [hP.c]; exact Int32.not_lt.mpr (h.resolve_left h0))
  · refine op_roI hR (I 34 j) (ev_r (sg_X10_paper_0_1 _ (nI_pos (by omega)) (k_lt rfl hP.c hj (by omega)) (k_in rfl (by omega) (by omega))) (by rw [kc (by omega)])) (sg_X11_paper_0_0 _ (m_inN_1 (n := pn) (by rw [hP.m, nI_sub1 (by omega)]) hj (by omega)) (ev_r (sg_X11_paper_11_1 _ _ (by decide) (k_in rfl (by omega) (by omega))) ?_))
    rw [kc (by omega), hP.b j hj]
/-! the lists -/
theorem c_isList1 {c : Nat} (h : c < 4) : zEv X mt_X10_isList 0 [.int (nI c)] [] (zSH im tl, J, K) (some (.int 1), (zSH im tl, J, K)) :=
  sg_X10_isList_0_2 _ (k_pos rfl (by omega)) (k_nle (a := 4) rfl rfl h (by omega))
theorem c_isList0 {c : Int32} (h : c < 0 ∨ nI 4 ≤ c) : zEv X mt_X10_isList 0 [.int c] [] (zSH im tl, J, K) (some (.int 0), (zSH im tl, J, K)) := by
  by_cases h1 : c < 0
  · exact sg_X10_isList_0_0 _ h1
  · exact sg_X10_isList_0_1 _ h1 (h.resolve_left h1)
theorem mo_isList1 {c : Nat} (h : c < 4) : zEv X mt_X11_isList 0 [.int (nI c)] [] (zSH im tl, J, K) (some (.int 1), (zSH im tl, J, K)) :=
  sg_X11_isList_0_0 _ (m_inN_1 (n := 4) rfl h (by omega)) (sg_X11_isList_6_0 _ _ (Or.inr rfl))
theorem mo_isList0 {c : Int32} (h : c < 0 ∨ nI 4 ≤ c) : zEv X mt_X11_isList 0 [.int c] [] (zSH im tl, J, K) (some (.int 0), (zSH im tl, J, K)) :=
  sg_X11_isList_0_0 _ (m_inN_0 (n := 4) (by decide +kernel) (by omega) h) (sg_X11_isList_6_0 _ _ (Or.inl rfl))
def fill (P : Nat → Int64) (b : Nat) (g : Nat → Int64) (m : Nat) : Nat → Int64 := fun x => if b ≤ x ∧ x < b + m then g (x - b) else P x
theorem fill_0 (P : Nat → Int64) (b : Nat) (g : Nat → Int64) : fill P b g 0 = P := by
  funext x; unfold fill; rw [if_neg (by omega)]
theorem fill_s (P : Nat → Int64) (b : Nat) (g : Nat → Int64) (m : Nat) : vp_updL (fill P b g m) (b + m) (g m) = fill P b g (m + 1) := by
  funext x
  show (if x = b + m then g m else if b ≤ x ∧ x < b + m then g (x - b) else P x) = if b ≤ x ∧ x < b + (m + 1) then g (x - b) else P x
  by_cases e : x = b + m
  · subst e
    rw [if_pos rfl, if_pos (by omega), Nat.add_sub_cancel_left]
  · rw [if_neg e]
    by_cases e2 : b ≤ x ∧ x < b + m
    · rw [if_pos e2, if_pos (by omega)]
    · rw [if_neg e2, if_neg (by omega)]
theorem va_upL (f : zL) (k : Nat) (v w : Nat → Int64) : va_up (va_up f k v) k w = va_up f k w := va_up2 f k v w
theorem va_upself (f : zL) (k : Nat) : va_up f k (f k) = f := by
  funext j
  unfold va_up
  by_cases h : j = k
  · rw [if_pos h, h]
  · rw [if_neg h]
theorem k40a {i x : Nat} : (40 : Int32) * nI i + nI x = nI (40 * i + x) := by rw [show (40 : Int32) = nI 40 from rfl, pk_mul, nI_add]
theorem k40b {i x : Nat} : nI i * (40 : Int32) + nI x = nI (40 * i + x) := by rw [show (40 : Int32) = nI 40 from rfl, pk_mul, nI_add, Nat.mul_comm]
theorem c_make {i n : Nat} (hi : i < 4) (hn : n ≤ 40) : zEv X mt_X6_make 0 [.ref 35, .int (nI i), .int (nI n), .null] [] (zSH im tl, I, L) (none, (zSH im tl, va_up I 36 (upd (I 36) i (nI n)), va_up L 37 (fill (L 37) (40 * i) (fun _ => 0) n))) := by
  have cc : (nI i).toNatClampNeg = i := kc (by omega)
  refine sg_X6_make_0_0 _ _ (k_in rfl hi (by omega)) ?_
  rw [cc]
  have loop : ∀ f k, k + f = n → zEv X mt_X6_make 9 [.ref 35, .int (nI i), .int (nI n), .int (nI k)] [] (zSH im tl, va_up I 36 (upd (I 36) i (nI n)), va_up L 37 (fill (L 37) (40 * i) (fun _ => 0) k)) (none, (zSH im tl, va_up I 36 (upd (I 36) i (nI n)), va_up L 37 (fill (L 37) (40 * i) (fun _ => 0) n))) := by
    intro f
    induction f with
    | zero =>
      intro k hk
      have : k = n := by omega
      subst this
      exact sg_X6_make_9_0 _ _ _ (Int32.le_refl _)
    | succ f ih =>
      intro k hk
      refine sg_X6_make_9_1 _ _ _ (k_nle rfl rfl (by omega) (by omega)) (by rw [k40b]; exact k_in rfl (by omega) (by omega)) ?_
      have h2 := ih (k + 1) (by omega)
      rw [← fill_s] at h2
      rw [k40b, kc (by omega), nI_1, va_upL]
      exact h2
  have h0 := loop n 0 (by omega)
  rw [fill_0, va_upself] at h0
  exact h0
theorem op_list (hR : rAll d im tl I L) (a b : Int32) : zOpI X im tl I L mt_X10_list mt_X11_list [.ref 0, .int a, .int b] [.ref 39, .int a, .int b, .null] := by
  have hL := hR.2.l
  rcases k_ix a 4 (by omega) with h | ⟨i, hi, rfl⟩
  · exact op_roI hR _ (sg_X10_list_0_0 _ _ (c_isList0 h) (sg_X10_list_4_0 _ _ _ rfl)) (sg_X11_list_0_0 _ _ (mo_isList0 h) (sg_X11_list_4_0 _ _ _ rfl))
  · by_cases h2 : b ≤ 40
    · by_cases h3 : (0 : Int32) ≤ b
      · obtain ⟨n, hn, rfl⟩ := nI_of2 (M := 40) (n := 40) (by decide +kernel) (Int32.not_lt.mpr h3) h2
        have cc : (nI i).toNatClampNeg = i := kc (by omega)
        have ci := k_in (x := nI i) (n := 4) rfl hi (by omega)
        refine ⟨1, va_up I 36 (upd (I 36) i (nI n)), va_up L 37 (fill (L 37) (40 * i) (fun _ => 0) n), va_up (va_up (va_up I 36 (upd (I 36) i (nI n))) 48 (upd (I 48) i 1)) 49 (upd (I 49) i (nI n)), va_up (va_up L 37 (fill (L 37) (40 * i) (fun _ => 0) n)) 50 (fill (L 50) (40 * i) (fun _ => 0) 40), d, sg_X10_list_0_0 _ _ (c_isList1 hi) (sg_X10_list_4_1 _ _ _ (by decide) h2 h3 (c_make hi hn) (sg_X10_list_34_0 _ _)), sg_X11_list_0_0 _ _ (mo_isList1 hi) (sg_X11_list_4_1 _ _ _ (by decide) h2 h3 ci ci ?_), hR.1, hR.2.t, hR.2.p, ?_, hR.2.i⟩
        · rw [cc, show vp_nar .boolean 1 = 1 by decide +kernel]
          have loop : ∀ f k, k + f = 40 → zEv X mt_X11_list 41 [.ref 39, .int (nI i), .int (nI n), .int (nI k)] [] (zSH im tl, va_up (va_up (va_up I 36 (upd (I 36) i (nI n))) 48 (upd (I 48) i 1)) 49 (upd (I 49) i (nI n)), va_up (va_up L 37 (fill (L 37) (40 * i) (fun _ => 0) n)) 50 (fill (L 50) (40 * i) (fun _ => 0) k)) (some (.int 1), (zSH im tl, va_up (va_up (va_up I 36 (upd (I 36) i (nI n))) 48 (upd (I 48) i 1)) 49 (upd (I 49) i (nI n)), va_up (va_up L 37 (fill (L 37) (40 * i) (fun _ => 0) n)) 50 (fill (L 50) (40 * i) (fun _ => 0) 40))) := by
            intro f
            induction f with
            | zero =>
              intro k hk
              have : k = 40 := by omega
              subst this
              exact sg_X11_list_41_0 _ _ _ (by decide)
            | succ f ih =>
              intro k hk
              refine sg_X11_list_41_1 _ _ _ (k_nle (a := 40) rfl rfl (by omega) (by omega)) (by rw [k40a]; exact k_in rfl (by omega) (by omega)) ?_
              have h2 := ih (k + 1) (by omega)
              rw [← fill_s] at h2
              rw [k40a, kc (by omega), nI_1, va_upL]
              exact h2
          have h0 := loop 40 0 (by omega)
          rw [fill_0] at h0
          have e : va_up (va_up L 37 (fill (L 37) (40 * i) (fun _ => 0) n)) 50 (L 50) = va_up L 37 (fill (L 37) (40 * i) (fun _ => 0) n) := va_upself (va_up L 37 (fill (L 37) (40 * i) (fun _ => 0) n)) 50
          rw [e] at h0
          exact h0
        · refine RL.mk (fun j hj => ?_)
          show (upd (I 36) i (nI n) j = -5 ∧ upd (I 48) i 1 j = 0) ∨ ∃ k, k ≤ 40 ∧ upd (I 36) i (nI n) j = nI k ∧ upd (I 48) i 1 j = 1 ∧ upd (I 49) i (nI n) j = nI k ∧ ∀ x, x < k → fill (L 50) (40 * i) (fun _ => 0) 40 (40 * j + x) = fill (L 37) (40 * i) (fun _ => 0) n (40 * j + x)
          by_cases e : j = i
          · subst e
            rw [pk_us, pk_us, pk_us]
            refine Or.inr ⟨n, hn, rfl, rfl, rfl, fun x hx => ?_⟩
            unfold fill
            rw [if_pos (by omega), if_pos (by omega)]
          · rw [pk_un e, pk_un e, pk_un e]
            rcases hL.s j hj with h | ⟨k, k40, e1, e2, e3, e4⟩
            · exact Or.inl h
            · refine Or.inr ⟨k, k40, e1, e2, e3, fun x hx => ?_⟩
              unfold fill
              rw [if_neg (by omega), if_neg (by omega)]
              exact e4 x hx
      · exact op_roI hR _ (sg_X10_list_0_0 _ _ (c_isList1 hi) (sg_X10_list_4_2 _ _ _ (by decide) h2 h3)) (sg_X11_list_0_0 _ _ (mo_isList1 hi) (sg_X11_list_4_2 _ _ _ (by decide) h2 h3))
    · exact op_roI hR _ (sg_X10_list_0_0 _ _ (c_isList1 hi) (sg_X10_list_4_3 _ _ _ (by decide) h2)) (sg_X11_list_0_0 _ _ (mo_isList1 hi) (sg_X11_list_4_3 _ _ _ (by decide) h2))
end O8
