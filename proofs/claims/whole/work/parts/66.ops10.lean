section OA
variable {X : zSc} {im : Option Nat} {tl : List zS} {I J : zI} {L K : zL} {d : zD} {n : Nat → Int32}
theorem m_lay {nP k : Nat} (h2 : n 2 = nI nP) (h3 : n 3 = nI k) (hP : nP + k < 620) {l : Nat → Int64} (a : Int32) (v : Int64) : zEv X mt_X11_layPosting 0 [.ref 39, .int a, .long v, .null] [] (zSH im tl, va_up J 40 n, va_up K 41 l) (none, (zSH im tl, va_up J 40 (upd (upd n (400 + (nP + k)) a) 3 (nI (k + 1))), va_up K 41 (vp_updL l (60 + (nP + k)) v))) := by
  have e2 : va_up J 40 n 40 2 = nI nP := h2
  have e3 : va_up J 40 n 40 3 = nI k := h3
  have c4 : (400 : Int32) + nI nP + va_up J 40 n 40 3 = nI (400 + (nP + k)) := by rw [e3, show (400 : Int32) = nI 400 from rfl, nI_add, nI_add, Nat.add_assoc]
  have c6 : (60 : Int32) + nI nP + nI k = nI (60 + (nP + k)) := by rw [show (60 : Int32) = nI 60 from rfl, nI_add, nI_add, Nat.add_assoc]
  refine sg_X11_layPosting_0_0 _ _ (ev_r sg_X11_postings_0_0 (by rw [e2])) (sg_X11_layPosting_11_0 (y := nI nP) (S1 := zSH im tl) (I1 := va_up J 40 (upd n (400 + (nP + k)) a)) (L1 := va_up K 41 l) _ _ _ _ (by rw [c4]; exact k_in rfl (by omega) (by omega)) ?_ ?_)
  · rw [c4, kc (by omega), va_up_self, va_up2]
    refine ev_r sg_X11_postings_0_0 ?_
    rw [va_up_self, pk_un (by omega), h2]
  · have e3' : va_up J 40 (upd n (400 + (nP + k)) a) 40 3 = nI k := by rw [va_up_self, pk_un (by omega), h3]
    refine ev_r (sg_X11_layPosting_31_0 _ _ _ _ (by rw [e3', c6]; exact k_in rfl (by omega) (by omega))) ?_
    rw [e3', c6, kc (by omega), nI_1, va_up_self, va_up_self, va_up2, va_up2]
theorem va_upid {α : Type} (f : Nat → α) (k : Nat) : va_up f k (f k) = f := by
  funext j
  unfold va_up
  by_cases h : j = k
  · rw [if_pos h, h]
  · rw [if_neg h]
theorem l_nar {v : Int64} (h1 : -1000000 ≤ v.toInt) (h2 : v.toInt ≤ 1000000) : (-1000000 ≤ v.toInt32.toInt ∧ v.toInt32.toInt ≤ 1000000) ∧ v = v.toInt32.toInt64 := by
  have e : v.toInt32.toInt = v.toInt := by
    rw [Int64.toInt_toInt32]
    exact Int.bmod_eq_of_le (by omega) (by omega)
  refine ⟨by omega, ?_⟩
  apply Int64.toInt_inj.mp
  rw [Int32.toInt_toInt64, e]
theorem op_posting (hR : rAll d im tl I L) (a : Int32) (v : Int64) : zOpI X im tl I L mt_X10_posting mt_X11_posting [.ref 0, .int a, .long v, .null] [.ref 39, .int a, .long v, .null] := by
  have hA := hR.1.ra
  have hO := hR.1.ro
  have hJ := hR.1.rj
  have h30 := hA.n30
  have hP := rj_p hJ
  have hfE := hJ.mp
  rcases k_ix a d.nA (by omega) with h | ⟨j, hj, rfl⟩
  · exact op_roI hR _ (sg_X10_posting_0_0 _ _ (cv_has0 hA.c h) (sg_X10_posting_11_0 _ _ _ rfl)) (sg_X11_posting_0_0 _ _ (mo_isAccount0 hA.m hA.n1 h30 h) (sg_X11_posting_5_0 _ _ _ rfl))
  · have c1 := cv_has1 (X := X) (im := im) (tl := tl) (L := L) hA.c hj h30
    have m1 := mo_isAccount1 (X := X) (im := im) (tl := tl) (K := L) hA.m hj h30
    by_cases z0 : lg_cmp v 0 = 0
    · exact op_roI hR _ (sg_X10_posting_0_0 _ _ c1 (sg_X10_posting_11_1 _ _ _ (by decide) z0)) (sg_X11_posting_0_0 _ _ m1 (sg_X11_posting_5_1 _ _ _ (by decide) z0))
    · by_cases z1 : lg_cmp v (-1000000) < 0
      · exact op_roI hR _ (sg_X10_posting_0_0 _ _ c1 (sg_X10_posting_11_2 _ _ _ (by decide) z0 z1)) (sg_X11_posting_0_0 _ _ m1 (sg_X11_posting_5_2 _ _ _ (by decide) z0 z1))
      · by_cases z2 : lg_cmp v 1000000 ≤ 0
        · have b1 : -1000000 ≤ v.toInt := by
            have := Int64.not_lt.mp (fun q => z1 ((lg_cmp_lt _ _).mpr q))
            rw [Int64.le_iff_toInt_le] at this
            have e : (-1000000 : Int64).toInt = -1000000 := by decide +kernel
            omega
          have b2 : v.toInt ≤ 1000000 := by
            have := (lg_cmp_le _ _).mp z2
            rw [Int64.le_iff_toInt_le] at this
            have e : (1000000 : Int64).toInt = 1000000 := by decide +kernel
            omega
          obtain ⟨nb, nv⟩ := l_nar b1 b2
          cases hop : d.op with
          | none =>
            obtain ⟨e1, e2⟩ := hO.no hop
            exact op_roI hR _ (sg_X10_posting_0_0 _ _ c1 (sg_X10_posting_11_3 _ _ _ (by decide) z0 z1 z2 e1)) (sg_X11_posting_0_0 _ _ m1 (sg_X11_posting_5_5 _ _ _ (by decide) z0 z1 z2 (by rw [e2]; decide)))
          | some k =>
            obtain ⟨k10, j60, e1, e2, e3⟩ := hO.yes k hop
            have o1 : ¬ I 1 5 = 0 := by rw [e1]; decide
            have o2 : (0 : Int32) ≤ I 40 3 := by rw [e3]; exact nI_pos' (by omega)
            by_cases hf : k = 10
            · exact op_roI hR _ (sg_X10_posting_0_0 _ _ c1 (sg_X10_posting_11_5 _ _ _ (by decide) z0 z1 z2 o1 (k_nlt (b := 10) e2 rfl (by omega) (by omega)))) (sg_X11_posting_0_0 _ _ m1 (sg_X11_posting_5_3 _ _ _ (by decide) z0 z1 z2 o2 (by rw [e3, hf]; rfl)))
            · have ci : ¬ (I 24 0 < 0 ∨ 10 ≤ (I 24 0).toNatClampNeg) := k_in e2 (by omega) (by omega)
              have cc : (I 24 0).toNatClampNeg = k := by rw [e2, kc (by omega)]
              have ca : zEv X mt_X8_add 0 [.ref 24, .int (nI j), .int v.toInt32] [] (zSH im tl, I, L) (none, (zSH im tl, va_up (va_up (va_up I 25 (upd (I 25) k (nI j))) 26 (upd (I 26) k v.toInt32)) 24 (upd (I 24) 0 (nI (k + 1))), L)) :=
                ev_r (sg_X8_addo_0_1 _ _ (k_nle (a := 10) rfl e2 (by omega) (by omega)) ci ci) (by rw [cc, e2, nI_1])
              have hm := m_lay (X := X) (im := im) (tl := tl) (J := va_up (va_up (va_up I 25 (upd (I 25) k (nI j))) 26 (upd (I 26) k v.toInt32)) 24 (upd (I 24) 0 (nI (k + 1)))) (K := L) (n := I 40) (l := L 41) hJ.mp e3 (by omega) (nI j) v
              have x1 : va_up (va_up (va_up (va_up I 25 (upd (I 25) k (nI j))) 26 (upd (I 26) k v.toInt32)) 24 (upd (I 24) 0 (nI (k + 1)))) 40 (I 40) = va_up (va_up (va_up I 25 (upd (I 25) k (nI j))) 26 (upd (I 26) k v.toInt32)) 24 (upd (I 24) 0 (nI (k + 1))) := va_upid (va_up (va_up (va_up I 25 (upd (I 25) k (nI j))) 26 (upd (I 26) k v.toInt32)) 24 (upd (I 24) 0 (nI (k + 1)))) 40
              rw [x1, va_upid] at hm
              refine ⟨nI (k + 1), va_up (va_up (va_up I 25 (upd (I 25) k (nI j))) 26 (upd (I 26) k v.toInt32)) 24 (upd (I 24) 0 (nI (k + 1))), L, va_up (va_up (va_up (va_up I 25 (upd (I 25) k (nI j))) 26 (upd (I 26) k v.toInt32)) 24 (upd (I 24) 0 (nI (k + 1)))) 40 (upd (upd (I 40) (400 + (d.nP + k)) (nI j)) 3 (nI (k + 1))), va_up L 41 (vp_updL (L 41) (60 + (d.nP + k)) v), (d.nA, d.nJ, d.nP, d.day, d.cl, d.nC, d.p, d.sz, d.fs, d.dy, d.cnt, some (k + 1)), sg_X10_posting_0_0 _ _ c1 (sg_X10_posting_11_4 _ _ _ (by decide) z0 z1 z2 o1 (k_lt (b := 10) e2 rfl (by omega) (by omega)) ca (sg_X10_posting_85_0 (I := va_up (va_up (va_up I 25 (upd (I 25) k (nI j))) 26 (upd (I 26) k v.toInt32)) 24 (upd (I 24) 0 (nI (k + 1)))) _ _)), sg_X11_posting_0_0 _ _ (mo_isAccount1 (nA := d.nA) hA.m hj h30) (sg_X11_posting_5_4 _ _ _ (by decide) z0 z1 z2 o2 (k_ne (a := k) (b := 10) e3 rfl hf (by omega) (by omega)) hm (ev_r (sg_X11_posting_67_0 _ _) ?_)), RB.mk ?_ ?_ ?_ ?_ ?_ ?_, hR.2⟩
              · rfl
              · exact RA.cg hA (fun x hx => (pk_un (by omega)).trans (pk_un (by omega))) (fun x hx => pk_uLn (by omega))
              · exact RJ.cg (nP := d.nP) hJ (fun x hx => (pk_un (by omega)).trans (pk_un (by omega))) (fun x hx => pk_uLn (by omega))
              · refine RO.mk (fun e => ?_) (fun q e => ?_) (fun q e i hi => ?_) (fun q e i hi => ?_)
                · exact absurd (show (some (k + 1) : Option Nat) = none from e) (by simp)
                · have e' : (some (k + 1) : Option Nat) = some q := e
                  obtain rfl : k + 1 = q := by injection e'
                  exact ⟨by omega, j60, e1, rfl, rfl⟩
                · have e' : (some (k + 1) : Option Nat) = some q := e
                  obtain rfl : k + 1 = q := by injection e'
                  show (∃ a, a < d.nA ∧ upd (I 25) k (nI j) i = nI a) ∧ upd (upd (I 40) (400 + (d.nP + k)) (nI j)) 3 (nI (k + 1)) (400 + (d.nP + i)) = upd (I 25) k (nI j) i
                  rw [pk_un (j := 400 + (d.nP + i)) (k := 3) (by omega)]
                  by_cases ei : i = k
                  · subst ei; rw [pk_us, pk_us]; exact ⟨⟨j, hj, rfl⟩, rfl⟩
                  · rw [pk_un ei, pk_un (by omega)]; exact hO.a k hop i (by omega)
                · have e' : (some (k + 1) : Option Nat) = some q := e
                  obtain rfl : k + 1 = q := by injection e'
                  show (-1000000 ≤ (upd (I 26) k v.toInt32 i).toInt ∧ (upd (I 26) k v.toInt32 i).toInt ≤ 1000000) ∧ vp_updL (L 41) (60 + (d.nP + k)) v (60 + (d.nP + i)) = (upd (I 26) k v.toInt32 i).toInt64
                  by_cases ei : i = k
                  · subst ei; rw [pk_us, pk_uLs]; exact ⟨nb, nv⟩
                  · rw [pk_un ei, pk_uLn (by omega)]; exact hO.x k hop i (by omega)
              · exact RD.cg hR.1.rd (fun x hx => (pk_un (by omega)).trans (pk_un (by omega))) (fun x hx => pk_uLn (by omega))
              · exact RC.cg hR.1.rc (fun x hx => (pk_un (by omega)).trans (pk_un (by omega)))
              · exact RR.cg hR.1.rr (fun x hx => (pk_un (by omega)).trans (pk_un (by omega)))
        · exact op_roI hR _ (sg_X10_posting_0_0 _ _ c1 (sg_X10_posting_11_6 _ _ _ (by decide) z0 z1 z2)) (sg_X11_posting_0_0 _ _ m1 (sg_X11_posting_5_6 _ _ _ (by decide) z0 z1 z2))
end OA
