section OG
variable {X : zSc} {im : Option Nat} {tl : List zS} {I J : zI} {L K : zL} {d : zD} {n : Nat → Int32}
theorem op_rate (hR : rAll d im tl I L) (c t a b : Int32) : zOpI X im tl I L mt_X10_rate mt_X11_rate [.ref 0, .int c, .int t, .int a, .int b] [.ref 39, .int c, .int t, .int a, .int b, .null, .null] := by
  have hD := hR.1.rd
  have hd1 := hD.d
  have hd2 := hD.c
  rcases k_ix c 4 (by omega) with h | ⟨c, hc, rfl⟩
  · refine op_roI hR _ (sg_X10_rate_0_0 _ _ _ _ (c_isCurrency0 h) (sg_X10_rate_4_0 _ _ _ _ _ rfl)) (sg_X11_rate_0_0 _ _ _ _ (mo_in0 ?_) (sg_X11_rate_6_0 _ _ _ _ _ rfl))
    rcases h with h | h
    · exact Or.inl (Int32.lt_trans h (by decide))
    · exact Or.inr (Int32.lt_of_lt_of_le (by decide : (3 : Int32) < nI 4) h)
  · by_cases hc0 : c = 0
    · subst hc0
      exact op_roI hR _ (sg_X10_rate_0_0 _ _ _ _ (c_isCurrency1 hc) (sg_X10_rate_4_1 _ _ _ _ _ (by decide) rfl)) (sg_X11_rate_0_0 _ _ _ _ (mo_in0 (Or.inl (by decide))) (sg_X11_rate_6_0 _ _ _ _ _ rfl))
    · have z1 : ¬ nI c = 0 := nI_ne0 (by omega) (by omega)
      have mc : ∀ (J : zI) (K : zL), zEv X mt_X11_in 0 [.int (nI c), .int 1, .int 3] [] (zSH im tl, J, K) (some (.int 1), (zSH im tl, J, K)) := fun J K => mo_in1 (k_nlt (b := 1) rfl rfl (by omega) (by omega)) (k_nlt (a := 3) rfl rfl (by omega) (by omega))
      rcases k_ix t 1000 (by omega) with h | ⟨t, ht, rfl⟩
      · exact op_roI hR _ (sg_X10_rate_0_0 _ _ _ _ (c_isCurrency1 hc) (sg_X10_rate_4_2 _ _ _ _ _ (by decide) z1 (c_isDay0 h) (sg_X10_rate_17_0 _ _ _ _ _ rfl))) (sg_X11_rate_0_0 _ _ _ _ (mc _ _) (sg_X11_rate_6_1 _ _ _ _ _ (by decide) (mo_isDay0 h) (sg_X11_rate_15_0 _ _ _ _ _ rfl)))
      · by_cases ha : a < 1 ∨ 999 < a
        · exact op_roI hR _ (sg_X10_rate_0_0 _ _ _ _ (c_isCurrency1 hc) (sg_X10_rate_4_2 _ _ _ _ _ (by decide) z1 (c_isDay1 ht) (sg_X10_rate_17_1 _ _ _ _ _ (by decide) (c_isRatePart0 ha) (sg_X10_rate_24_0 _ _ _ _ _ rfl)))) (sg_X11_rate_0_0 _ _ _ _ (mc _ _) (sg_X11_rate_6_1 _ _ _ _ _ (by decide) (mo_isDay1 ht) (sg_X11_rate_15_1 _ _ _ _ _ (by decide) (mo_in0 ha) (sg_X11_rate_26_0 _ _ _ _ _ rfl))))
        · have ha1 : ¬ a < 1 := fun q => ha (Or.inl q)
          have ha2 : ¬ 999 < a := fun q => ha (Or.inr q)
          by_cases hb : b < 1 ∨ 999 < b
          · exact op_roI hR _ (sg_X10_rate_0_0 _ _ _ _ (c_isCurrency1 hc) (sg_X10_rate_4_2 _ _ _ _ _ (by decide) z1 (c_isDay1 ht) (sg_X10_rate_17_1 _ _ _ _ _ (by decide) (sg_X10_isRatePart_0_2 _ ha1 ha2) (sg_X10_rate_24_1 _ _ _ _ _ (by decide) (c_isRatePart0 hb) (sg_X10_rate_32_0 _ _ _ _ _ rfl))))) (sg_X11_rate_0_0 _ _ _ _ (mc _ _) (sg_X11_rate_6_1 _ _ _ _ _ (by decide) (mo_isDay1 ht) (sg_X11_rate_15_1 _ _ _ _ _ (by decide) (mo_in1 ha1 ha2) (sg_X11_rate_26_1 _ _ _ _ _ (by decide) (mo_in0 hb) (sg_X11_rate_38_0 _ _ _ _ _ rfl)))))
          · have hb1 : ¬ b < 1 := fun q => hb (Or.inl q)
            have hb2 : ¬ 999 < b := fun q => hb (Or.inr q)
            have dd : nI t / 100 = nI (t / 100) := pk_div (a := t) (d := 100) (by omega) (by omega) (by omega)
            by_cases hcl : d.cl ≤ t / 100
            · obtain ⟨x, x1, x2, rfl⟩ := k_12 (n := 999) (M := 999) (by decide +kernel) ha1 (Int32.not_lt.mp ha2)
              obtain ⟨y, y1, y2, rfl⟩ := k_12 (n := 999) (M := 999) (by decide +kernel) hb1 (Int32.not_lt.mp hb2)
              obtain ⟨v, r17, r18, r19, r20, n', cnt', q1, q2, q3, q4⟩ := j_tell (X := X) (im := im) (tl := tl) (I := I) (L := L) (K := L) (d := d) hR.1.rr hc hc0 ht x1 x2 y1 y2
              refine ⟨v, va_up (va_up (va_up (va_up I 18 r18) 17 r17) 19 r19) 20 r20, L, va_up (va_up (va_up (va_up (va_up I 18 r18) 17 r17) 19 r19) 20 r20) 40 n', L, (d.nA, d.nJ, d.nP, d.day, d.cl, d.nC, d.p, d.sz, d.fs, d.dy, cnt', d.op), sg_X10_rate_0_0 _ _ _ _ (c_isCurrency1 hc) (sg_X10_rate_4_2 _ _ _ _ _ (by decide) z1 (c_isDay1 ht) (sg_X10_rate_17_1 _ _ _ _ _ (by decide) (sg_X10_isRatePart_0_2 _ ha1 ha2) (sg_X10_rate_24_1 _ _ _ _ _ (by decide) (sg_X10_isRatePart_0_2 _ hb1 hb2) (sg_X10_rate_32_1 _ _ _ _ _ (by decide) (sg_X0_isClosedOn_0_0 _ (by rw [hD.bc, dd]; exact nI_le hcl (by omega))) (sg_X10_rate_46_0 _ _ _ _ _ rfl q1 (sg_X10_rate_67_0 _ _ _ _ _)))))), sg_X11_rate_0_0 _ _ _ _ (mc _ _) (sg_X11_rate_6_1 _ _ _ _ _ (by decide) (mo_isDay1 ht) (sg_X11_rate_15_1 _ _ _ _ _ (by decide) (mo_in1 ha1 ha2) (sg_X11_rate_26_1 _ _ _ _ _ (by decide) (mo_in1 hb1 hb2) (sg_X11_rate_38_1 _ _ _ _ _ (by decide) (by show I 40 5 ≤ nI t / 100; rw [hD.mc, dd]; exact nI_le hcl (by omega)) (k_in (nI_add 1020 c) (by omega) (by omega)) ?_)))), RB.mk ?_ ?_ ?_ ?_ ?_ q3, hR.2⟩
              · have e : va_up (va_up (va_up (va_up I 18 r18) 17 r17) 19 r19) 20 r20 40 ((1020 : Int32) + nI c).toNatClampNeg = nI (d.cnt c) := by
                  rw [kx 1020 (a := 1020) rfl (by omega)]; exact hR.1.rr.m c hc
                rw [e]
                exact q2 _ rfl
              · exact RA.cg hR.1.ra (fun k hk => q4 k (by omega)) (fun _ _ => rfl)
              · have hP := rj_p hR.1.rj
                have h60 := hR.1.rj.j60
                exact RJ.cg (nP := d.nP) hR.1.rj (fun k hk => q4 k (by omega)) (fun _ _ => rfl)
              · have hP := rj_p hR.1.rj
                have h60 := hR.1.rj.j60
                exact RO.cg (nP := d.nP) hR.1.ro (fun k hk => q4 k (by omega)) (fun _ _ => rfl)
              · exact RD.cg hD (fun k hk => q4 k (by omega)) (fun _ _ => rfl)
              · exact RC.cg hR.1.rc (fun k hk => q4 k (by omega))
            · exact op_roI hR _ (sg_X10_rate_0_0 _ _ _ _ (c_isCurrency1 hc) (sg_X10_rate_4_2 _ _ _ _ _ (by decide) z1 (c_isDay1 ht) (sg_X10_rate_17_1 _ _ _ _ _ (by decide) (sg_X10_isRatePart_0_2 _ ha1 ha2) (sg_X10_rate_24_1 _ _ _ _ _ (by decide) (sg_X10_isRatePart_0_2 _ hb1 hb2) (sg_X10_rate_32_1 _ _ _ _ _ (by decide) (sg_X0_isClosedOn_0_1 _ (by rw [hD.bc, dd]; exact nI_ge (by omega) (by omega))) (sg_X10_rate_46_1 _ _ _ _ _ (by decide))))))) (sg_X11_rate_0_0 _ _ _ _ (mc _ _) (sg_X11_rate_6_1 _ _ _ _ _ (by decide) (mo_isDay1 ht) (sg_X11_rate_15_1 _ _ _ _ _ (by decide) (mo_in1 ha1 ha2) (sg_X11_rate_26_1 _ _ _ _ _ (by decide) (mo_in1 hb1 hb2) (sg_X11_rate_38_2 _ _ _ _ _ (by decide) (by rw [hD.mc, dd]; exact nI_ge (by omega) (by omega)))))))
end OG
