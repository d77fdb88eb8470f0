section OC
variable {X : zSc} {im : Option Nat} {tl : List zS} {I J : zI} {L K : zL} {d : zD} {n : Nat → Int32}
/-- a journal that may be reversed, on both sides -/
theorem j_may (hJ : rJ d I J K) {r : Nat} (hr : r < d.nJ) : ∃ b : Bool, (∀ (I' : zI) (L' : zL), I' 9 = I 9 → I' 12 = I 12 → I' 13 = I 13 → zEv X mt_X4_isReversible 0 [.ref 9, .int (nI r)] [] (zSH im tl, I', L') (some (.int (zbi1 b)), (zSH im tl, I', L'))) ∧ (∀ (J' : zI) (K' : zL), J' 40 = J 40 → zEv X mt_X11_mayBeReversed 0 [.ref 39, .int (nI r)] [] (zSH im tl, J', K') (some (.int (zbi1 b)), (zSH im tl, J', K'))) := by
  have h60 := hJ.j60
  have cr : (nI r).toNatClampNeg = r := kc (by omega)
  have ci := k_in (x := nI r) (n := 60) rfl (by omega) (by omega)
  have i2 := k_in (x := 280 + nI r) (n := 1280) (nI_add 280 r) (by omega) (by omega)
  have i3 := k_in (x := 340 + nI r) (n := 1280) (nI_add 340 r) (by omega) (by omega)
  have c2 : ((280 : Int32) + nI r).toNatClampNeg = 280 + r := kx 280 (a := 280) rfl (by omega)
  have c3 : ((340 : Int32) + nI r).toNatClampNeg = 340 + r := kx 340 (a := 340) rfl (by omega)
  rcases hJ.v r hr with ⟨v1, v2⟩ | ⟨x, x1, v1, v2⟩
  · rcases hJ.w r hr with ⟨w1, w2⟩ | ⟨y, y1, w1, w2⟩
    · refine ⟨true, fun I' L' h9 h12 h13 => sg_X4_isReversible_0_0 _ (cj_has1 (nJ := d.nJ) (by rw [h9]; exact hJ.c) hr h60) (sg_X4_isReversible_5_1 _ _ (by decide) ci (by rw [cr, h12]; exact v1) ci (by rw [cr, h13]; exact w1)), fun J' K' h40 => sg_X11_mayBeReversed_0_2 _ i2 (by rw [c2, h40, v2]; decide) i3 (by rw [c3, h40, w2]; decide)⟩
    · refine ⟨false, fun I' L' h9 h12 h13 => sg_X4_isReversible_0_0 _ (cj_has1 (nJ := d.nJ) (by rw [h9]; exact hJ.c) hr h60) (sg_X4_isReversible_5_2 _ _ (by decide) ci (by rw [cr, h12]; exact v1) ci (by rw [cr, h13, w1]; exact n5 (by omega))), fun J' K' h40 => sg_X11_mayBeReversed_0_1 _ i2 (by rw [c2, h40, v2]; decide) i3 (by rw [c3, h40, w2]; exact nI_pos' (by omega))⟩
  · refine ⟨false, fun I' L' h9 h12 h13 => sg_X4_isReversible_0_0 _ (cj_has1 (nJ := d.nJ) (by rw [h9]; exact hJ.c) hr h60) (sg_X4_isReversible_5_3 _ _ (by decide) ci (by rw [cr, h12, v1]; exact n5 (by omega))), fun J' K' h40 => sg_X11_mayBeReversed_0_0 _ i2 (by rw [c2, h40, v2]; exact nI_pos' (by omega))⟩
theorem op_reverse (hR : rAll d im tl I L) (a : Int32) : zOpI X im tl I L mt_X10_reverse mt_X11_reverse [.ref 0, .int a, .null] [.ref 39, .int a] := by
  have hA := hR.1.ra
  have hJ := hR.1.rj
  have hO := hR.1.ro
  have h60 := hJ.j60
  rcases k_ix a d.nJ (by omega) with h | ⟨r, hr, rfl⟩
  · exact op_roI hR _ (sg_X10_reverse_0_0 _ (cj_has0 hJ.c h) (sg_X10_reverse_13_0 _ _ rfl)) (sg_X11_reverse_0_0 _ (mo_isJournal0 hJ.m h60 h) (sg_X11_reverse_5_0 _ _ rfl))
  · have c1 := cj_has1 (X := X) (im := im) (tl := tl) (L := L) hJ.c hr h60
    cases hop : d.op with
    | some k =>
      obtain ⟨k10, _, e1, e2, e3⟩ := hO.yes k hop
      exact op_roI hR _ (sg_X10_reverse_0_0 _ c1 (sg_X10_reverse_13_2 _ _ (by decide) (by rw [e1]; decide))) (sg_X11_reverse_0_0 _ (mo_isJournal1 hJ.m hr h60) (sg_X11_reverse_5_1 _ _ (by decide) (by rw [e3]; exact nI_pos' (by omega))))
    | none =>
      obtain ⟨e1, e2⟩ := hO.no hop
      have n3 : ¬ (0 : Int32) ≤ I 40 3 := by rw [e2]; decide
      obtain ⟨b, b1, b2⟩ := j_may (X := X) (im := im) (tl := tl) hJ hr
      cases b with
      | false => exact op_roI hR _ (sg_X10_reverse_0_0 _ c1 (sg_X10_reverse_13_1 _ _ (by decide) e1 (b1 I L rfl rfl rfl) (sg_X10_reverse_33_0 _ _ rfl))) (sg_X11_reverse_0_0 _ (mo_isJournal1 hJ.m hr h60) (sg_X11_reverse_5_2 _ _ (by decide) n3 (b2 I L rfl) (sg_X11_reverse_24_0 _ _ rfl)))
      | true =>
        by_cases hf : d.nJ = 60
        · exact op_roI hR _ (sg_X10_reverse_0_0 _ c1 (sg_X10_reverse_13_1 _ _ (by decide) e1 (b1 I L rfl rfl rfl) (sg_X10_reverse_33_1 _ _ (by decide) (cj_isFull hJ.c h60) (sg_X10_reverse_43_1 _ _ (by rw [decide_eq_true hf]; decide))))) (sg_X11_reverse_0_0 _ (mo_isJournal1 hJ.m hr h60) (sg_X11_reverse_5_2 _ _ (by decide) n3 (b2 I L rfl) (sg_X11_reverse_24_1 _ _ (by decide) (by rw [hJ.m, hf]; rfl))))
        · obtain ⟨O, S, T, w1, w2, w3⟩ := c_writeReversal (X := X) (im := im) (tl := tl) (L := L) hJ hr
          obtain ⟨v, r9, r10, r11, r12, r13, r14, r15, A, B, C, n', l', d', q1, q2, q3⟩ := j_reversed (X := X) (im := im) (tl := tl) (I := dz I O S T) (L := L) (K := L) (d := d) (r := r) (by exact hA) (by exact hJ) (by exact hR.1.rd) (by exact hR.1.rr) e1 (by omega) hr w1 (fun i hi => w2 i hi)
          exact ⟨v, jz (dz I O S T) r9 r10 r11 r12 r13 r14 r15 A B C, L, va_up (jz (dz I O S T) r9 r10 r11 r12 r13 r14 r15 A B C) 40 n', va_up L 41 l', d', sg_X10_reverse_0_0 _ c1 (sg_X10_reverse_13_1 _ _ (by decide) e1 (b1 I L rfl rfl rfl) (sg_X10_reverse_33_1 _ _ (by decide) (cj_isFull hJ.c h60) (sg_X10_reverse_43_0 _ _ (by rw [decide_eq_false hf]; rfl) w3 (sg_X10_reverse_58_0 _ q1 (sg_X10_reverse_70_0 _ _))))), sg_X11_reverse_0_0 _ (mo_isJournal1 (nJ := d.nJ) hJ.m hr h60) (sg_X11_reverse_5_2 _ _ (by decide) n3 (b2 _ _ rfl) (sg_X11_reverse_24_2 _ _ (by decide) (k_ne (a := d.nJ) (b := 60) hJ.m rfl hf (by omega) (by omega)) (q2 _ rfl) (sg_X11_reverse_51_0 _ _))), q3, hR.2⟩
end OC
