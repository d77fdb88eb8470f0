/-! copying a Book, both ways; the first image -/
def qX2a (I : zI) : zI := va_up (va_up (va_up (va_up I 52 (upd (I 52) 0 (I 2 0))) 53 (va_cpy (I 3) (I 53) 0 0 30)) 54 (va_cpy (I 4) (I 54) 0 0 30)) 55 (va_cpy (I 5) (I 55) 0 0 30)
def qX2aL (L : zL) : zL := va_up (va_up (va_up L 56 (va_cpy (L 6) (L 56) 0 0 30)) 57 (va_cpy (L 7) (L 57) 0 0 30)) 58 (va_cpy (L 8) (L 58) 0 0 300)
def qX4a (I : zI) : zI := va_up (va_up (va_up (va_up (va_up (va_up (va_up I 59 (upd (I 59) 0 (I 9 0))) 60 (va_cpy (I 10) (I 60) 0 0 60)) 61 (va_cpy (I 11) (I 61) 0 0 60)) 62 (va_cpy (I 12) (I 62) 0 0 60)) 63 (va_cpy (I 13) (I 63) 0 0 60)) 64 (va_cpy (I 14) (I 64) 0 0 600)) 65 (va_cpy (I 15) (I 65) 0 0 600)
def qX4aL (L : zL) : zL := L
def qX5a (I : zI) : zI := va_up (va_up (va_up (va_up I 67 (va_cpy (I 17) (I 67) 0 0 4)) 68 (va_cpy (I 18) (I 68) 0 0 80)) 69 (va_cpy (I 19) (I 69) 0 0 80)) 70 (va_cpy (I 20) (I 70) 0 0 80)
def qX5aL (L : zL) : zL := L
def qX1a (I : zI) : zI := va_up (va_up (va_up I 71 (upd (I 71) 0 (I 21 0))) 72 (va_cpy (I 22) (I 72) 0 0 3)) 73 (va_cpy (I 23) (I 73) 0 0 3)
def qX1aL (L : zL) : zL := L
def qX8a (I : zI) : zI := va_up (va_up (va_up I 74 (upd (I 74) 0 (I 24 0))) 75 (va_cpy (I 25) (I 75) 0 0 10)) 76 (va_cpy (I 26) (I 76) 0 0 10)
def qX8aL (L : zL) : zL := L
def qX0a (I : zI) : zI := va_up (va_up (va_up I 51 (upd (I 51) 5 (I 1 5))) 51 (upd (upd (I 51) 5 (I 1 5)) 6 (I 1 6))) 51 (upd (upd (upd (I 51) 5 (I 1 5)) 6 (I 1 6)) 7 (I 1 7))
def qX0aL (L : zL) : zL := va_up L 77 (va_cpy (L 27) (L 77) 0 0 10)
def qBa (I : zI) : zI := qX0a (qX8a (qX1a (qX5a (qX4a (qX2a I)))))
def qBaL (L : zL) : zL := qX0aL (qX2aL L)
theorem q_copya {X : zSc} {im : Option Nat} {I : zI} {L : zL} (h : I 1 5 = 0 ∨ I 1 5 = 1) : zEv X mt_X0_copyFrom 0 [.ref 51, .ref 1] [] (zSH im zTL, I, L) (none, (zSH im zTL, qBa I, qBaL L)) :=
  sg_X0_copyFroma_0_0 (sg_X2_copyFroma_0_0 (I := I) (L := L)) (sg_X0_copyFroma_11_0 (sg_X4_copyFroma_0_0 (I := qX2a I) (L := qX2aL L)) (sg_X0_copyFroma_22_0 (sg_X5_copyFroma_0_0 (I := qX4a (qX2a I)) (L := qX2aL L)) (sg_X0_copyFroma_33_0 (sg_X1_copyFroma_0_0 (I := qX5a (qX4a (qX2a I))) (L := qX2aL L)) (sg_X0_copyFroma_44_0 (sg_X8_copyFroma_0_0 (I := qX1a (qX5a (qX4a (qX2a I)))) (L := qX2aL L)) (sg_X0_copyFroma_55_0 (I := qX8a (qX1a (qX5a (qX4a (qX2a I))))) (L := qX2aL L) h)))))
def qX2b (I : zI) : zI := va_up (va_up (va_up (va_up I 2 (upd (I 2) 0 (I 52 0))) 3 (va_cpy (I 53) (I 3) 0 0 30)) 4 (va_cpy (I 54) (I 4) 0 0 30)) 5 (va_cpy (I 55) (I 5) 0 0 30)
def qX2bL (L : zL) : zL := va_up (va_up (va_up L 6 (va_cpy (L 56) (L 6) 0 0 30)) 7 (va_cpy (L 57) (L 7) 0 0 30)) 8 (va_cpy (L 58) (L 8) 0 0 300)
def qX4b (I : zI) : zI := va_up (va_up (va_up (va_up (va_up (va_up (va_up I 9 (upd (I 9) 0 (I 59 0))) 10 (va_cpy (I 60) (I 10) 0 0 60)) 11 (va_cpy (I 61) (I 11) 0 0 60)) 12 (va_cpy (I 62) (I 12) 0 0 60)) 13 (va_cpy (I 63) (I 13) 0 0 60)) 14 (va_cpy (I 64) (I 14) 0 0 600)) 15 (va_cpy (I 65) (I 15) 0 0 600)
def qX4bL (L : zL) : zL := L
def qX5b (I : zI) : zI := va_up (va_up (va_up (va_up I 17 (va_cpy (I 67) (I 17) 0 0 4)) 18 (va_cpy (I 68) (I 18) 0 0 80)) 19 (va_cpy (I 69) (I 19) 0 0 80)) 20 (va_cpy (I 70) (I 20) 0 0 80)
def qX5bL (L : zL) : zL := L
def qX1b (I : zI) : zI := va_up (va_up (va_up I 21 (upd (I 21) 0 (I 71 0))) 22 (va_cpy (I 72) (I 22) 0 0 3)) 23 (va_cpy (I 73) (I 23) 0 0 3)
def qX1bL (L : zL) : zL := L
def qX8b (I : zI) : zI := va_up (va_up (va_up I 24 (upd (I 24) 0 (I 74 0))) 25 (va_cpy (I 75) (I 25) 0 0 10)) 26 (va_cpy (I 76) (I 26) 0 0 10)
def qX8bL (L : zL) : zL := L
def qX0b (I : zI) : zI := va_up (va_up (va_up I 1 (upd (I 1) 5 (I 51 5))) 1 (upd (upd (I 1) 5 (I 51 5)) 6 (I 51 6))) 1 (upd (upd (upd (I 1) 5 (I 51 5)) 6 (I 51 6)) 7 (I 51 7))
def qX0bL (L : zL) : zL := va_up L 27 (va_cpy (L 77) (L 27) 0 0 10)
def qBb (I : zI) : zI := qX0b (qX8b (qX1b (qX5b (qX4b (qX2b I)))))
def qBbL (L : zL) : zL := qX0bL (qX2bL L)
theorem q_copyb {X : zSc} {im : Option Nat} {I : zI} {L : zL} (h : I 51 5 = 0 ∨ I 51 5 = 1) : zEv X mt_X0_copyFrom 0 [.ref 1, .ref 51] [] (zSH im zTL, I, L) (none, (zSH im zTL, qBb I, qBbL L)) :=
  sg_X0_copyFromb_0_0 (sg_X2_copyFromb_0_0 (I := I) (L := L)) (sg_X0_copyFromb_11_0 (sg_X4_copyFromb_0_0 (I := qX2b I) (L := qX2bL L)) (sg_X0_copyFromb_22_0 (sg_X5_copyFromb_0_0 (I := qX4b (qX2b I)) (L := qX2bL L)) (sg_X0_copyFromb_33_0 (sg_X1_copyFromb_0_0 (I := qX5b (qX4b (qX2b I))) (L := qX2bL L)) (sg_X0_copyFromb_44_0 (sg_X8_copyFromb_0_0 (I := qX1b (qX5b (qX4b (qX2b I)))) (L := qX2bL L)) (sg_X0_copyFromb_55_0 (I := qX8b (qX1b (qX5b (qX4b (qX2b I))))) (L := qX2bL L) h)))))
def icI (I : zI) : zI := va_up (va_up (va_up (va_up (va_up (va_up (va_up (va_up (va_up (va_up (va_up (va_up (va_up (va_up (va_up (va_up (va_up (va_up (va_up (va_up (va_up (va_up (va_up (va_up (va_up (va_up (va_up (va_up (va_up (va_up (va_up (va_up (va_up (va_up (va_up I 52 (fun _ => 0)) 52 (upd (fun _ => 0) 0 1)) 53 (fun _ => 0)) 54 (fun _ => 0)) 55 (fun _ => 0)) 56 (fun _ => 0)) 57 (fun _ => 0)) 58 (fun _ => 0)) 53 (upd (fun _ => 0) 0 (-5))) 55 (upd (fun _ => 0) 0 (-5))) 59 (fun _ => 0)) 59 (upd (fun _ => 0) 0 0)) 60 (fun _ => 0)) 61 (fun _ => 0)) 62 (fun _ => 0)) 63 (fun _ => 0)) 64 (fun _ => 0)) 65 (fun _ => 0)) 66 (fun _ => 0)) 67 (fun _ => 0)) 68 (fun _ => 0)) 69 (fun _ => 0)) 70 (fun _ => 0)) 71 (fun _ => 0)) 71 (upd (fun _ => 0) 0 0)) 72 (fun _ => 0)) 73 (fun _ => 0)) 74 (fun _ => 0)) 74 (upd (fun _ => 0) 0 0)) 75 (fun _ => 0)) 76 (fun _ => 0)) 51 (upd (I 51) 5 0)) 51 (upd (upd (I 51) 5 0) 6 0)) 51 (upd (upd (upd (I 51) 5 0) 6 0) 7 0)) 77 (fun _ => 0)
def icL (L : zL) : zL := va_up (va_up (va_up (va_up (va_up (va_up (va_up (va_up (va_up (va_up (va_up (va_up (va_up (va_up (va_up (va_up (va_up (va_up (va_up (va_up (va_up (va_up (va_up (va_up (va_up (va_up (va_up (va_up L 52 (fun _ => 0)) 53 (fun _ => 0)) 54 (fun _ => 0)) 55 (fun _ => 0)) 56 (fun _ => 0)) 57 (fun _ => 0)) 58 (fun _ => 0)) 56 (fl (-9223372036854775808) 30 0 (fun _ => 0))) 57 (fl 9223372036854775807 30 0 (fun _ => 0))) 59 (fun _ => 0)) 60 (fun _ => 0)) 61 (fun _ => 0)) 62 (fun _ => 0)) 63 (fun _ => 0)) 64 (fun _ => 0)) 65 (fun _ => 0)) 66 (fun _ => 0)) 67 (fun _ => 0)) 68 (fun _ => 0)) 69 (fun _ => 0)) 70 (fun _ => 0)) 71 (fun _ => 0)) 72 (fun _ => 0)) 73 (fun _ => 0)) 74 (fun _ => 0)) 75 (fun _ => 0)) 76 (fun _ => 0)) 77 (fun _ => 0)
theorem q_new {X : zSc} {I : zI} {L : zL} {r : Option Value × zM} (K : zEv X mt_X10_image 18 [.ref 0] [] (zSH (some 51) zTL, icI (va_up I 51 (fun _ => 0)), icL (va_up L 51 (fun _ => 0))) r) : zEv X mt_X10_image 0 [.ref 0] [] (zSH none [], I, L) r :=
  ev_go 6 12 [.ref 0] [.ref 51, .ref 51, .ref 0] (zs_65, va_up I 51 (fun _ => 0), va_up L 51 (fun _ => 0)) rfl (ev_call mt_X0_init [.ref 51] 15 [.ref 51, .ref 0] [.ref 51, .ref 0] rfl rfl ct_X0_init_51 (ev_go 1 18 [.ref 0] [] (zSH (some 51) zTL, icI (va_up I 51 (fun _ => 0)), icL (va_up L 51 (fun _ => 0))) rfl K))
theorem q_img {X : zSc} {I : zI} {L : zL} {r : Option Value × zM} (K : zEv X mt_X10_image 18 [.ref 0] [] (zSH (some 51) zTL, I, L) r) : zEv X mt_X10_image 0 [.ref 0] [] (zSH (some 51) zTL, I, L) r :=
  ev_go 3 18 [.ref 0] [] (zSH (some 51) zTL, I, L) rfl K
theorem q_img2 {X : zSc} {I : zI} {L : zL} (h : I 1 5 = 0 ∨ I 1 5 = 1) : zEv X mt_X10_image 18 [.ref 0] [] (zSH (some 51) zTL, I, L) (some (.int (qBa I 9 0)), (zSH (some 51) zTL, qBa I, qBaL L)) :=
  ev_go 4 26 [.ref 0] [.ref 1, .ref 51] (zSH (some 51) zTL, I, L) rfl (ev_call mt_X0_copyFrom [.ref 51, .ref 1] 29 [] [] rfl rfl (q_copya h) (ev_go 4 39 [.ref 0] [.int (qBa I 9 0)] (zSH (some 51) zTL, qBa I, qBaL L) rfl (ev_ret rfl)))
theorem q_und0 {X : zSc} {tl : List zS} {I : zI} {L : zL} : zEv X mt_X10_undo 0 [.ref 0] [] (zSH none tl, I, L) (some (.int (-3)), (zSH none tl, I, L)) :=
  ev_go 4 9 [.ref 0] [.int (-3)] (zSH none tl, I, L) rfl (ev_ret rfl)
theorem q_und1 {X : zSc} {I : zI} {L : zL} (h : I 51 5 = 0 ∨ I 51 5 = 1) : zEv X mt_X10_undo 0 [.ref 0] [] (zSH (some 51) zTL, I, L) (some (.int (qBb I 9 0)), (zSH (some 51) zTL, qBb I, qBbL L)) :=
  ev_go 7 18 [.ref 0] [.ref 51, .ref 1] (zSH (some 51) zTL, I, L) rfl (ev_call mt_X0_copyFrom [.ref 1, .ref 51] 21 [] [] rfl rfl (q_copyb h) (ev_go 4 31 [.ref 0] [.int (qBb I 9 0)] (zSH (some 51) zTL, qBb I, qBbL L) rfl (ev_ret rfl)))
