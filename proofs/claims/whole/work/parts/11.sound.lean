section ZS
variable {D : va_G} {kA : Nat → ClassId} {n0 : Nat} {q : Nat → Nat} {X : zSc} {m0 : zMt} {p : Program} {l : Launch} {e : Env} {R : Room} {s : State} {m : MethodId} {args : Array Value} {below : List Frame} {meth : Method} {c : Code} {Q : State → Prop} {len0 sz0 : Nat}
variable {pc pc' : Nat} {ls ls' st st' : List Value} {M M' : zM}
theorem zcl_at {ci : Nat} {r : vw_C} (h : zgt vwCl ci = some r) : vwCl[ci]? = some r := by rw [← zgt_eq]; exact h
theorem zs_getfield (C : zCx D kA n0 q X m0 p R s m args meth c) {a : Nat} (hdec : decode (zb m0) pc = .ok (.getfield a, 3)) (hio : zio m0 (.getfield a) = true) (hz : zx X m0 pc ls st M 3 (.getfield a) = some (.inl (pc', ls', st', M'))) (hpc : pc' ≠ 65535) (h0 : len0 ≤ M.1.length ∧ sz0 ≤ zsize M.1) (hR : M'.1.length - len0 ≤ R.cells ∧ zsize M'.1 - sz0 ≤ R.slots) (K : zWs D kA n0 q m0 p l e R s m args below meth c Q len0 sz0 pc' ls' st' M') : zWs D kA n0 q m0 p l e R s m args below meth c Q len0 sz0 pc ls st M := by
  obtain ⟨hx, hb, hml, hown, hts, hnm, hK, hn0, hE, hfr, hlo, -⟩ := id C
  replace hz : zgetf (zow m0) a (pc + 3) ls st M = _ := hz
  unfold zgetf at hz
  split at hz
  · next o r =>
    split at hz
    · next ci k pl hlk =>
      split at hz
      · next cj fs hS0 =>
        cases hb2 : Nat.beq ci cj with
        | false => rw [hb2] at hz; cases hz
        | true =>
          rw [hb2] at hz
          have hcj := Nat.eq_of_beq_eq_true hb2
          subst hcj
          replace hz : (match zgt fs k with | some kd => zn (pc + 3) ls (zval M.2.1 M.2.2 o k kd :: r) M | none => none) = _ := hz
          split at hz
          · next kd hkd =>
            unfold zn at hz; cases hz
            obtain ⟨C1, T, N, hC, hk, hw, hcls⟩ := zF_ok hlk
            intro H locs lsM hW hS hl
            refine va_get (D := D) (ci := ci) (C := C1) (T := T) (N := N) (ref := (T k).1) hx hb hts (zin_ok hC) hown hK hW.2 o (zwd_get hS0) (zcl_at hC) k hk (by rw [← hcls]; exact hts _ (zg hw rfl)) (fun _ h => h) (v := zren n0 q (zval M.2.1 M.2.2 o k kd)) ?_ hdec (K H locs lsM hW hS hl)
            rw [zgt_eq] at hkd
            simp [zfs, List.getElem?_mapIdx, hkd]
          · cases hz
      · cases hz
    · cases hz
  · cases hz
theorem zs_iaload (C : zCx D kA n0 q X m0 p R s m args meth c) (hdec : decode (zb m0) pc = .ok (.iaload, 1)) (hz : zx X m0 pc ls st M 1 (.iaload) = some (.inl (pc', ls', st', M'))) (hpc : pc' ≠ 65535) (h0 : len0 ≤ M.1.length ∧ sz0 ≤ zsize M.1) (hR : M'.1.length - len0 ≤ R.cells ∧ zsize M'.1 - sz0 ≤ R.slots) (K : zWs D kA n0 q m0 p l e R s m args below meth c Q len0 sz0 pc' ls' st' M') : zWs D kA n0 q m0 p l e R s m args below meth c Q len0 sz0 pc ls st M := by
  obtain ⟨hx, hb, hml, hown, hts, hnm, hK, hn0, hE, hfr, hlo, -⟩ := id C
  replace hz : zild X (pc + 1) ls st M = _ := hz
  unfold zild at hz
  split at hz
  · next i o r =>
    split at hz
    · next nn hS0 =>
      unfold zn at hz; cases hz
      split at hpc
      · exact absurd rfl hpc
      · next hy =>
        rw [if_neg hy] at K
        intro H locs lsM hW hS hl
        exact va_iald (n := nn) (f := M.2.1 o) hx hb hK hW.2 o 0 (zwd_get hS0) rfl hy hdec (K H locs lsM hW hS hl)
    · cases hz
  · next i r =>
    unfold zn at hz; cases hz
    split at hpc
    · exact absurd rfl hpc
    · next hy =>
      rw [if_neg hy] at K
      intro H locs lsM hW hS hl
      exact va_sld (A := zA n0) hx hb hE.1 (Nat.lt_of_lt_of_le hE.2.1 hn0) (Nat.not_le.mpr hE.2.1) hS hy hdec (K H locs lsM hW hS hl)
  · cases hz
theorem zs_laload (C : zCx D kA n0 q X m0 p R s m args meth c) (hdec : decode (zb m0) pc = .ok (.laload, 1)) (hz : zx X m0 pc ls st M 1 (.laload) = some (.inl (pc', ls', st', M'))) (hpc : pc' ≠ 65535) (h0 : len0 ≤ M.1.length ∧ sz0 ≤ zsize M.1) (hR : M'.1.length - len0 ≤ R.cells ∧ zsize M'.1 - sz0 ≤ R.slots) (K : zWs D kA n0 q m0 p l e R s m args below meth c Q len0 sz0 pc' ls' st' M') : zWs D kA n0 q m0 p l e R s m args below meth c Q len0 sz0 pc ls st M := by
  obtain ⟨hx, hb, hml, hown, hts, hnm, hK, hn0, hE, hfr, hlo, -⟩ := id C
  replace hz : zlld (pc + 1) ls st M = _ := hz
  unfold zlld at hz
  split at hz
  · next i o r =>
    split at hz
    · next nn hS0 =>
      unfold zn at hz; cases hz
      split at hpc
      · exact absurd rfl hpc
      · next hy =>
        rw [if_neg hy] at K
        intro H locs lsM hW hS hl
        exact va_lald (n := nn) (f := M.2.2 o) hx hb hK hW.2 o 1 (zwd_get hS0) rfl hy hdec (K H locs lsM hW hS hl)
    · cases hz
  · cases hz
theorem zs_baload (C : zCx D kA n0 q X m0 p R s m args meth c) (hdec : decode (zb m0) pc = .ok (.baload, 1)) (hz : zx X m0 pc ls st M 1 (.baload) = some (.inl (pc', ls', st', M'))) (hpc : pc' ≠ 65535) (h0 : len0 ≤ M.1.length ∧ sz0 ≤ zsize M.1) (hR : M'.1.length - len0 ≤ R.cells ∧ zsize M'.1 - sz0 ≤ R.slots) (K : zWs D kA n0 q m0 p l e R s m args below meth c Q len0 sz0 pc' ls' st' M') : zWs D kA n0 q m0 p l e R s m args below meth c Q len0 sz0 pc ls st M := by
  obtain ⟨hx, hb, hml, hown, hts, hnm, hK, hn0, hE, hfr, hlo, -⟩ := id C
  replace hz : zbld (pc + 1) ls st M = _ := hz
  unfold zbld at hz
  split at hz
  · next i o r =>
    split at hz
    · next nn hS0 =>
      unfold zn at hz; cases hz
      split at hpc
      · exact absurd rfl hpc
      · next hy =>
        rw [if_neg hy] at K
        intro H locs lsM hW hS hl
        exact va_bald (n := nn) (f := M.2.1 o) hx hb hK hW.2 o 2 (zwd_get hS0) rfl hy hdec (K H locs lsM hW hS hl)
    · next nn hS0 =>
      unfold zn at hz; cases hz
      split at hpc
      · exact absurd rfl hpc
      · next hy =>
        rw [if_neg hy] at K
        intro H locs lsM hW hS hl
        exact va_zald (n := nn) (f := M.2.1 o) hx hb hK hW.2 o 3 (zwd_get hS0) rfl hy hdec (K H locs lsM hW hS hl)
    · cases hz
  · cases hz
theorem zs_iastore (C : zCx D kA n0 q X m0 p R s m args meth c) (hdec : decode (zb m0) pc = .ok (.iastore, 1)) (hz : zx X m0 pc ls st M 1 (.iastore) = some (.inl (pc', ls', st', M'))) (hpc : pc' ≠ 65535) (h0 : len0 ≤ M.1.length ∧ sz0 ≤ zsize M.1) (hR : M'.1.length - len0 ≤ R.cells ∧ zsize M'.1 - sz0 ≤ R.slots) (K : zWs D kA n0 q m0 p l e R s m args below meth c Q len0 sz0 pc' ls' st' M') : zWs D kA n0 q m0 p l e R s m args below meth c Q len0 sz0 pc ls st M := by
  obtain ⟨hx, hb, hml, hown, hts, hnm, hK, hn0, hE, hfr, hlo, -⟩ := id C
  replace hz : zias (pc + 1) ls st M = _ := hz
  unfold zias at hz
  split at hz
  · next x i o r =>
    split at hz
    · next nn hS0 =>
      unfold zn at hz; cases hz
      split at hpc
      · exact absurd rfl hpc
      · next hy =>
        rw [if_neg hy] at K
        intro H locs lsM hW hS hl
        refine zr_iast hx hb hK hW.2 (zwd_D kA n0 q M) hS o 0 (zwd_get hS0) rfl hy hdec (fun H1 locs1 z hP1 hS1 => ?_)
        refine K H1 locs1 lsM ⟨z.trans hW.1, ?_⟩ hS1 hl
        rw [zwd_set (M := M) (M' := (M.1, va_up M.2.1 o (upd (M.2.1 o) i.toNatClampNeg x), M.2.2)) (a := o) (s' := .inl (0, nn)) rfl hS0 (fun _ _ => rfl) (fun j hj => va_up_ne _ _ hj) (fun _ _ => rfl)]
        simp only [zce, va_up_self]
        exact hP1
    · cases hz
  · cases hz
theorem zs_lastore (C : zCx D kA n0 q X m0 p R s m args meth c) (hdec : decode (zb m0) pc = .ok (.lastore, 1)) (hz : zx X m0 pc ls st M 1 (.lastore) = some (.inl (pc', ls', st', M'))) (hpc : pc' ≠ 65535) (h0 : len0 ≤ M.1.length ∧ sz0 ≤ zsize M.1) (hR : M'.1.length - len0 ≤ R.cells ∧ zsize M'.1 - sz0 ≤ R.slots) (K : zWs D kA n0 q m0 p l e R s m args below meth c Q len0 sz0 pc' ls' st' M') : zWs D kA n0 q m0 p l e R s m args below meth c Q len0 sz0 pc ls st M := by
  obtain ⟨hx, hb, hml, hown, hts, hnm, hK, hn0, hE, hfr, hlo, -⟩ := id C
  replace hz : zlas (pc + 1) ls st M = _ := hz
  unfold zlas at hz
  split at hz
  · next x i o r =>
    split at hz
    · next nn hS0 =>
      unfold zn at hz; cases hz
      split at hpc
      · exact absurd rfl hpc
      · next hy =>
        rw [if_neg hy] at K
        intro H locs lsM hW hS hl
        refine zr_last hx hb hK hW.2 (zwd_D kA n0 q M) hS o 1 (zwd_get hS0) rfl hy hdec (fun H1 locs1 z hP1 hS1 => ?_)
        refine K H1 locs1 lsM ⟨z.trans hW.1, ?_⟩ hS1 hl
        rw [zwd_set (M := M) (M' := (M.1, M.2.1, va_up M.2.2 o (vp_updL (M.2.2 o) i.toNatClampNeg x))) (a := o) (s' := .inl (1, nn)) rfl hS0 (fun _ _ => rfl) (fun _ _ => rfl) (fun j hj => va_up_ne _ _ hj)]
        simp only [zce, va_up_self]
        exact hP1
    · cases hz
  · cases hz
theorem zs_bastore (C : zCx D kA n0 q X m0 p R s m args meth c) (hdec : decode (zb m0) pc = .ok (.bastore, 1)) (hz : zx X m0 pc ls st M 1 (.bastore) = some (.inl (pc', ls', st', M'))) (hpc : pc' ≠ 65535) (h0 : len0 ≤ M.1.length ∧ sz0 ≤ zsize M.1) (hR : M'.1.length - len0 ≤ R.cells ∧ zsize M'.1 - sz0 ≤ R.slots) (K : zWs D kA n0 q m0 p l e R s m args below meth c Q len0 sz0 pc' ls' st' M') : zWs D kA n0 q m0 p l e R s m args below meth c Q len0 sz0 pc ls st M := by
  obtain ⟨hx, hb, hml, hown, hts, hnm, hK, hn0, hE, hfr, hlo, -⟩ := id C
  replace hz : zbas (pc + 1) ls st M = _ := hz
  unfold zbas at hz
  split at hz
  · next x i o r =>
    split at hz
    · next nn hS0 =>
      unfold zn at hz; cases hz
      split at hpc
      · exact absurd rfl hpc
      · next hy =>
        rw [if_neg hy] at K
        intro H locs lsM hW hS hl
        refine zr_bast hx hb hK hW.2 (zwd_D kA n0 q M) hS o 2 (zwd_get hS0) rfl hy hdec (fun H1 locs1 z hP1 hS1 => ?_)
        refine K H1 locs1 lsM ⟨z.trans hW.1, ?_⟩ hS1 hl
        rw [zwd_set (M := M) (M' := (M.1, va_up M.2.1 o (upd (M.2.1 o) i.toNatClampNeg (vp_nar .byte x)), M.2.2)) (a := o) (s' := .inl (2, nn)) rfl hS0 (fun _ _ => rfl) (fun j hj => va_up_ne _ _ hj) (fun _ _ => rfl)]
        simp only [zce, va_up_self]
        exact hP1
    · next nn hS0 =>
      unfold zn at hz; cases hz
      split at hpc
      · exact absurd rfl hpc
      · next hy =>
        rw [if_neg hy] at K
        intro H locs lsM hW hS hl
        refine zr_zast hx hb hK hW.2 (zwd_D kA n0 q M) hS o 3 (zwd_get hS0) rfl hy hdec (fun H1 locs1 z hP1 hS1 => ?_)
        refine K H1 locs1 lsM ⟨z.trans hW.1, ?_⟩ hS1 hl
        rw [zwd_set (M := M) (M' := (M.1, va_up M.2.1 o (upd (M.2.1 o) i.toNatClampNeg (vp_nar .boolean x)), M.2.2)) (a := o) (s' := .inl (3, nn)) rfl hS0 (fun _ _ => rfl) (fun j hj => va_up_ne _ _ hj) (fun _ _ => rfl)]
        simp only [zce, va_up_self]
        exact hP1
    · cases hz
  · cases hz
theorem zs_arraylength (C : zCx D kA n0 q X m0 p R s m args meth c) (hdec : decode (zb m0) pc = .ok (.arraylength, 1)) (hz : zx X m0 pc ls st M 1 (.arraylength) = some (.inl (pc', ls', st', M'))) (hpc : pc' ≠ 65535) (h0 : len0 ≤ M.1.length ∧ sz0 ≤ zsize M.1) (hR : M'.1.length - len0 ≤ R.cells ∧ zsize M'.1 - sz0 ≤ R.slots) (K : zWs D kA n0 q m0 p l e R s m args below meth c Q len0 sz0 pc' ls' st' M') : zWs D kA n0 q m0 p l e R s m args below meth c Q len0 sz0 pc ls st M := by
  obtain ⟨hx, hb, hml, hown, hts, hnm, hK, hn0, hE, hfr, hlo, -⟩ := id C
  replace hz : zlen X (pc + 1) ls st M = _ := hz
  unfold zlen at hz
  split at hz
  · next r =>
    unfold zn at hz; cases hz
    intro H locs lsM hW hS hl
    exact va_slen (A := zA n0) hx hb hE.1 (Nat.lt_of_lt_of_le hE.2.1 hn0) (Nat.not_le.mpr hE.2.1) hS hdec (K H locs lsM hW hS hl)
  · cases hz
theorem zsize_push (S : List zS) (x : zS) : zsize (S ++ [x]) = zsize S + zsz x := by simp [zsize]
theorem zs_newP {x : zS} {H H1 : Heap} {locs : List Loc} (hW : zW D kA n0 q M H) (hS : va_S (zA n0) s.heap H locs) (hc : va_at D vwCl (n0 + M.1.length, zce kA n0 q (va_up M.2.1 M.1.length (fun _ => 0)) (va_up M.2.2 M.1.length (fun _ => 0)) M.1.length x) H1) (hz : H1.size = H.size + 1) (ho : ∀ a, a < H.size → H1[a]? = H[a]?) : zW D kA n0 q (M.1 ++ [x], va_up M.2.1 M.1.length (fun _ => 0), va_up M.2.2 M.1.length (fun _ => 0)) H1 ∧ va_S (zA n0) s.heap H1 locs := by
  refine ⟨⟨by rw [hz, hW.1]; simp; omega, ?_⟩, ⟨Nat.le_trans hS.1 (by omega), fun a h1 h2 => (ho a (Nat.lt_of_lt_of_le h1 hS.1)).trans (hS.2.1 a h1 h2), hS.2.2⟩⟩
  rw [zwd_push (fun i hi => va_up_ne _ _ (Nat.ne_of_lt hi)) (fun i hi => va_up_ne _ _ (Nat.ne_of_lt hi))]
  refine va_P.app (hW.2.kept fun k x hk => ho x.1 ((hW.2 k x hk).lt)) (fun k x hk => ?_)
  have hz : k < 1 := (List.getElem?_eq_some_iff.mp hk).1
  rw [show k = 0 by omega] at hk
  cases hk
  exact hc
theorem zs_new (C : zCx D kA n0 q X m0 p R s m args meth c) {a : Nat} (hdec : decode (zb m0) pc = .ok (.new a, 3)) (hio : zio m0 (.new a) = true) (hz : zx X m0 pc ls st M 3 (.new a) = some (.inl (pc', ls', st', M'))) (hpc : pc' ≠ 65535) (h0 : len0 ≤ M.1.length ∧ sz0 ≤ zsize M.1) (hR : M'.1.length - len0 ≤ R.cells ∧ zsize M'.1 - sz0 ≤ R.slots) (K : zWs D kA n0 q m0 p l e R s m args below meth c Q len0 sz0 pc' ls' st' M') : zWs D kA n0 q m0 p l e R s m args below meth c Q len0 sz0 pc ls st M := by
  obtain ⟨hx, hb, hml, hown, hts, hnm, hK, hn0, hE, hfr, hlo, -⟩ := id C
  replace hz : znew (zow m0) a (pc + 3) ls st M = _ := hz
  unfold znew at hz
  split at hz
  · next ci pl hlk =>
    split at hz
    · next fs hfs =>
      unfold zadd zn at hz; cases hz
      have hw := zlk_all (t := zlkCT) zC_all hlk
      simp only [zCc, decide_eq_true_eq] at hw
      obtain ⟨T, N, hC⟩ := zdf_cl hfs
      obtain ⟨hty, hnm2, hins, hini, hdf⟩ := zcls_ok hC
      obtain ⟨hlN, hkN⟩ := hdf fs hfs
      intro H locs lsM hW hS hl
      have hKn := hK.1 ci _ (zcl_at hC)
      simp only [List.length_append, List.length_cons, List.length_nil, zsize_push, zsz] at hR K
      have e1 : M.1.length - len0 + 1 = M.1.length + (0 + 1) - len0 := by omega
      have e2 : zsize M.1 - sz0 + N = zsize M.1 + fs.length - sz0 := by rw [hlN]; omega
      refine W.newcK (n := N) hx hb hown (hts _ (zg (List.mem_of_getElem? hw) rfl)) (hts _ (zg hins rfl)) (hts _ (zg hini rfl)) rfl hdec (by rw [e1]; exact hR.1) (by rw [e2]; exact hR.2) hKn.2.1 rfl fun H1 kC hkC h1 h2 h3 => ?_
      rw [hW.1] at h1
      have hfsV : ∀ j, j < N → defaultValue (zty T j) = vp_V (zfs n0 q (va_up M.2.1 M.1.length (fun _ => 0)) (va_up M.2.2 M.1.length (fun _ => 0)) M.1.length fs) j := by
        intro j hj
        obtain ⟨kd, hkd, hok⟩ := hkN j hj
        have hkd' : fs[j]? = some kd := by rw [← zgt_eq]; exact hkd
        have e3 : vp_V (zfs n0 q (va_up M.2.1 M.1.length (fun _ => 0)) (va_up M.2.2 M.1.length (fun _ => 0)) M.1.length fs) j = zren n0 q (zval (va_up M.2.1 M.1.length (fun _ => 0)) (va_up M.2.2 M.1.length (fun _ => 0)) M.1.length j kd) := by
          simp [vp_V, zfs, List.getD_eq_getElem?_getD, List.getElem?_mapIdx, hkd']
        rw [e3]
        exact ztok_def hok
      obtain ⟨g1, g2⟩ := zs_newP (x := .inr (ci, fs)) hW hS ⟨_, zcl_at hC, (u_born (zty T) hts (zin_ok hC) hKn hkC h1 hty).to hfsV⟩ h2 h3
      have K2 := K H1 locs lsM g1 g2 hl
      simp only [List.length_append, List.length_cons, List.length_nil, zsize_push, zsz] at K2
      rw [e1, e2, hW.1]
      exact K2
    · cases hz
  · cases hz
theorem zs_newarray (C : zCx D kA n0 q X m0 p R s m args meth c) {a : ArrayType} (hdec : decode (zb m0) pc = .ok (.newarray a, 2)) (hz : zx X m0 pc ls st M 2 (.newarray a) = some (.inl (pc', ls', st', M'))) (hpc : pc' ≠ 65535) (h0 : len0 ≤ M.1.length ∧ sz0 ≤ zsize M.1) (hR : M'.1.length - len0 ≤ R.cells ∧ zsize M'.1 - sz0 ≤ R.slots) (K : zWs D kA n0 q m0 p l e R s m args below meth c Q len0 sz0 pc' ls' st' M') : zWs D kA n0 q m0 p l e R s m args below meth c Q len0 sz0 pc ls st M := by
  obtain ⟨hx, hb, hml, hown, hts, hnm, hK, hn0, hE, hfr, hlo, -⟩ := id C
  have key : ∀ (t : Nat) (ty : FieldType), newarray.typeOf a = ty → (ztys kA)[t]? = some (kA t, ty) → Cond.arrayClass ty ∈ lw_tbl → (∀ n : Nat, n ≤ 100000 → n * componentBytes ty ≤ 536870912) → (∀ (nn : Nat) (I : zI) (L : zL) (i : Nat), I i = (fun _ => 0) → L i = (fun _ => 0) → ∃ x : vp_A, zce kA n0 q I L i (.inl (t, nn)) = .inl (kA t, x) ∧ vp_cell (kA t) x = arrV (kA t) nn (fun _ => defaultValue ty)) → znat t (pc + 2) ls st M = some (.inl (pc', ls', st', M')) → zWs D kA n0 q m0 p l e R s m args below meth c Q len0 sz0 pc ls st M := by
    clear hz
    intro t ty hty htt hwd hby hcell hz
    subst hty
    unfold znat at hz
    split at hz
    · next kk r =>
      unfold zadd zn at hz; cases hz
      split at hpc
      · exact absurd rfl hpc
      · next hy =>
        rw [if_neg hy] at K
        simp only [not_or, Nat.not_lt] at hy
        intro H locs lsM hW hS hl
        simp only [List.length_append, List.length_cons, List.length_nil, zsize_push, zsz] at hR K
        have e1 : M.1.length - len0 + 1 = M.1.length + (0 + 1) - len0 := by omega
        have e2 : zsize M.1 - sz0 + kk.toNatClampNeg = zsize M.1 + kk.toNatClampNeg - sz0 := by omega
        refine va_newaK hx hb (hts _ (zg hwd rfl)) rfl hdec rfl hy.1 rfl (hby _ hy.2) (by rw [e1]; exact hR.1) (by rw [e2]; exact hR.2) rfl fun H1 cA h1 h2 h3 h4 h5 => ?_
        have hcA : cA = kA t := by
          have h6 := (hK.2 t _ htt).2
          rw [show va_RA s (kA t) (newarray.typeOf a) = (s.vm.findClass ("[" ++ (newarray.typeOf a).toString) = some (kA t)) by cases a <;> rfl] at h6
          exact Option.some.inj (h5.symm.trans h6)
        subst hcA
        rw [hW.1] at h1
        obtain ⟨xx, hx1, hx2⟩ := hcell kk.toNatClampNeg (va_up M.2.1 M.1.length (fun _ => 0)) (va_up M.2.2 M.1.length (fun _ => 0)) M.1.length (va_up_self _ _ _) (va_up_self _ _ _)
        obtain ⟨g1, g2⟩ := zs_newP (x := .inl (t, kk.toNatClampNeg)) hW hS (by rw [hx1]; show H1[_]? = some (vp_cell _ _); rw [hx2]; exact h1) h2 h3
        have K2 := K H1 locs lsM g1 g2 hl
        simp only [List.length_append, List.length_cons, List.length_nil, zsize_push, zsz] at K2
        rw [e1, e2, hW.1]
        exact K2
    · cases hz
  cases a with
  | int => exact key 0 .int rfl rfl (by decide +kernel) (fun n hn => by show n * 4 ≤ _; omega) (fun nn I L i hI hL => ⟨_, rfl, by rw [vp_cell_i, hI]; rfl⟩) hz
  | long => exact key 1 .long rfl rfl (by decide +kernel) (fun n hn => by show n * 8 ≤ _; omega) (fun nn I L i hI hL => ⟨_, rfl, by rw [vp_cell_l, hL]; rfl⟩) hz
  | byte => exact key 2 .byte rfl rfl (by decide +kernel) (fun n hn => by show n * 1 ≤ _; omega) (fun nn I L i hI hL => ⟨_, rfl, by rw [vp_cell_i, hI]; rfl⟩) hz
  | boolean => exact key 3 .boolean rfl rfl (by decide +kernel) (fun n hn => by show n * 1 ≤ _; omega) (fun nn I L i hI hL => ⟨_, rfl, by rw [vp_cell_i, hI]; rfl⟩) hz
  | _ => cases hz
theorem zs_putfield (C : zCx D kA n0 q X m0 p R s m args meth c) {a : Nat} (hdec : decode (zb m0) pc = .ok (.putfield a, 3)) (hio : zio m0 (.putfield a) = true) (hz : zx X m0 pc ls st M 3 (.putfield a) = some (.inl (pc', ls', st', M'))) (hpc : pc' ≠ 65535) (h0 : len0 ≤ M.1.length ∧ sz0 ≤ zsize M.1) (hR : M'.1.length - len0 ≤ R.cells ∧ zsize M'.1 - sz0 ≤ R.slots) (K : zWs D kA n0 q m0 p l e R s m args below meth c Q len0 sz0 pc' ls' st' M') : zWs D kA n0 q m0 p l e R s m args below meth c Q len0 sz0 pc ls st M := by
  obtain ⟨hx, hb, hml, hown, hts, hnm, hK, hn0, hE, hfr, hlo, -⟩ := id C
  replace hz : zputf (zow m0) a (pc + 3) ls st M = _ := hz
  unfold zputf at hz
  split at hz
  · next v o r =>
    split at hz
    · next ci k pl hlk =>
      split at hz
      · next cj fs hS0 =>
        cases hb2 : Nat.beq ci cj with
        | false => rw [hb2] at hz; cases hz
        | true =>
          rw [hb2] at hz
          have hcj := Nat.eq_of_beq_eq_true hb2
          subst hcj
          dsimp only [cond_true] at hz
          split at hz
          · next kd kd0 hkd hkd0 =>
            cases hke : zke kd kd0 with
            | false => rw [hke] at hz; cases hz
            | true =>
              rw [hke] at hz
              replace hz : zput o k ci fs (pc + 3) ls r v M kd = _ := hz
              obtain ⟨C1, T, N, hC, hk, hw, hcls⟩ := zF_ok hlk
              obtain ⟨hty, hnm2, hins, hini, hdf⟩ := zcls_ok hC
              have hok : ztok kd0 (zty T k) := by
                unfold zkd at hkd0
                split at hkd0
                · next d hd =>
                  obtain ⟨kd1, h1, h2⟩ := (hdf d hd).2 k hk
                  rw [hkd0] at h1
                  cases h1
                  exact h2
                · cases hkd0
              have hfin : (T k).2.2.2 = false ∨ ((T k).2.2.2 = true ∧ meth.name = "<init>" ∧ (T k).1 = zcn (zow m0)) := by
                unfold zio at hio
                dsimp only at hio
                rw [hlk] at hio
                dsimp only at hio
                rw [hC] at hio
                dsimp only at hio
                cases hff : (T k).2.2.2 with
                | false => exact Or.inl rfl
                | true =>
                  rw [hff] at hio
                  simp only [Bool.not_true, Bool.false_or, Bool.and_eq_true, decide_eq_true_eq] at hio
                  refine Or.inr ⟨rfl, hnm hio.1, ?_⟩
                  rw [← hcls, ← Nat.eq_of_beq_eq_true hio.2]
                  exact (zcn_cl hC).symm
              have hlt : k < (zfs n0 q M.2.1 M.2.2 o fs).length := by rw [zfs, List.length_mapIdx]; exact zgt_lt hkd
              have row : ∀ (w : Value) (M2 : zM), zren n0 q v = w → narrow (zty T k) w = w → fits (zty T k) w = true → M2.1.length = M.1.length → zsize M2.1 = zsize M.1 → (∀ H1 : Heap, va_P D vwCl ((zwd kA n0 q M).set o (n0 + o, .inr (ci, (zfs n0 q M.2.1 M.2.2 o fs).set k w))) H1 → va_P D vwCl (zwd kA n0 q M2) H1) → (zWs D kA n0 q m0 p l e R s m args below meth c Q len0 sz0 (pc + 3) ls r M2) → zWs D kA n0 q m0 p l e R s m args below meth c Q len0 sz0 pc ls (v :: .ref o :: r) M := by
                intro w M2 hv hn hfit hl2 hs2 hp2 K2 H locs lsM hW hS hl
                show W _ _ _ _ _ _ _ _ _ _ _ _ _ _ _ (F0 m pc lsM (zren n0 q v :: .ref (n0 + o) :: r.map (zren n0 q)))
                rw [hv]
                refine zr_put hx hb hts (zin_ok hC) (zty T) hty hnm2 hown hK hW.2 (zwd_D kA n0 q M) hS o (zwd_get hS0) (zcl_at hC) k hk (by rw [← hcls]; exact hts _ (zg hw rfl)) hfin hn hfit hlt hdec (fun H1 locs1 z hP1 hS1 => ?_)
                have K3 := K2 H1 locs1 lsM ⟨by rw [z, hW.1, hl2], hp2 H1 hP1⟩ hS1 hl
                rw [hl2, hs2] at K3
                exact K3
              have setI : ∀ x : Int32, (kd = .inl 0 ∨ kd = .inl 2) → zwd kA n0 q (M.1, va_up M.2.1 o (upd (M.2.1 o) k x), M.2.2) = (zwd kA n0 q M).set o (n0 + o, .inr (ci, (zfs n0 q M.2.1 M.2.2 o fs).set k (.int x))) := by
                intro x hkd1
                rw [zwd_set (M := M) (M' := (M.1, va_up M.2.1 o (upd (M.2.1 o) k x), M.2.2)) (a := o) (s' := .inr (ci, fs)) rfl hS0 (fun _ _ => rfl) (fun j hj => va_up_ne _ _ hj) (fun _ _ => rfl)]
                congr 3
                simp only [zce]
                congr 2
                refine zfs_set hkd ?_ (fun j kj hj => ?_)
                · rcases hkd1 with rfl | rfl <;> simp [zval, zren, va_up, upd]
                · cases kj with
                  | inl t => unfold zval; split <;> simp_all [va_up, upd]
                  | inr rr => unfold zval; split <;> simp_all
              have setL : ∀ x : Int64, kd = .inl 1 → zwd kA n0 q (M.1, M.2.1, va_up M.2.2 o (vp_updL (M.2.2 o) k x)) = (zwd kA n0 q M).set o (n0 + o, .inr (ci, (zfs n0 q M.2.1 M.2.2 o fs).set k (.long x))) := by
                intro x hkd1
                rw [zwd_set (M := M) (M' := (M.1, M.2.1, va_up M.2.2 o (vp_updL (M.2.2 o) k x))) (a := o) (s' := .inr (ci, fs)) rfl hS0 (fun _ _ => rfl) (fun _ _ => rfl) (fun j hj => va_up_ne _ _ hj)]
                congr 3
                simp only [zce]
                congr 2
                refine zfs_set hkd ?_ (fun j kj hj => ?_)
                · subst hkd1; simp [zval, zren, va_up, vp_updL]
                · cases kj with
                  | inl t => unfold zval; split <;> simp_all [va_up, vp_updL]
                  | inr rr => unfold zval; split <;> simp_all
              have setR : ∀ rr : Option Nat, zwd kA n0 q (M.1.set o (.inr (ci, fs.set k (.inr rr))), M.2) = (zwd kA n0 q M).set o (n0 + o, .inr (ci, (zfs n0 q M.2.1 M.2.2 o fs).set k (zren n0 q (zval M.2.1 M.2.2 o k (.inr rr))))) := by
                intro rr
                rw [zwd_set (M := M) (M' := (M.1.set o (.inr (ci, fs.set k (.inr rr))), M.2)) (a := o) (s' := .inr (ci, fs.set k (.inr rr))) (by simp) (zgt_set_self _ (zgt_lt hS0)) (fun j hj => zgt_set_ne _ hj) (fun _ _ => rfl) (fun _ _ => rfl)]
                congr 3
                simp only [zce]
                congr 2
                apply List.ext_getElem?
                intro j
                by_cases hj : j = k
                · subst hj
                  have e5 : (zfs n0 q M.2.1 M.2.2 o (fs.set j (.inr rr)))[j]? = some (zren n0 q (zval M.2.1 M.2.2 o j (.inr rr))) := by
                    rw [zfs, List.getElem?_mapIdx, List.getElem?_set_self (zgt_lt hkd)]; rfl
                  exact e5.trans (List.getElem?_set_self hlt).symm
                · rw [List.getElem?_set_ne (Ne.symm hj)]
                  simp [zfs, List.getElem?_mapIdx, List.getElem?_set_ne (Ne.symm hj)]
              have hsz : ∀ rr : Option Nat, zsize (M.1.set o (.inr (ci, fs.set k (.inr rr)))) = zsize M.1 := fun rr => zsize_set hS0 (by simp [zsz])
              unfold zput at hz
              split at hz
              · split at hz
                · next x =>
                  unfold zn at hz; cases hz
                  have ht := ztok_0 hke hok
                  exact row (.int x) (M.1, va_up M.2.1 o (upd (M.2.1 o) k x), M.2.2) rfl (by rw [ht]; rfl) (by rw [ht]; rfl) rfl rfl (fun H1 h => by rw [setI x (Or.inl rfl)]; exact h) K
                · cases hz
              · split at hz
                · next x =>
                  unfold zn at hz; cases hz
                  have ht := ztok_1 hke hok
                  exact row (.long x) (M.1, M.2.1, va_up M.2.2 o (vp_updL (M.2.2 o) k x)) rfl (by rw [ht]; rfl) (by rw [ht]; rfl) rfl rfl (fun H1 h => by rw [setL x rfl]; exact h) K
                · cases hz
              · next t ht0 ht1 =>
                split at hz
                · next x =>
                  unfold zn at hz; cases hz
                  split at hpc
                  · next hy =>
                    rw [if_pos hy] at K
                    obtain ⟨h2, ht⟩ := ztok_2 (fun h => ht0 h) (fun h => ht1 h) hke hok
                    exact row (.int x) (M.1, va_up M.2.1 o (upd (M.2.1 o) k x), M.2.2) rfl (by rw [ht]; rcases hy with rfl | rfl <;> rfl) (by rw [ht]; rcases hy with rfl | rfl <;> rfl) rfl rfl (fun H1 h => by rw [setI x (Or.inr (by rw [h2]))]; exact h) K
                  · exact absurd rfl hpc
                · cases hz
              · next rr0 =>
                have ht := ztok_r hke hok
                split at hz
                · next qq =>
                  unfold zn at hz; cases hz
                  exact row (.ref (n0 + qq)) (M.1.set o (.inr (ci, fs.set k (.inr (some qq)))), M.2) rfl (by rcases ht with ⟨nn, ht⟩ | ⟨nn, ht⟩ <;> rw [ht] <;> rfl) (by rcases ht with ⟨nn, ht⟩ | ⟨nn, ht⟩ <;> rw [ht] <;> rfl) (by simp) (hsz _) (fun H1 h => by rw [setR (some qq)]; exact h) K
                · unfold zn at hz; cases hz
                  exact row .null (M.1.set o (.inr (ci, fs.set k (.inr none))), M.2) rfl (by rcases ht with ⟨nn, ht⟩ | ⟨nn, ht⟩ <;> rw [ht] <;> rfl) (by rcases ht with ⟨nn, ht⟩ | ⟨nn, ht⟩ <;> rw [ht] <;> rfl) (by simp) (hsz _) (fun H1 h => by rw [setR none]; exact h) K
                · cases hz
          · cases hz
      · cases hz
    · cases hz
  · cases hz
theorem zcall_inl {mm : zMt} {idx kind pc1 : Nat} {l1 s1 : List Value} {M1 : zM} {y : Nat × List Value × List Value × zM} (h : zcall mm idx kind pc1 l1 s1 M1 = some (.inl y)) : False := by
  unfold zcall at h
  split at h
  · next kd na mj _ =>
    cases h1 : (Nat.beq kd kind && Nat.blt (zlv mj) (zlv mm)) with
    | false => rw [h1] at h; cases h
    | true =>
      rw [h1] at h
      dsimp only [cond_true] at h
      split at h
      · next as rest _ =>
        cases h2 : (Nat.ble (zcat rest) 8 && Nat.ble (zsp as).length (zmx mj)) with
        | false => rw [h2] at h; cases h
        | true =>
          rw [h2] at h
          dsimp only [cond_true] at h
          split at h
          · split at h
            · next c _ =>
              cases h3 : Nat.beq c (zow mj) with
              | false => rw [h3] at h; cases h
              | true => rw [h3] at h; cases h
            · cases h
          · cases h
          · cases h
          · cases h
          · cases h
      · cases h
  · cases h
theorem zs_invokevirtual (C : zCx D kA n0 q X m0 p R s m args meth c) {a : Nat} (hdec : decode (zb m0) pc = .ok (.invokevirtual a, 3)) (hio : zio m0 (.invokevirtual a) = true) (hz : zx X m0 pc ls st M 3 (.invokevirtual a) = some (.inl (pc', ls', st', M'))) (hpc : pc' ≠ 65535) (h0 : len0 ≤ M.1.length ∧ sz0 ≤ zsize M.1) (hR : M'.1.length - len0 ≤ R.cells ∧ zsize M'.1 - sz0 ≤ R.slots) (K : zWs D kA n0 q m0 p l e R s m args below meth c Q len0 sz0 pc' ls' st' M') : zWs D kA n0 q m0 p l e R s m args below meth c Q len0 sz0 pc ls st M := by
  obtain ⟨hx, hb, hml, hown, hts, hnm, hK, hn0, hE, hfr, hlo, -⟩ := id C
  replace hz : zinv m0 a 0 (pc + 3) ls st M = _ := hz
  unfold zinv at hz
  split at hz
  · next qq pl hlk =>
    have hw := zlk_all (t := zlkPT) zP_all hlk
    simp only [zPc, decide_eq_true_eq] at hw
    have hlink := List.mem_of_getElem? hw
    unfold zpc at hz
    split at hz
    · next h9 => cases h9
    · next h9 => cases h9
    · next h9 => cases h9
    · next h9 => cases h9
    · cases hg : Nat.ble 4 (zlv m0) with
      | false => rw [hg] at hz; cases hz
      | true =>
        rw [hg] at hz
        have hlv := Nat.le_of_ble_eq_true hg
        replace hz : zp4 (pc + 3) ls st M = _ := hz
        unfold zp4 at hz
        split at hz
        · next k r =>
          cases h1 : (Nat.blt k 2 && Nat.ble (zcat r) 8) with
          | false => rw [h1] at hz; cases hz
          | true =>
            rw [h1] at hz
            replace hz : zn _ _ _ _ = _ := hz
            unfold zn at hz; cases hz
            simp only [Bool.and_eq_true] at h1
            exact zs_strlen C hdec hlink (Nat.le_of_ble_eq_true h1.1) (Nat.le_of_ble_eq_true h1.2) hlv hR K
        · cases hz
    · cases hg : Nat.ble 4 (zlv m0) with
      | false => rw [hg] at hz; cases hz
      | true =>
        rw [hg] at hz
        have hlv := Nat.le_of_ble_eq_true hg
        replace hz : zp5 (pc + 3) ls st M = _ := hz
        unfold zp5 at hz
        split at hz
        · next i k r =>
          cases h1 : (Nat.blt k 2 && Nat.ble (zcat r) 8) with
          | false => rw [h1] at hz; cases hz
          | true =>
            rw [h1] at hz
            replace hz : zn _ _ _ _ = _ := hz
            unfold zn at hz; cases hz
            simp only [Bool.and_eq_true] at h1
            split at hpc
            · exact absurd rfl hpc
            · next hy =>
              rw [if_neg hy] at K
              exact zs_charAt C hdec hlink (Nat.le_of_ble_eq_true h1.1) (Nat.le_of_ble_eq_true h1.2) hlv hy hR K
        · cases hz
    · cases hz
  · exact (zcall_inl hz).elim
theorem zfits_i (z : Int32) : fits .int (.int z) = true := rfl
theorem zfits_l (z : Int64) : fits .long (.long z) = true := rfl
theorem zs_invokestatic (C : zCx D kA n0 q X m0 p R s m args meth c) {a : Nat} (hdec : decode (zb m0) pc = .ok (.invokestatic a, 3)) (hio : zio m0 (.invokestatic a) = true) (hz : zx X m0 pc ls st M 3 (.invokestatic a) = some (.inl (pc', ls', st', M'))) (hpc : pc' ≠ 65535) (h0 : len0 ≤ M.1.length ∧ sz0 ≤ zsize M.1) (hR : M'.1.length - len0 ≤ R.cells ∧ zsize M'.1 - sz0 ≤ R.slots) (K : zWs D kA n0 q m0 p l e R s m args below meth c Q len0 sz0 pc' ls' st' M') : zWs D kA n0 q m0 p l e R s m args below meth c Q len0 sz0 pc ls st M := by
  obtain ⟨hx, hb, hml, hown, hts, hnm, hK, hn0, hE, hfr, hlo, -⟩ := id C
  replace hz : zinv m0 a 1 (pc + 3) ls st M = _ := hz
  unfold zinv at hz
  split at hz
  · next qq pl hlk =>
    have hw := zlk_all (t := zlkPT) zP_all hlk
    simp only [zPc, decide_eq_true_eq] at hw
    have hlink := List.mem_of_getElem? hw
    unfold zpc at hz
    split at hz
    · next h9 => cases h9
    · replace hz : zp1 (pc + 3) ls st M = _ := hz
      unfold zp1 at hz
      split at hz
      · next nn dp d sp o r =>
        cases h1 : Nat.ble (zcat r) 8 with
        | false => rw [h1] at hz; cases hz
        | true =>
          rw [h1] at hz
          have hr := Nat.le_of_ble_eq_true h1
          dsimp only [cond_true] at hz
          split at hz
          · next la ld hSa hSd =>
            unfold zn at hz; cases hz
            split at hpc
            · exact absurd rfl hpc
            · next hy =>
              rw [if_neg hy] at K
              simp only [not_or, Nat.not_lt] at hy
              obtain ⟨y1, y2, y3, y4, y5⟩ := hy
              intro H locs lsM hW hS hl
              refine zr_copy (D := D) (cl := vwCl) (ws := zwd kA n0 q M) (A := zA n0) (H0 := s.heap) Value.int hx hb (hml.trans hl.2.1.symm) hown (hts _ (zg hlink rfl)) (hts _ (zg zw_nat rfl)) (hts _ (zg zw_stat rfl)) (hts _ (zg zw_ini rfl)) hW.2 (zwd_D kA n0 q M) hS o d (c0 := kA 0) (c1 := kA 0) (n0 := la) (n1 := ld) (f := M.2.1 o) (g := M.2.1 d) (ty := .int) (e2 := .inl (kA 0, ld, .inl (va_cpy (M.2.1 o) (M.2.1 d) sp.toNatClampNeg dp.toNatClampNeg nn.toNatClampNeg))) (zwd_get hSa) (zwd_get hSd) (fun h => h) (fun h => h) (hK.2 0 _ rfl).1 (hK.2 0 _ rfl).1 rfl (fun _ => rfl) (fun _ _ _ => trivial) y1 y2 y3 y4 y5 (fun K2 h => h) (Nat.le_trans (Nat.le_add_left 1 _) hfr) ?_ hdec (fun H1 locs1 z hP1 hS1 => ?_)
              · rw [zcat_eq]
                have e9 : nativeFrameWords "java/lang/System" "arraycopy" 5 ≤ 15 := by decide
                unfold zlo at hlo
                omega
              · refine K H1 locs1 lsM ⟨z.trans hW.1, ?_⟩ hS1 hl
                rw [zwd_set (M := M) (M' := (M.1, va_up M.2.1 d (va_cpy (M.2.1 o) (M.2.1 d) sp.toNatClampNeg dp.toNatClampNeg nn.toNatClampNeg), M.2.2)) (a := d) (s' := .inl (0, ld)) rfl hSd (fun _ _ => rfl) (fun j hj => va_up_ne _ _ hj) (fun _ _ => rfl)]
                simp only [zce, va_up_self]
                exact hP1
          · next la ld hSa hSd =>
            unfold zn at hz; cases hz
            split at hpc
            · exact absurd rfl hpc
            · next hy =>
              rw [if_neg hy] at K
              simp only [not_or, Nat.not_lt] at hy
              obtain ⟨y1, y2, y3, y4, y5⟩ := hy
              intro H locs lsM hW hS hl
              refine zr_copy (D := D) (cl := vwCl) (ws := zwd kA n0 q M) (A := zA n0) (H0 := s.heap) Value.long hx hb (hml.trans hl.2.1.symm) hown (hts _ (zg hlink rfl)) (hts _ (zg zw_nat rfl)) (hts _ (zg zw_stat rfl)) (hts _ (zg zw_ini rfl)) hW.2 (zwd_D kA n0 q M) hS o d (c0 := kA 1) (c1 := kA 1) (n0 := la) (n1 := ld) (f := M.2.2 o) (g := M.2.2 d) (ty := .long) (e2 := .inl (kA 1, ld, .inr (.inl (va_cpy (M.2.2 o) (M.2.2 d) sp.toNatClampNeg dp.toNatClampNeg nn.toNatClampNeg)))) (zwd_get hSa) (zwd_get hSd) (fun h => h) (fun h => h) (hK.2 1 _ rfl).1 (hK.2 1 _ rfl).1 rfl (fun _ => rfl) (fun _ _ _ => trivial) y1 y2 y3 y4 y5 (fun K2 h => h) (Nat.le_trans (Nat.le_add_left 1 _) hfr) ?_ hdec (fun H1 locs1 z hP1 hS1 => ?_)
              · rw [zcat_eq]
                have e9 : nativeFrameWords "java/lang/System" "arraycopy" 5 ≤ 15 := by decide
                unfold zlo at hlo
                omega
              · refine K H1 locs1 lsM ⟨z.trans hW.1, ?_⟩ hS1 hl
                rw [zwd_set (M := M) (M' := (M.1, M.2.1, va_up M.2.2 d (va_cpy (M.2.2 o) (M.2.2 d) sp.toNatClampNeg dp.toNatClampNeg nn.toNatClampNeg))) (a := d) (s' := .inl (1, ld)) rfl hSd (fun _ _ => rfl) (fun _ _ => rfl) (fun j hj => va_up_ne _ _ hj)]
                simp only [zce, va_up_self]
                exact hP1
          · cases hz
      · cases hz
    · have h_ := hz
      replace hz : zp2 (pc + 3) ls st M = _ := hz
      unfold zp2 at hz
      split at hz
      · next b r =>
        cases h1 : Nat.ble (zcat r) 8 with
        | false => rw [h1] at hz; cases hz
        | true =>
          rw [h1] at hz
          have hr := Nat.le_of_ble_eq_true h1
          replace hz : zn _ _ _ _ = _ := hz
          unfold zn at hz; cases hz
          refine zs_pure (fun H locs lsM hl k => vn_d2l hx hb (hml.trans hl.2.1.symm) hown (hts _ (zg hlink rfl)) (hts _ (zg zw_dnat rfl)) (hts _ (zg zw_dstat rfl)) (hts _ (zg zw_dini rfl)) (Nat.le_trans (Nat.le_add_left 1 _) hfr) (by rw [zcat_eq]; unfold zlo at hlo; omega) hdec k) K
      · cases hz
    · have h_ := hz
      replace hz : zp3 (pc + 3) ls st M = _ := hz
      unfold zp3 at hz
      split at hz
      · next b r =>
        cases h1 : Nat.ble (zcat r) 8 with
        | false => rw [h1] at hz; cases hz
        | true =>
          rw [h1] at hz
          have hr := Nat.le_of_ble_eq_true h1
          replace hz : zn _ _ _ _ = _ := hz
          unfold zn at hz; cases hz
          refine zs_pure (fun H locs lsM hl k => vn_f2i hx hb (hml.trans hl.2.1.symm) hown (hts _ (zg hlink rfl)) (hts _ (zg zw_fnat rfl)) (hts _ (zg zw_fstat rfl)) (hts _ (zg zw_fini rfl)) (Nat.le_trans (Nat.le_add_left 1 _) hfr) (by rw [zcat_eq]; unfold zlo at hlo; omega) hdec k) K
      · cases hz
    · next h9 => cases h9
    · next h9 => cases h9
    · cases hz
  · exact (zcall_inl hz).elim
theorem zs_invokespecial (C : zCx D kA n0 q X m0 p R s m args meth c) {a : Nat} (hdec : decode (zb m0) pc = .ok (.invokespecial a, 3)) (hio : zio m0 (.invokespecial a) = true) (hz : zx X m0 pc ls st M 3 (.invokespecial a) = some (.inl (pc', ls', st', M'))) (hpc : pc' ≠ 65535) (h0 : len0 ≤ M.1.length ∧ sz0 ≤ zsize M.1) (hR : M'.1.length - len0 ≤ R.cells ∧ zsize M'.1 - sz0 ≤ R.slots) (K : zWs D kA n0 q m0 p l e R s m args below meth c Q len0 sz0 pc' ls' st' M') : zWs D kA n0 q m0 p l e R s m args below meth c Q len0 sz0 pc ls st M := by
  obtain ⟨hx, hb, hml, hown, hts, hnm, hK, hn0, hE, hfr, hlo, -⟩ := id C
  replace hz : zspec m0 a (pc + 3) ls st M = _ := hz
  unfold zspec at hz
  split at hz
  · exact (zcall_inl hz).elim
  · unfold zinv at hz
    split at hz
    · next qq pl hlk =>
      have hw := zlk_all (t := zlkPT) zP_all hlk
      simp only [zPc, decide_eq_true_eq] at hw
      have hlink := List.mem_of_getElem? hw
      unfold zpc at hz
      split at hz
      · replace hz : zp0 (pc + 3) ls st M = _ := hz
        unfold zp0 at hz
        split at hz
        · next o r =>
          cases h1 : Nat.ble (zcat r) 8 with
          | false => rw [h1] at hz; cases hz
          | true =>
            rw [h1] at hz
            have hr := Nat.le_of_ble_eq_true h1
            replace hz : zn _ _ _ _ = _ := hz
            unfold zn at hz; cases hz
            exact zs_pure (fun H locs lsM hl k => W.objInit hx hb hown (hts _ (zg hlink rfl)) (hts _ (zg zw_oinst rfl)) (hts _ (zg zw_ocode rfl)) rfl (hl.2.1.trans hml.symm) rfl hdec (Nat.le_trans (Nat.le_add_left 1 _) hfr) (by show 2 * 0 + _ + 12 ≤ _; rw [zcat_eq]; unfold zlo at hlo; omega) k) K
        · cases hz
      · next h9 => cases h9
      · next h9 => cases h9
      · next h9 => cases h9
      · next h9 => cases h9
      · next h9 => cases h9
      · cases hz
    · exact (zcall_inl hz).elim
set_option maxHeartbeats 4000000 in
set_option maxRecDepth 100000 in
theorem zs_one (C : zCx D kA n0 q X m0 p R s m args meth c) {i : Instr} {n : Nat} (hd : zgo1 m0 (pc, i, n) = true) (hz : zx X m0 pc ls st M n i = some (.inl (pc', ls', st', M'))) (hpc : pc' ≠ 65535) (h0 : len0 ≤ M.1.length ∧ sz0 ≤ zsize M.1) (hR : M'.1.length - len0 ≤ R.cells ∧ zsize M'.1 - sz0 ≤ R.slots) (K : zWs D kA n0 q m0 p l e R s m args below meth c Q len0 sz0 pc' ls' st' M') : zWs D kA n0 q m0 p l e R s m args below meth c Q len0 sz0 pc ls st M := by
  obtain ⟨hx, hb, hml, hown, hts, hnm, hK, hn0, hE, hfr, hlo, -⟩ := id C
  simp only [zgo1, Bool.and_eq_true, decide_eq_true_eq] at hd
  obtain ⟨hdec, hlen, hio, -⟩ := hd
  cases i with
  | iconst a =>
    have hn : 1 = n := Nat.eq_of_beq_eq_true hlen
    subst hn
    have hv := of_decide_eq_true hio
    replace hz : zn (pc + 1) ls (.int (zic a) :: st) M = _ := hz
    unfold zn at hz; cases hz
    exact zs_pure (fun H locs lsM hl k => lv_iconst hx hb hdec hv k) K
  | bipush a =>
    have hn : 2 = n := Nat.eq_of_beq_eq_true hlen
    subst hn
    have hv := of_decide_eq_true hio
    replace hz : zn (pc + 2) ls (.int (zic a) :: st) M = _ := hz
    unfold zn at hz; cases hz
    exact zs_pure (fun H locs lsM hl k => lv_bipush hx hb hdec hv k) K
  | sipush a =>
    have hn : 3 = n := Nat.eq_of_beq_eq_true hlen
    subst hn
    have hv := of_decide_eq_true hio
    replace hz : zn (pc + 3) ls (.int (zic a) :: st) M = _ := hz
    unfold zn at hz; cases hz
    exact zs_pure (fun H locs lsM hl k => lv_sipush hx hb hdec hv k) K
  | lconst a =>
    have hn : 1 = n := Nat.eq_of_beq_eq_true hlen
    subst hn
    replace hz : zn (pc + 1) ls (.long (Int64.ofNat (a : Nat)) :: st) M = _ := hz
    unfold zn at hz; cases hz
    exact zs_pure (fun H locs lsM hl k => lv_lconst hx hb hdec rfl k) K
  | dconst a =>
    have hn : 1 = n := Nat.eq_of_beq_eq_true hlen
    subst hn
    match a, hz, hdec with
    | 0, hz, hdec =>
      replace hz : zn (pc + 1) ls (.double FP.dconst0 :: st) M = _ := hz
      unfold zn at hz; cases hz
      exact zs_pure (fun H locs lsM hl k => lv_dconst0 hx hb hdec k) K
    | 1, hz, hdec =>
      replace hz : zn (pc + 1) ls (.double FP.dconst1 :: st) M = _ := hz
      unfold zn at hz; cases hz
      exact zs_pure (fun H locs lsM hl k => lv_dconst1 hx hb hdec k) K
  | aconst_null =>
    have hn : 1 = n := Nat.eq_of_beq_eq_true hlen
    subst hn
    replace hz : zn (pc + 1) ls (.null :: st) M = _ := hz
    unfold zn at hz; cases hz
    exact zs_pure (fun H locs lsM hl k => lv_null hx hb hdec k) K
  | ldc a =>
    have hn : 2 = n := Nat.eq_of_beq_eq_true hlen
    subst hn
    simp only [zx] at hz
    split at hz
    · next v pl hv =>
      have hw := zlk_all zI_all hv
      simp only [zIc, decide_eq_true_eq] at hw
      unfold zn at hz; cases hz
      exact zs_pure (fun H locs lsM hl k => lv_ldc hx hb hown (hts _ (zg (List.mem_of_getElem? hw) rfl)) hdec k) K
    · split at hz
      · next k hv =>
        have hw := hE.2.2.1.1 _ _ _ hv
        unfold zn at hz; cases hz
        exact zs_pure (fun H locs lsM hl k => va_ldcS hx hb hown hw hdec k) K
      · cases hz
  | ldc2_w a =>
    have hn : 3 = n := Nat.eq_of_beq_eq_true hlen
    subst hn
    simp only [zx] at hz
    split at hz
    · next v pl hv =>
      have hw := zlk_all zJ_all hv
      simp only [zJc, decide_eq_true_eq] at hw
      unfold zn at hz; cases hz
      exact zs_pure (fun H locs lsM hl k => lv_ldc2 hx hb hown (hts _ (zg (List.mem_of_getElem? hw) rfl)) hdec k) K
    · split at hz
      · next v pl hv =>
        have hw := zlk_all zD_all hv
        simp only [zDc, decide_eq_true_eq] at hw
        unfold zn at hz; cases hz
        exact zs_pure (fun H locs lsM hl k => lv_ldc2d hx hb hown (hts _ (zg (List.mem_of_getElem? hw) rfl)) hdec k) K
      · cases hz
  | iload a =>
    have hn : 2 = n := Nat.eq_of_beq_eq_true hlen
    subst hn
    replace hz : zli a (pc + 2) ls st M = _ := hz
    unfold zli at hz
    split at hz
    · next x hv => unfold zn at hz; cases hz; exact zs_pure (fun H locs lsM hl k => lv_iload hx hb hdec (hl.at hv (by simp)) k) K
    · cases hz
  | iload_n a =>
    have hn : 1 = n := Nat.eq_of_beq_eq_true hlen
    subst hn
    replace hz : zli a (pc + 1) ls st M = _ := hz
    unfold zli at hz
    split at hz
    · next x hv => unfold zn at hz; cases hz; exact zs_pure (fun H locs lsM hl k => lv_iload_n hx hb hdec rfl (hl.at hv (by simp)) k) K
    · cases hz
  | lload a =>
    have hn : 2 = n := Nat.eq_of_beq_eq_true hlen
    subst hn
    replace hz : zll a (pc + 2) ls st M = _ := hz
    unfold zll at hz
    split at hz
    · next x hv => unfold zn at hz; cases hz; exact zs_pure (fun H locs lsM hl k => lv_lload hx hb hdec (hl.at hv (by simp)) k) K
    · cases hz
  | lload_n a =>
    have hn : 1 = n := Nat.eq_of_beq_eq_true hlen
    subst hn
    replace hz : zll a (pc + 1) ls st M = _ := hz
    unfold zll at hz
    split at hz
    · next x hv => unfold zn at hz; cases hz; exact zs_pure (fun H locs lsM hl k => lv_lload_n hx hb hdec rfl (hl.at hv (by simp)) k) K
    · cases hz
  | dload a =>
    have hn : 2 = n := Nat.eq_of_beq_eq_true hlen
    subst hn
    replace hz : zldd a (pc + 2) ls st M = _ := hz
    unfold zldd at hz
    split at hz
    · next x hv => unfold zn at hz; cases hz; exact zs_pure (fun H locs lsM hl k => lv_dload hx hb hdec (hl.at hv (by simp)) k) K
    · cases hz
  | dload_n a =>
    have hn : 1 = n := Nat.eq_of_beq_eq_true hlen
    subst hn
    replace hz : zldd a (pc + 1) ls st M = _ := hz
    unfold zldd at hz
    split at hz
    · next x hv => unfold zn at hz; cases hz; exact zs_pure (fun H locs lsM hl k => lv_dload_n hx hb hdec rfl (hl.at hv (by simp)) k) K
    · cases hz
  | fload_n a =>
    have hn : 1 = n := Nat.eq_of_beq_eq_true hlen
    subst hn
    replace hz : zlf a (pc + 1) ls st M = _ := hz
    unfold zlf at hz
    split at hz
    · next x hv => unfold zn at hz; cases hz; exact zs_pure (fun H locs lsM hl k => lv_fload_n hx hb hdec rfl (hl.at hv (by simp)) k) K
    · cases hz
  | aload a =>
    have hn : 2 = n := Nat.eq_of_beq_eq_true hlen
    subst hn
    replace hz : zla a (pc + 2) ls st M = _ := hz
    unfold zla at hz
    split at hz
    · next x hv => unfold zn at hz; cases hz; exact zs_pure (fun H locs lsM hl k => lv_aload hx hb hdec (hl.at hv (by simp)) k) K
    · next x hv => unfold zn at hz; cases hz; exact zs_pure (fun H locs lsM hl k => lv_aload hx hb hdec (hl.at hv (by simp)) k) K
    · cases hz
  | aload_n a =>
    have hn : 1 = n := Nat.eq_of_beq_eq_true hlen
    subst hn
    replace hz : zla a (pc + 1) ls st M = _ := hz
    unfold zla at hz
    split at hz
    · next x hv => unfold zn at hz; cases hz; exact zs_pure (fun H locs lsM hl k => lv_aload_n hx hb hdec rfl (hl.at hv (by simp)) k) K
    · next x hv => unfold zn at hz; cases hz; exact zs_pure (fun H locs lsM hl k => lv_aload_n hx hb hdec rfl (hl.at hv (by simp)) k) K
    · cases hz
  | istore a =>
    have hn : 2 = n := Nat.eq_of_beq_eq_true hlen
    subst hn
    replace hz : zisto a (pc + 2) ls st M = _ := hz
    unfold zisto at hz
    split at hz
    · next x r =>
      unfold zs1 at hz
      cases hlt : Nat.blt ((a : Nat)) ls.length with
      | false => rw [hlt] at hz; cases hz
      | true =>
        rw [hlt] at hz
        replace hlt := Nat.le_of_ble_eq_true hlt
        replace hz : zn _ _ _ _ = _ := hz
        unfold zn at hz; cases hz
        intro H locs lsM hW hS hl
        refine lv_istore hx hb hdec hl.2 (by rw [← hl.1]; exact hlt) rfl (fun lsM' hl' => ?_)
        exact K H locs lsM' hW hS (zLoc.sto1 hl.1 (by rw [← hl.1]; exact hlt) hl')
    · cases hz
  | istore_n a =>
    have hn : 1 = n := Nat.eq_of_beq_eq_true hlen
    subst hn
    replace hz : zisto a (pc + 1) ls st M = _ := hz
    unfold zisto at hz
    split at hz
    · next x r =>
      unfold zs1 at hz
      cases hlt : Nat.blt ((a : Nat)) ls.length with
      | false => rw [hlt] at hz; cases hz
      | true =>
        rw [hlt] at hz
        replace hlt := Nat.le_of_ble_eq_true hlt
        replace hz : zn _ _ _ _ = _ := hz
        unfold zn at hz; cases hz
        intro H locs lsM hW hS hl
        refine lv_istore_n hx hb hdec rfl hl.2 (by rw [← hl.1]; exact hlt) rfl (fun lsM' hl' => ?_)
        exact K H locs lsM' hW hS (zLoc.sto1 hl.1 (by rw [← hl.1]; exact hlt) hl')
    · cases hz
  | lstore a =>
    have hn : 2 = n := Nat.eq_of_beq_eq_true hlen
    subst hn
    replace hz : zlsto a (pc + 2) ls st M = _ := hz
    unfold zlsto at hz
    split at hz
    · next x r =>
      unfold zs2 at hz
      cases hlt : Nat.blt ((a : Nat) + 1) ls.length with
      | false => rw [hlt] at hz; cases hz
      | true =>
        rw [hlt] at hz
        replace hlt := Nat.le_of_ble_eq_true hlt
        replace hz : zn _ _ _ _ = _ := hz
        unfold zn at hz; cases hz
        intro H locs lsM hW hS hl
        refine lv_lstore hx hb hdec hl.2 (by rw [← hl.1]; exact hlt) rfl (fun lsM' hl' => ?_)
        exact K H locs lsM' hW hS (zLoc.sto2 hl.1 (by rw [← hl.1]; exact hlt) hl')
    · cases hz
  | lstore_n a =>
    have hn : 1 = n := Nat.eq_of_beq_eq_true hlen
    subst hn
    replace hz : zlsto a (pc + 1) ls st M = _ := hz
    unfold zlsto at hz
    split at hz
    · next x r =>
      unfold zs2 at hz
      cases hlt : Nat.blt ((a : Nat) + 1) ls.length with
      | false => rw [hlt] at hz; cases hz
      | true =>
        rw [hlt] at hz
        replace hlt := Nat.le_of_ble_eq_true hlt
        replace hz : zn _ _ _ _ = _ := hz
        unfold zn at hz; cases hz
        intro H locs lsM hW hS hl
        refine lv_lstore_n hx hb hdec rfl hl.2 (by rw [← hl.1]; exact hlt) rfl (fun lsM' hl' => ?_)
        exact K H locs lsM' hW hS (zLoc.sto2 hl.1 (by rw [← hl.1]; exact hlt) hl')
    · cases hz
  | dstore a =>
    have hn : 2 = n := Nat.eq_of_beq_eq_true hlen
    subst hn
    replace hz : zdsto a (pc + 2) ls st M = _ := hz
    unfold zdsto at hz
    split at hz
    · next x r =>
      unfold zs2 at hz
      cases hlt : Nat.blt ((a : Nat) + 1) ls.length with
      | false => rw [hlt] at hz; cases hz
      | true =>
        rw [hlt] at hz
        replace hlt := Nat.le_of_ble_eq_true hlt
        replace hz : zn _ _ _ _ = _ := hz
        unfold zn at hz; cases hz
        intro H locs lsM hW hS hl
        refine lv_dstore hx hb hdec hl.2 (by rw [← hl.1]; exact hlt) rfl (fun lsM' hl' => ?_)
        exact K H locs lsM' hW hS (zLoc.sto2 hl.1 (by rw [← hl.1]; exact hlt) hl')
    · cases hz
  | astore a =>
    have hn : 2 = n := Nat.eq_of_beq_eq_true hlen
    subst hn
    replace hz : zasto a (pc + 2) ls st M = _ := hz
    unfold zasto at hz
    split at hz
    · next x r =>
      unfold zs1 at hz
      cases hlt : Nat.blt ((a : Nat)) ls.length with
      | false => rw [hlt] at hz; cases hz
      | true =>
        rw [hlt] at hz
        replace hlt := Nat.le_of_ble_eq_true hlt
        replace hz : zn _ _ _ _ = _ := hz
        unfold zn at hz; cases hz
        intro H locs lsM hW hS hl
        refine lv_astore hx hb hdec hl.2 (by rw [← hl.1]; exact hlt) rfl (fun lsM' hl' => ?_)
        exact K H locs lsM' hW hS (zLoc.sto1 hl.1 (by rw [← hl.1]; exact hlt) hl')
    · cases hz
  | astore_n a =>
    have hn : 1 = n := Nat.eq_of_beq_eq_true hlen
    subst hn
    replace hz : zasto a (pc + 1) ls st M = _ := hz
    unfold zasto at hz
    split at hz
    · next x r =>
      unfold zs1 at hz
      cases hlt : Nat.blt ((a : Nat)) ls.length with
      | false => rw [hlt] at hz; cases hz
      | true =>
        rw [hlt] at hz
        replace hlt := Nat.le_of_ble_eq_true hlt
        replace hz : zn _ _ _ _ = _ := hz
        unfold zn at hz; cases hz
        intro H locs lsM hW hS hl
        refine lv_astore_n hx hb hdec rfl hl.2 (by rw [← hl.1]; exact hlt) rfl (fun lsM' hl' => ?_)
        exact K H locs lsM' hW hS (zLoc.sto1 hl.1 (by rw [← hl.1]; exact hlt) hl')
    · cases hz
  | iinc a b =>
    have hn : 3 = n := Nat.eq_of_beq_eq_true hlen
    subst hn
    have hv := of_decide_eq_true hio
    simp only [zx] at hz
    split at hz
    · next x hx2 =>
      unfold zs1 at hz
      cases hlt : Nat.blt a ls.length with
      | false => rw [hlt] at hz; cases hz
      | true =>
        rw [hlt] at hz
        replace hlt := Nat.le_of_ble_eq_true hlt
        replace hz : zn _ _ _ _ = _ := hz
        unfold zn at hz; cases hz
        intro H locs lsM hW hS hl
        have hin := zpr_in (n0 := n0) (q := q) hx2 (by simp)
        obtain ⟨kx, hkx⟩ := List.getElem?_of_mem hin
        refine lv_iinc hx hb hdec hl.2 hkx (by rw [hv]) (by rw [← hl.1]; exact hlt) rfl (fun lsM' hl' => ?_)
        exact K H locs lsM' hW hS (zLoc.sto1 (v := .int (x + zic b)) hl.1 (by rw [← hl.1]; exact hlt) hl')
    · cases hz
  | iadd =>
    have hn : 1 = n := Nat.eq_of_beq_eq_true hlen
    subst hn
    replace hz : zbi (fun x y => x + y) (pc + 1) ls st M = _ := hz
    unfold zbi at hz
    split at hz
    · unfold zn at hz; cases hz; exact zs_pure (fun H locs lsM hl k => lv_iadd hx hb hdec k) K
    · cases hz
  | isub =>
    have hn : 1 = n := Nat.eq_of_beq_eq_true hlen
    subst hn
    replace hz : zbi (fun x y => x - y) (pc + 1) ls st M = _ := hz
    unfold zbi at hz
    split at hz
    · unfold zn at hz; cases hz; exact zs_pure (fun H locs lsM hl k => lv_isub hx hb hdec k) K
    · cases hz
  | imul =>
    have hn : 1 = n := Nat.eq_of_beq_eq_true hlen
    subst hn
    replace hz : zbi (fun x y => x * y) (pc + 1) ls st M = _ := hz
    unfold zbi at hz
    split at hz
    · unfold zn at hz; cases hz; exact zs_pure (fun H locs lsM hl k => lv_imul hx hb hdec k) K
    · cases hz
  | iand =>
    have hn : 1 = n := Nat.eq_of_beq_eq_true hlen
    subst hn
    replace hz : zbi (fun x y => x &&& y) (pc + 1) ls st M = _ := hz
    unfold zbi at hz
    split at hz
    · unfold zn at hz; cases hz; exact zs_pure (fun H locs lsM hl k => lv_iand hx hb hdec k) K
    · cases hz
  | ladd =>
    have hn : 1 = n := Nat.eq_of_beq_eq_true hlen
    subst hn
    replace hz : zbl (fun x y => x + y) (pc + 1) ls st M = _ := hz
    unfold zbl at hz
    split at hz
    · unfold zn at hz; cases hz; exact zs_pure (fun H locs lsM hl k => lv_ladd hx hb hdec k) K
    · cases hz
  | lsub =>
    have hn : 1 = n := Nat.eq_of_beq_eq_true hlen
    subst hn
    replace hz : zbl (fun x y => x - y) (pc + 1) ls st M = _ := hz
    unfold zbl at hz
    split at hz
    · unfold zn at hz; cases hz; exact zs_pure (fun H locs lsM hl k => lv_lsub hx hb hdec k) K
    · cases hz
  | lmul =>
    have hn : 1 = n := Nat.eq_of_beq_eq_true hlen
    subst hn
    replace hz : zbl (fun x y => x * y) (pc + 1) ls st M = _ := hz
    unfold zbl at hz
    split at hz
    · unfold zn at hz; cases hz; exact zs_pure (fun H locs lsM hl k => lv_lmul hx hb hdec k) K
    · cases hz
  | land =>
    have hn : 1 = n := Nat.eq_of_beq_eq_true hlen
    subst hn
    replace hz : zbl (fun x y => x &&& y) (pc + 1) ls st M = _ := hz
    unfold zbl at hz
    split at hz
    · unfold zn at hz; cases hz; exact zs_pure (fun H locs lsM hl k => lv_land hx hb hdec k) K
    · cases hz
  | lor =>
    have hn : 1 = n := Nat.eq_of_beq_eq_true hlen
    subst hn
    replace hz : zbl (fun x y => x ||| y) (pc + 1) ls st M = _ := hz
    unfold zbl at hz
    split at hz
    · unfold zn at hz; cases hz; exact zs_pure (fun H locs lsM hl k => lv_lor hx hb hdec k) K
    · cases hz
  | idiv =>
    have hn : 1 = n := Nat.eq_of_beq_eq_true hlen
    subst hn
    simp only [zx] at hz
    split at hz
    · next y x r =>
      unfold zn at hz; cases hz
      by_cases hy : y = 0
      · rw [if_pos hy] at hpc; exact absurd rfl hpc
      · rw [if_neg hy] at K
        exact zs_pure (fun H locs lsM hl k => lv_idiv hx hb hdec hy k) K
    · cases hz
  | irem =>
    have hn : 1 = n := Nat.eq_of_beq_eq_true hlen
    subst hn
    simp only [zx] at hz
    split at hz
    · next y x r =>
      unfold zn at hz; cases hz
      by_cases hy : y = 0
      · rw [if_pos hy] at hpc; exact absurd rfl hpc
      · rw [if_neg hy] at K
        exact zs_pure (fun H locs lsM hl k => lv_irem hx hb hdec hy k) K
    · cases hz
  | ldiv =>
    have hn : 1 = n := Nat.eq_of_beq_eq_true hlen
    subst hn
    simp only [zx] at hz
    split at hz
    · next y x r =>
      unfold zn at hz; cases hz
      by_cases hy : y = 0
      · rw [if_pos hy] at hpc; exact absurd rfl hpc
      · rw [if_neg hy] at K
        exact zs_pure (fun H locs lsM hl k => lv_ldiv hx hb hdec hy k) K
    · cases hz
  | lrem =>
    have hn : 1 = n := Nat.eq_of_beq_eq_true hlen
    subst hn
    simp only [zx] at hz
    split at hz
    · next y x r =>
      unfold zn at hz; cases hz
      by_cases hy : y = 0
      · rw [if_pos hy] at hpc; exact absurd rfl hpc
      · rw [if_neg hy] at K
        exact zs_pure (fun H locs lsM hl k => lv_lrem hx hb hdec hy k) K
    · cases hz
  | ineg =>
    have hn : 1 = n := Nat.eq_of_beq_eq_true hlen
    subst hn
    simp only [zx] at hz
    split at hz
    · unfold zn at hz; cases hz; exact zs_pure (fun H locs lsM hl k => lv_ineg hx hb hdec k) K
    · cases hz
  | lneg =>
    have hn : 1 = n := Nat.eq_of_beq_eq_true hlen
    subst hn
    simp only [zx] at hz
    split at hz
    · unfold zn at hz; cases hz; exact zs_pure (fun H locs lsM hl k => lv_lneg hx hb hdec k) K
    · cases hz
  | i2l =>
    have hn : 1 = n := Nat.eq_of_beq_eq_true hlen
    subst hn
    simp only [zx] at hz
    split at hz
    · unfold zn at hz; cases hz; exact zs_pure (fun H locs lsM hl k => lv_i2l hx hb hdec rfl k) K
    · cases hz
  | l2i =>
    have hn : 1 = n := Nat.eq_of_beq_eq_true hlen
    subst hn
    simp only [zx] at hz
    split at hz
    · unfold zn at hz; cases hz; exact zs_pure (fun H locs lsM hl k => lv_l2i hx hb hdec rfl k) K
    · cases hz
  | i2b =>
    have hn : 1 = n := Nat.eq_of_beq_eq_true hlen
    subst hn
    simp only [zx] at hz
    split at hz
    · unfold zn at hz; cases hz; exact zs_pure (fun H locs lsM hl k => lv_i2b hx hb hdec rfl k) K
    · cases hz
  | l2d =>
    have hn : 1 = n := Nat.eq_of_beq_eq_true hlen
    subst hn
    simp only [zx] at hz
    split at hz
    · unfold zn at hz; cases hz; exact zs_pure (fun H locs lsM hl k => lv_l2d hx hb hdec k) K
    · cases hz
  | d2i =>
    have hn : 1 = n := Nat.eq_of_beq_eq_true hlen
    subst hn
    simp only [zx] at hz
    split at hz
    · unfold zn at hz; cases hz; exact zs_pure (fun H locs lsM hl k => lv_d2i hx hb hdec k) K
    · cases hz
  | d2l =>
    have hn : 1 = n := Nat.eq_of_beq_eq_true hlen
    subst hn
    simp only [zx] at hz
    split at hz
    · unfold zn at hz; cases hz; exact zs_pure (fun H locs lsM hl k => lv_d2l hx hb hdec k) K
    · cases hz
  | dneg =>
    have hn : 1 = n := Nat.eq_of_beq_eq_true hlen
    subst hn
    simp only [zx] at hz
    split at hz
    · unfold zn at hz; cases hz; exact zs_pure (fun H locs lsM hl k => lv_dneg hx hb hdec k) K
    · cases hz
  | lshl =>
    have hn : 1 = n := Nat.eq_of_beq_eq_true hlen
    subst hn
    simp only [zx] at hz
    split at hz
    · unfold zn at hz; cases hz; exact zs_pure (fun H locs lsM hl k => lv_lshl hx hb hdec rfl k) K
    · cases hz
  | lshr =>
    have hn : 1 = n := Nat.eq_of_beq_eq_true hlen
    subst hn
    simp only [zx] at hz
    split at hz
    · unfold zn at hz; cases hz; exact zs_pure (fun H locs lsM hl k => lv_lshr hx hb hdec rfl k) K
    · cases hz
  | lcmp =>
    have hn : 1 = n := Nat.eq_of_beq_eq_true hlen
    subst hn
    simp only [zx] at hz
    split at hz
    · unfold zn at hz; cases hz; exact zs_pure (fun H locs lsM hl k => W.lcmp hx hb hdec k) K
    · cases hz
  | dcmp a =>
    have hn : 1 = n := Nat.eq_of_beq_eq_true hlen
    subst hn
    simp only [zx] at hz
    split at hz
    · unfold zn at hz; cases hz; exact zs_pure (fun H locs lsM hl k => lv_dcmp hx hb hdec k) K
    · cases hz
  | fcmp a =>
    have hn : 1 = n := Nat.eq_of_beq_eq_true hlen
    subst hn
    simp only [zx] at hz
    split at hz
    · unfold zn at hz; cases hz; exact zs_pure (fun H locs lsM hl k => lv_fcmp hx hb hdec k) K
    · cases hz
  | d2f =>
    have hn : 1 = n := Nat.eq_of_beq_eq_true hlen
    subst hn
    simp only [zx] at hz
    split at hz
    · next x r =>
      unfold zn at hz; cases hz
      split at hpc
      · next hy =>
        rw [if_pos hy] at K
        exact zs_pure (fun H locs lsM hl k => lv_d2f hx hb hdec hy k) K
      · exact absurd rfl hpc
    · cases hz
  | f2d =>
    have hn : 1 = n := Nat.eq_of_beq_eq_true hlen
    subst hn
    simp only [zx] at hz
    split at hz
    · next x r =>
      unfold zn at hz; cases hz
      split at hpc
      · next hy =>
        rw [if_pos hy] at K
        exact zs_pure (fun H locs lsM hl k => lv_f2d hx hb hdec hy k) K
      · exact absurd rfl hpc
    · cases hz
  | ddiv =>
    have hn : 1 = n := Nat.eq_of_beq_eq_true hlen
    subst hn
    replace hz : zbd FP.ddiv (pc + 1) ls st M = _ := hz
    unfold zbd at hz
    split at hz
    · next y x r =>
      unfold zn at hz; cases hz
      split at hpc
      · next hy =>
        rw [if_pos hy] at K
        exact zs_pure (fun H locs lsM hl k => lv_ddiv hx hb hdec hy k) K
      · exact absurd rfl hpc
    · cases hz
  | dmul =>
    have hn : 1 = n := Nat.eq_of_beq_eq_true hlen
    subst hn
    replace hz : zbd FP.dmul (pc + 1) ls st M = _ := hz
    unfold zbd at hz
    split at hz
    · next y x r =>
      unfold zn at hz; cases hz
      split at hpc
      · next hy =>
        rw [if_pos hy] at K
        exact zs_pure (fun H locs lsM hl k => lv_dmul hx hb hdec hy k) K
      · exact absurd rfl hpc
    · cases hz
  | dsub =>
    have hn : 1 = n := Nat.eq_of_beq_eq_true hlen
    subst hn
    replace hz : zbd FP.dsub (pc + 1) ls st M = _ := hz
    unfold zbd at hz
    split at hz
    · next y x r =>
      unfold zn at hz; cases hz
      split at hpc
      · next hy =>
        rw [if_pos hy] at K
        exact zs_pure (fun H locs lsM hl k => lv_dsub hx hb hdec hy k) K
      · exact absurd rfl hpc
    · cases hz
  | ifCond a b =>
    have hn : 3 = n := Nat.eq_of_beq_eq_true hlen
    subst hn
    simp only [zx] at hz
    split at hz
    · next x r =>
      split at hz
      · next t ht =>
        have htt := zt_ok ht
        unfold zn at hz; cases hz
        intro H locs lsM hW hS hl
        cases a with
          | eq => exact lv_if_eq hx hb hdec htt (fun h => zs_if K hW hS hl _ (if_pos h)) (fun h => zs_if K hW hS hl _ (if_neg h))
          | ne => exact lv_if_ne hx hb hdec htt (fun h => zs_if K hW hS hl _ (if_neg h)) (fun h => zs_if K hW hS hl _ (if_pos h))
          | lt => exact lv_if_lt hx hb hdec htt (fun h => zs_if K hW hS hl _ (if_pos h)) (fun h => zs_if K hW hS hl _ (if_neg h))
          | ge => exact lv_if_ge hx hb hdec htt (fun h => zs_if K hW hS hl _ (if_pos h)) (fun h => zs_if K hW hS hl _ (if_neg h))
          | gt => exact lv_if_gt hx hb hdec htt (fun h => zs_if K hW hS hl _ (if_pos h)) (fun h => zs_if K hW hS hl _ (if_neg h))
          | le => exact lv_if_le hx hb hdec htt (fun h => zs_if K hW hS hl _ (if_pos h)) (fun h => zs_if K hW hS hl _ (if_neg h))
      · cases hz
    · cases hz
  | if_icmp a b =>
    have hn : 3 = n := Nat.eq_of_beq_eq_true hlen
    subst hn
    simp only [zx] at hz
    split at hz
    · next y x r =>
      split at hz
      · next t ht =>
        have htt := zt_ok ht
        unfold zn at hz; cases hz
        intro H locs lsM hW hS hl
        cases a with
          | eq => exact lv_icmp_eq hx hb hdec htt (fun h => zs_if K hW hS hl _ (if_pos h)) (fun h => zs_if K hW hS hl _ (if_neg h))
          | ne => exact lv_icmp_ne hx hb hdec htt (fun h => zs_if K hW hS hl _ (if_neg h)) (fun h => zs_if K hW hS hl _ (if_pos h))
          | lt => exact lv_icmp_lt hx hb hdec htt (fun h => zs_if K hW hS hl _ (if_pos h)) (fun h => zs_if K hW hS hl _ (if_neg h))
          | ge => exact lv_icmp_ge hx hb hdec htt (fun h => zs_if K hW hS hl _ (if_pos h)) (fun h => zs_if K hW hS hl _ (if_neg h))
          | gt => exact lv_icmp_gt hx hb hdec htt (fun h => zs_if K hW hS hl _ (if_pos h)) (fun h => zs_if K hW hS hl _ (if_neg h))
          | le => exact lv_icmp_le hx hb hdec htt (fun h => zs_if K hW hS hl _ (if_pos h)) (fun h => zs_if K hW hS hl _ (if_neg h))
      · cases hz
    · cases hz
  | ifnonnull a =>
    have hn : 3 = n := Nat.eq_of_beq_eq_true hlen
    subst hn
    simp only [zx] at hz
    split at hz
    · split at hz
      · next t ht =>
        have htt := zt_ok ht
        unfold zn at hz; cases hz
        exact zs_pure (fun H locs lsM hl k => lv_ifnonnull hx hb hdec htt k) K
      · cases hz
    · unfold zn at hz; cases hz; exact zs_pure (fun H locs lsM hl k => lv_ifnonnullN hx hb hdec k) K
    · cases hz
  | goto a =>
    have hn : 3 = n := Nat.eq_of_beq_eq_true hlen
    subst hn
    simp only [zx] at hz
    split at hz
    · next t ht =>
      have htt := zt_ok ht
      unfold zn at hz; cases hz
      intro H locs lsM hW hS hl
      refine lv_goto hx hb hdec htt (K H locs lsM hW hS ?_)
      cases Nat.ble pc' pc with
      | false => exact hl
      | true =>
        show zLoc n0 q (zmx m0) (zfgt (zfd (zfg m0) pc') ls) lsM
        unfold zfgt
        split
        · exact hl
        · exact hl.clr _
    · cases hz
  | tableswitch d lo hi offs =>
    simp only [zx] at hz
    split at hz
    · next x r =>
      split at hz
      · next t ht =>
        unfold zn at hz; cases hz
        intro H locs lsM hW hS hl
        unfold ztsw at ht
        split at ht
        · next h => exact lv_tableOut hx hb hdec h (zt_ok ht) (K H locs lsM hW hS hl)
        · next h =>
          split at ht
          · next o ho =>
            rw [zgt_eq] at ho
            exact lv_tableIn hx hb hdec (fun h1 => h (Or.inl h1)) (fun h1 => h (Or.inr h1)) (by rw [← Array.getElem?_toList]; exact ho) (zt_ok ht) (K H locs lsM hW hS hl)
          · cases ht
      · cases hz
    · cases hz
  | dup =>
    have hn : 1 = n := Nat.eq_of_beq_eq_true hlen
    subst hn
    simp only [zx] at hz
    split at hz
    · unfold zn at hz; cases hz; exact zs_pure (fun H locs lsM hl k => lv_dup hx hb hdec rfl k) K
    · unfold zn at hz; cases hz; exact zs_pure (fun H locs lsM hl k => lv_dup hx hb hdec rfl k) K
    · cases hz
  | dup2 =>
    have hn : 1 = n := Nat.eq_of_beq_eq_true hlen
    subst hn
    simp only [zx] at hz
    split at hz
    · unfold zn at hz; cases hz; exact zs_pure (fun H locs lsM hl k => lv_dup2_11 hx hb hdec rfl rfl k) K
    · cases hz
  | pop =>
    have hn : 1 = n := Nat.eq_of_beq_eq_true hlen
    subst hn
    simp only [zx] at hz
    split at hz
    · unfold zn at hz; cases hz; exact zs_pure (fun H locs lsM hl k => lv_pop hx hb hdec rfl k) K
    · unfold zn at hz; cases hz; exact zs_pure (fun H locs lsM hl k => lv_pop hx hb hdec rfl k) K
    · cases hz
  | getfield a =>
    have hn : 3 = n := Nat.eq_of_beq_eq_true hlen
    subst hn
    exact zs_getfield C hdec hio hz hpc h0 hR K
  | putfield a =>
    have hn : 3 = n := Nat.eq_of_beq_eq_true hlen
    subst hn
    exact zs_putfield C hdec hio hz hpc h0 hR K
  | new a =>
    have hn : 3 = n := Nat.eq_of_beq_eq_true hlen
    subst hn
    exact zs_new C hdec hio hz hpc h0 hR K
  | invokevirtual a =>
    have hn : 3 = n := Nat.eq_of_beq_eq_true hlen
    subst hn
    exact zs_invokevirtual C hdec hio hz hpc h0 hR K
  | invokestatic a =>
    have hn : 3 = n := Nat.eq_of_beq_eq_true hlen
    subst hn
    exact zs_invokestatic C hdec hio hz hpc h0 hR K
  | invokespecial a =>
    have hn : 3 = n := Nat.eq_of_beq_eq_true hlen
    subst hn
    exact zs_invokespecial C hdec hio hz hpc h0 hR K
  | iaload =>
    have hn : 1 = n := Nat.eq_of_beq_eq_true hlen
    subst hn
    exact zs_iaload C hdec hz hpc h0 hR K
  | laload =>
    have hn : 1 = n := Nat.eq_of_beq_eq_true hlen
    subst hn
    exact zs_laload C hdec hz hpc h0 hR K
  | baload =>
    have hn : 1 = n := Nat.eq_of_beq_eq_true hlen
    subst hn
    exact zs_baload C hdec hz hpc h0 hR K
  | iastore =>
    have hn : 1 = n := Nat.eq_of_beq_eq_true hlen
    subst hn
    exact zs_iastore C hdec hz hpc h0 hR K
  | lastore =>
    have hn : 1 = n := Nat.eq_of_beq_eq_true hlen
    subst hn
    exact zs_lastore C hdec hz hpc h0 hR K
  | bastore =>
    have hn : 1 = n := Nat.eq_of_beq_eq_true hlen
    subst hn
    exact zs_bastore C hdec hz hpc h0 hR K
  | arraylength =>
    have hn : 1 = n := Nat.eq_of_beq_eq_true hlen
    subst hn
    exact zs_arraylength C hdec hz hpc h0 hR K
  | newarray a =>
    have hn : 2 = n := Nat.eq_of_beq_eq_true hlen
    subst hn
    exact zs_newarray C hdec hz hpc h0 hR K
  | ireturn =>
    have hn : 1 = n := Nat.eq_of_beq_eq_true hlen
    subst hn
    replace hz : zret m0 st = _ := hz
    unfold zret at hz
    repeat' (split at hz)
    all_goals cases hz
  | lreturn =>
    have hn : 1 = n := Nat.eq_of_beq_eq_true hlen
    subst hn
    simp only [zx] at hz
    repeat' (split at hz)
    all_goals cases hz
  | dreturn =>
    have hn : 1 = n := Nat.eq_of_beq_eq_true hlen
    subst hn
    simp only [zx] at hz
    repeat' (split at hz)
    all_goals cases hz
  | return_ =>
    have hn : 1 = n := Nat.eq_of_beq_eq_true hlen
    subst hn
    simp only [zx] at hz
    repeat' (split at hz)
    all_goals cases hz
  | _ => cases hz
end ZS
