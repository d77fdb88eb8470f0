/-! a step of the small machine is a step of the machine -/
def zlo (k : Nat) : Nat := 40 + 30 * k
def zA (n0 : Nat) : Nat → Prop := fun a => n0 ≤ a
def zStr (n0 : Nat) (q : Nat → Nat) (s : State) (H : Heap) : Prop := (∀ own idx k, zlkS own idx = some k → vk_R (zcn own) idx " REV" (q k) s) ∧ (∀ k, k < 2 → ∃ v, va_O "java/lang/String" (q k) (zA n0) s H ∧ va_OF "java/lang/String" "coder" "B" (.int 0) (q k) (zA n0) s H ∧ va_OF "java/lang/String" "value" "[B" (.ref v) (q k) (zA n0) s H ∧ va_T .byte v 4 (fun j => .int (zch j)) (zA n0) s H) ∧ va_Z "java/lang/String" "COMPACT_STRINGS" "Z" (.int 1) (zA n0) s H ∧ va_Zq "jdk/internal/util/Preconditions" "SIOOBE_FORMATTER" "Ljava/util/function/BiFunction;" (zA n0) s H
def zExt (n0 : Nat) (q : Nat → Nat) (X : zSc) (s : State) (H : Heap) : Prop := va_X (q 2) X.1 X.2 s H ∧ q 2 < n0 ∧ zStr n0 q s H
def zCx (D : va_G) (kA : Nat → ClassId) (n0 : Nat) (q : Nat → Nat) (X : zSc) (m0 : zMt) (p : Program) (R : Room) (s : State) (m : MethodId) (args : Array Value) (meth : Method) (c : Code) : Prop :=
  p.tables.exec = Jvm.exec ∧ c.code = zb m0 ∧ c.maxLocals = zmx m0 ∧ s.vm.findClass (zcn (zow m0)) = some m.cls ∧ (∀ w ∈ lw_tbl, w.before args s = true) ∧ meth.name = (zy m0).name ∧ va_K D vwCl (ztys kA) s ∧ n0 ≤ s.heap.size ∧ zExt n0 q X s s.heap ∧ zlv m0 + 1 ≤ R.frames ∧ zlo (zlv m0) ≤ R.locals ∧ (zcd m0).all (fun p => p.2.all (zgo1 m0)) = true
def zWs (D : va_G) (kA : Nat → ClassId) (n0 : Nat) (q : Nat → Nat) (m0 : zMt) (p : Program) (l : Launch) (e : Env) (R : Room) (s : State) (m : MethodId) (args : Array Value) (below : List Frame) (meth : Method) (c : Code) (Q : State → Prop) (len0 sz0 : Nat) (pc : Nat) (ls st : List Value) (M : zM) : Prop :=
  ∀ (H : Heap) (locs : List Loc) (lsM : Array Slot), zW D kA n0 q M H → va_S (zA n0) s.heap H locs → zLoc n0 q (zmx m0) ls lsM → W p l e R s m args below meth c H locs (M.1.length - len0) (zsize M.1 - sz0) Q (F0 m pc lsM (st.map (zren n0 q)))
theorem zcat_eq (n0 : Nat) (q : Nat → Nat) : ∀ l : List Value, ((l.map (zren n0 q)).map fun v => v.category).sum = zcat l
  | [] => rfl
  | v :: l => by
    have ih := zcat_eq n0 q l
    rw [List.map_cons, List.map_cons, List.sum_cons, ih]
    cases v <;> simp only [zren, Value.category, zcat] <;> omega
theorem zt_ok {pc t : Nat} {off : Int} (h : zt pc off = some t) : (pc : Int) + off = (t : Int) := by
  unfold zt at h
  split at h
  · next n => cases h; simp
  · next n =>
    cases e : Nat.ble (n + 1) pc with
    | true =>
      rw [e] at h
      have := Nat.le_of_ble_eq_true e
      simp at h
      omega
    | false => rw [e] at h; cases h
theorem zF_ok {own idx ci k pl : Nat} (h : zlkF own idx = some (ci, k, pl)) : ∃ (C : String) (T : u_T) (N : Nat), zgt vwCl ci = some (C, T, N) ∧ k < N ∧ Cond.fieldLink (zcn own) idx C (T k).2.1 (T k).2.2.1 ∈ lw_tbl ∧ C = (T k).1 := by
  have hw := zlk_all (t := zlkFT) zF_all h
  unfold zFc at hw
  split at hw
  · next C T N hC =>
    simp only [Bool.and_eq_true, decide_eq_true_eq] at hw
    exact ⟨C, T, N, hC, Nat.le_of_ble_eq_true hw.1, List.mem_of_getElem? hw.2.1, hw.2.2⟩
  · cases hw
theorem zin_all : (vwCl.all fun r => (u_ws r.1 r.2.1 r.2.2).all fun w => decide (w ∈ lw_tbl)) = true := by decide +kernel
theorem zin_ok {ci : Nat} {C : String} {T : u_T} {N : Nat} (h : zgt vwCl ci = some (C, T, N)) : ∀ w ∈ u_ws C T N, w ∈ lw_tbl := by
  intro w hw
  rw [zgt_eq] at h
  have h1 := List.all_eq_true.mp zin_all _ (List.mem_of_getElem? h)
  exact of_decide_eq_true (List.all_eq_true.mp h1 w hw)
section ZS
variable {D : va_G} {kA : Nat → ClassId} {n0 : Nat} {q : Nat → Nat} {X : zSc} {m0 : zMt} {p : Program} {l : Launch} {e : Env} {R : Room} {s : State} {m : MethodId} {args : Array Value} {below : List Frame} {meth : Method} {c : Code} {Q : State → Prop} {len0 sz0 : Nat}
variable {pc pc' : Nat} {ls ls' st st' : List Value} {M M' : zM}
theorem zs_pure (row : ∀ (H : Heap) (locs : List Loc) (lsM : Array Slot), zLoc n0 q (zmx m0) ls lsM → W p l e R s m args below meth c H locs (M.1.length - len0) (zsize M.1 - sz0) Q (F0 m pc' lsM (st'.map (zren n0 q))) → W p l e R s m args below meth c H locs (M.1.length - len0) (zsize M.1 - sz0) Q (F0 m pc lsM (st.map (zren n0 q)))) (K : zWs D kA n0 q m0 p l e R s m args below meth c Q len0 sz0 pc' ls st' M) : zWs D kA n0 q m0 p l e R s m args below meth c Q len0 sz0 pc ls st M := fun H locs lsM hW hS hl => row H locs lsM hl (K H locs lsM hW hS hl)
theorem zs_if {x y : Int32} {t f : Nat} {cd : ClassFile.Cond} (K : zWs D kA n0 q m0 p l e R s m args below meth c Q len0 sz0 (zbr cd x y t f) ls st M) {H : Heap} {locs : List Loc} {lsM : Array Slot} (hW : zW D kA n0 q M H) (hS : va_S (zA n0) s.heap H locs) (hl : zLoc n0 q (zmx m0) ls lsM) (t' : Nat) (h : zbr cd x y t f = t') : W p l e R s m args below meth c H locs (M.1.length - len0) (zsize M.1 - sz0) Q (F0 m t' lsM (st.map (zren n0 q))) := by
  subst h
  exact K H locs lsM hW hS hl
theorem zcl_at {ci : Nat} {r : vw_C} (h : zgt vwCl ci = some r) : vwCl[ci]? = some r := by rw [← zgt_eq]; exact h
theorem zs_getfield (C : zCx D kA n0 q X m0 p R s m args meth c) {a : Nat} (hdec : decode (zb m0) pc = .ok (.getfield a, 3)) (hio : zio m0 (.getfield a) = true) (hz : zx X m0 pc ls st M 3 (.getfield a) = some (.inl (pc', ls', st', M'))) (hpc : pc' ≠ 65535) (h0 : len0 ≤ M.1.length ∧ sz0 ≤ zsize M.1) (hR : M'.1.length - len0 ≤ R.cells ∧ zsize M'.1 - sz0 ≤ R.slots) (K : zWs D kA n0 q m0 p l e R s m args below meth c Q len0 sz0 pc' ls' st' M') : zWs D kA n0 q m0 p l e R s m args below meth c Q len0 sz0 pc ls st M := by
  obtain ⟨hx, hb, hml, hown, hts, hnm, hK, hn0, hE, hfr, hlo, -⟩ := id C
  replace hz : zgetf (zow m0) a (pc + 3) ls st M = _ := hz
  unfold zgetf at hz
  split at hz
  · next o r =>
    split at hz
    · next ci k pl hlk =>
      split at hz
      · next cj fs hS0 =>
        cases hb2 : Nat.beq ci cj with
        | false => rw [hb2] at hz; cases hz
        | true =>
          rw [hb2] at hz
          have hcj := Nat.eq_of_beq_eq_true hb2
          subst hcj
          replace hz : (match zgt fs k with | some kd => zn (pc + 3) ls (zval M.2.1 M.2.2 o k kd :: r) M | none => none) = _ := hz
          split at hz
          · next kd hkd =>
            unfold zn at hz; cases hz
            obtain ⟨C1, T, N, hC, hk, hw, hcls⟩ := zF_ok hlk
            intro H locs lsM hW hS hl
            refine va_get (D := D) (ci := ci) (C := C1) (T := T) (N := N) (ref := (T k).1) hx hb hts (zin_ok hC) hown hK hW.2 o (zwd_get hS0) (zcl_at hC) k hk (by rw [← hcls]; exact hts _ hw) (fun _ h => h) (v := zren n0 q (zval M.2.1 M.2.2 o k kd)) ?_ hdec (K H locs lsM hW hS hl)
            rw [zgt_eq] at hkd
            simp [zfs, List.getElem?_mapIdx, hkd]
          · cases hz
      · cases hz
    · cases hz
  · cases hz
theorem zs_iaload (C : zCx D kA n0 q X m0 p R s m args meth c) (hdec : decode (zb m0) pc = .ok (.iaload, 1)) (hz : zx X m0 pc ls st M 1 (.iaload) = some (.inl (pc', ls', st', M'))) (hpc : pc' ≠ 65535) (h0 : len0 ≤ M.1.length ∧ sz0 ≤ zsize M.1) (hR : M'.1.length - len0 ≤ R.cells ∧ zsize M'.1 - sz0 ≤ R.slots) (K : zWs D kA n0 q m0 p l e R s m args below meth c Q len0 sz0 pc' ls' st' M') : zWs D kA n0 q m0 p l e R s m args below meth c Q len0 sz0 pc ls st M := by
  obtain ⟨hx, hb, hml, hown, hts, hnm, hK, hn0, hE, hfr, hlo, -⟩ := id C
  replace hz : zild X (pc + 1) ls st M = _ := hz
  unfold zild at hz
  split at hz
  · next i o r =>
    split at hz
    · next nn hS0 =>
      unfold zn at hz; cases hz
      split at hpc
      · exact absurd rfl hpc
      · next hy =>
        rw [if_neg hy] at K
        intro H locs lsM hW hS hl
        exact va_iald (n := nn) (f := M.2.1 o) hx hb hK hW.2 o 0 (zwd_get hS0) rfl hy hdec (K H locs lsM hW hS hl)
    · cases hz
  · next i r =>
    unfold zn at hz; cases hz
    split at hpc
    · exact absurd rfl hpc
    · next hy =>
      rw [if_neg hy] at K
      intro H locs lsM hW hS hl
      exact va_sld (A := zA n0) hx hb hE.1 (Nat.lt_of_lt_of_le hE.2.1 hn0) (Nat.not_le.mpr hE.2.1) hS hy hdec (K H locs lsM hW hS hl)
  · cases hz
theorem zs_laload (C : zCx D kA n0 q X m0 p R s m args meth c) (hdec : decode (zb m0) pc = .ok (.laload, 1)) (hz : zx X m0 pc ls st M 1 (.laload) = some (.inl (pc', ls', st', M'))) (hpc : pc' ≠ 65535) (h0 : len0 ≤ M.1.length ∧ sz0 ≤ zsize M.1) (hR : M'.1.length - len0 ≤ R.cells ∧ zsize M'.1 - sz0 ≤ R.slots) (K : zWs D kA n0 q m0 p l e R s m args below meth c Q len0 sz0 pc' ls' st' M') : zWs D kA n0 q m0 p l e R s m args below meth c Q len0 sz0 pc ls st M := by
  obtain ⟨hx, hb, hml, hown, hts, hnm, hK, hn0, hE, hfr, hlo, -⟩ := id C
  replace hz : zlld (pc + 1) ls st M = _ := hz
  unfold zlld at hz
  split at hz
  · next i o r =>
    split at hz
    · next nn hS0 =>
      unfold zn at hz; cases hz
      split at hpc
      · exact absurd rfl hpc
      · next hy =>
        rw [if_neg hy] at K
        intro H locs lsM hW hS hl
        exact va_lald (n := nn) (f := M.2.2 o) hx hb hK hW.2 o 1 (zwd_get hS0) rfl hy hdec (K H locs lsM hW hS hl)
    · cases hz
  · cases hz
theorem zs_baload (C : zCx D kA n0 q X m0 p R s m args meth c) (hdec : decode (zb m0) pc = .ok (.baload, 1)) (hz : zx X m0 pc ls st M 1 (.baload) = some (.inl (pc', ls', st', M'))) (hpc : pc' ≠ 65535) (h0 : len0 ≤ M.1.length ∧ sz0 ≤ zsize M.1) (hR : M'.1.length - len0 ≤ R.cells ∧ zsize M'.1 - sz0 ≤ R.slots) (K : zWs D kA n0 q m0 p l e R s m args below meth c Q len0 sz0 pc' ls' st' M') : zWs D kA n0 q m0 p l e R s m args below meth c Q len0 sz0 pc ls st M := by
  obtain ⟨hx, hb, hml, hown, hts, hnm, hK, hn0, hE, hfr, hlo, -⟩ := id C
  replace hz : zbld (pc + 1) ls st M = _ := hz
  unfold zbld at hz
  split at hz
  · next i o r =>
    split at hz
    · next nn hS0 =>
      unfold zn at hz; cases hz
      split at hpc
      · exact absurd rfl hpc
      · next hy =>
        rw [if_neg hy] at K
        intro H locs lsM hW hS hl
        exact va_bald (n := nn) (f := M.2.1 o) hx hb hK hW.2 o 2 (zwd_get hS0) rfl hy hdec (K H locs lsM hW hS hl)
    · next nn hS0 =>
      unfold zn at hz; cases hz
      split at hpc
      · exact absurd rfl hpc
      · next hy =>
        rw [if_neg hy] at K
        intro H locs lsM hW hS hl
        exact va_zald (n := nn) (f := M.2.1 o) hx hb hK hW.2 o 3 (zwd_get hS0) rfl hy hdec (K H locs lsM hW hS hl)
    · cases hz
  · cases hz
theorem zs_iastore (C : zCx D kA n0 q X m0 p R s m args meth c) (hdec : decode (zb m0) pc = .ok (.iastore, 1)) (hz : zx X m0 pc ls st M 1 (.iastore) = some (.inl (pc', ls', st', M'))) (hpc : pc' ≠ 65535) (h0 : len0 ≤ M.1.length ∧ sz0 ≤ zsize M.1) (hR : M'.1.length - len0 ≤ R.cells ∧ zsize M'.1 - sz0 ≤ R.slots) (K : zWs D kA n0 q m0 p l e R s m args below meth c Q len0 sz0 pc' ls' st' M') : zWs D kA n0 q m0 p l e R s m args below meth c Q len0 sz0 pc ls st M := by
  obtain ⟨hx, hb, hml, hown, hts, hnm, hK, hn0, hE, hfr, hlo, -⟩ := id C
  replace hz : zias (pc + 1) ls st M = _ := hz
  unfold zias at hz
  split at hz
  · next x i o r =>
    split at hz
    · next nn hS0 =>
      unfold zn at hz; cases hz
      split at hpc
      · exact absurd rfl hpc
      · next hy =>
        rw [if_neg hy] at K
        intro H locs lsM hW hS hl
        refine zr_iast hx hb hK hW.2 (zwd_D kA n0 q M) hS o 0 (zwd_get hS0) rfl hy hdec (fun H1 locs1 z hP1 hS1 => ?_)
        refine K H1 locs1 lsM ⟨z.trans hW.1, ?_⟩ hS1 hl
        rw [zwd_set (M := M) (M' := (M.1, va_up M.2.1 o (upd (M.2.1 o) i.toNatClampNeg x), M.2.2)) (a := o) (s' := .inl (0, nn)) rfl hS0 (fun _ _ => rfl) (fun j hj => va_up_ne _ _ hj) (fun _ _ => rfl)]
        simp only [zce, va_up_self]
        exact hP1
    · cases hz
  · cases hz
theorem zs_lastore (C : zCx D kA n0 q X m0 p R s m args meth c) (hdec : decode (zb m0) pc = .ok (.lastore, 1)) (hz : zx X m0 pc ls st M 1 (.lastore) = some (.inl (pc', ls', st', M'))) (hpc : pc' ≠ 65535) (h0 : len0 ≤ M.1.length ∧ sz0 ≤ zsize M.1) (hR : M'.1.length - len0 ≤ R.cells ∧ zsize M'.1 - sz0 ≤ R.slots) (K : zWs D kA n0 q m0 p l e R s m args below meth c Q len0 sz0 pc' ls' st' M') : zWs D kA n0 q m0 p l e R s m args below meth c Q len0 sz0 pc ls st M := by
  obtain ⟨hx, hb, hml, hown, hts, hnm, hK, hn0, hE, hfr, hlo, -⟩ := id C
  replace hz : zlas (pc + 1) ls st M = _ := hz
  unfold zlas at hz
  split at hz
  · next x i o r =>
    split at hz
    · next nn hS0 =>
      unfold zn at hz; cases hz
      split at hpc
      · exact absurd rfl hpc
      · next hy =>
        rw [if_neg hy] at K
        intro H locs lsM hW hS hl
        refine zr_last hx hb hK hW.2 (zwd_D kA n0 q M) hS o 1 (zwd_get hS0) rfl hy hdec (fun H1 locs1 z hP1 hS1 => ?_)
        refine K H1 locs1 lsM ⟨z.trans hW.1, ?_⟩ hS1 hl
        rw [zwd_set (M := M) (M' := (M.1, M.2.1, va_up M.2.2 o (vp_updL (M.2.2 o) i.toNatClampNeg x))) (a := o) (s' := .inl (1, nn)) rfl hS0 (fun _ _ => rfl) (fun _ _ => rfl) (fun j hj => va_up_ne _ _ hj)]
        simp only [zce, va_up_self]
        exact hP1
    · cases hz
  · cases hz
theorem zs_bastore (C : zCx D kA n0 q X m0 p R s m args meth c) (hdec : decode (zb m0) pc = .ok (.bastore, 1)) (hz : zx X m0 pc ls st M 1 (.bastore) = some (.inl (pc', ls', st', M'))) (hpc : pc' ≠ 65535) (h0 : len0 ≤ M.1.length ∧ sz0 ≤ zsize M.1) (hR : M'.1.length - len0 ≤ R.cells ∧ zsize M'.1 - sz0 ≤ R.slots) (K : zWs D kA n0 q m0 p l e R s m args below meth c Q len0 sz0 pc' ls' st' M') : zWs D kA n0 q m0 p l e R s m args below meth c Q len0 sz0 pc ls st M := by
  obtain ⟨hx, hb, hml, hown, hts, hnm, hK, hn0, hE, hfr, hlo, -⟩ := id C
  replace hz : zbas (pc + 1) ls st M = _ := hz
  unfold zbas at hz
  split at hz
  · next x i o r =>
    split at hz
    · next nn hS0 =>
      unfold zn at hz; cases hz
      split at hpc
      · exact absurd rfl hpc
      · next hy =>
        rw [if_neg hy] at K
        intro H locs lsM hW hS hl
        refine zr_bast hx hb hK hW.2 (zwd_D kA n0 q M) hS o 2 (zwd_get hS0) rfl hy hdec (fun H1 locs1 z hP1 hS1 => ?_)
        refine K H1 locs1 lsM ⟨z.trans hW.1, ?_⟩ hS1 hl
        rw [zwd_set (M := M) (M' := (M.1, va_up M.2.1 o (upd (M.2.1 o) i.toNatClampNeg (vp_nar .byte x)), M.2.2)) (a := o) (s' := .inl (2, nn)) rfl hS0 (fun _ _ => rfl) (fun j hj => va_up_ne _ _ hj) (fun _ _ => rfl)]
        simp only [zce, va_up_self]
        exact hP1
    · next nn hS0 =>
      unfold zn at hz; cases hz
      split at hpc
      · exact absurd rfl hpc
      · next hy =>
        rw [if_neg hy] at K
        intro H locs lsM hW hS hl
        refine zr_zast hx hb hK hW.2 (zwd_D kA n0 q M) hS o 3 (zwd_get hS0) rfl hy hdec (fun H1 locs1 z hP1 hS1 => ?_)
        refine K H1 locs1 lsM ⟨z.trans hW.1, ?_⟩ hS1 hl
        rw [zwd_set (M := M) (M' := (M.1, va_up M.2.1 o (upd (M.2.1 o) i.toNatClampNeg (vp_nar .boolean x)), M.2.2)) (a := o) (s' := .inl (3, nn)) rfl hS0 (fun _ _ => rfl) (fun j hj => va_up_ne _ _ hj) (fun _ _ => rfl)]
        simp only [zce, va_up_self]
        exact hP1
    · cases hz
  · cases hz
theorem zs_arraylength (C : zCx D kA n0 q X m0 p R s m args meth c) (hdec : decode (zb m0) pc = .ok (.arraylength, 1)) (hz : zx X m0 pc ls st M 1 (.arraylength) = some (.inl (pc', ls', st', M'))) (hpc : pc' ≠ 65535) (h0 : len0 ≤ M.1.length ∧ sz0 ≤ zsize M.1) (hR : M'.1.length - len0 ≤ R.cells ∧ zsize M'.1 - sz0 ≤ R.slots) (K : zWs D kA n0 q m0 p l e R s m args below meth c Q len0 sz0 pc' ls' st' M') : zWs D kA n0 q m0 p l e R s m args below meth c Q len0 sz0 pc ls st M := by
  obtain ⟨hx, hb, hml, hown, hts, hnm, hK, hn0, hE, hfr, hlo, -⟩ := id C
  replace hz : zlen X (pc + 1) ls st M = _ := hz
  unfold zlen at hz
  split at hz
  · next r =>
    unfold zn at hz; cases hz
    intro H locs lsM hW hS hl
    exact va_slen (A := zA n0) hx hb hE.1 (Nat.lt_of_lt_of_le hE.2.1 hn0) (Nat.not_le.mpr hE.2.1) hS hdec (K H locs lsM hW hS hl)
  · cases hz
theorem zs_putfield (C : zCx D kA n0 q X m0 p R s m args meth c) {a : Nat} (hdec : decode (zb m0) pc = .ok (.putfield a, 3)) (hio : zio m0 (.putfield a) = true) (hz : zx X m0 pc ls st M 3 (.putfield a) = some (.inl (pc', ls', st', M'))) (hpc : pc' ≠ 65535) (h0 : len0 ≤ M.1.length ∧ sz0 ≤ zsize M.1) (hR : M'.1.length - len0 ≤ R.cells ∧ zsize M'.1 - sz0 ≤ R.slots) (K : zWs D kA n0 q m0 p l e R s m args below meth c Q len0 sz0 pc' ls' st' M') : zWs D kA n0 q m0 p l e R s m args below meth c Q len0 sz0 pc ls st M := by
  obtain ⟨hx, hb, hml, hown, hts, hnm, hK, hn0, hE, hfr, hlo, -⟩ := id C
  sorry
theorem zs_new (C : zCx D kA n0 q X m0 p R s m args meth c) {a : Nat} (hdec : decode (zb m0) pc = .ok (.new a, 3)) (hio : zio m0 (.new a) = true) (hz : zx X m0 pc ls st M 3 (.new a) = some (.inl (pc', ls', st', M'))) (hpc : pc' ≠ 65535) (h0 : len0 ≤ M.1.length ∧ sz0 ≤ zsize M.1) (hR : M'.1.length - len0 ≤ R.cells ∧ zsize M'.1 - sz0 ≤ R.slots) (K : zWs D kA n0 q m0 p l e R s m args below meth c Q len0 sz0 pc' ls' st' M') : zWs D kA n0 q m0 p l e R s m args below meth c Q len0 sz0 pc ls st M := by
  obtain ⟨hx, hb, hml, hown, hts, hnm, hK, hn0, hE, hfr, hlo, -⟩ := id C
  sorry
theorem zs_invokevirtual (C : zCx D kA n0 q X m0 p R s m args meth c) {a : Nat} (hdec : decode (zb m0) pc = .ok (.invokevirtual a, 3)) (hio : zio m0 (.invokevirtual a) = true) (hz : zx X m0 pc ls st M 3 (.invokevirtual a) = some (.inl (pc', ls', st', M'))) (hpc : pc' ≠ 65535) (h0 : len0 ≤ M.1.length ∧ sz0 ≤ zsize M.1) (hR : M'.1.length - len0 ≤ R.cells ∧ zsize M'.1 - sz0 ≤ R.slots) (K : zWs D kA n0 q m0 p l e R s m args below meth c Q len0 sz0 pc' ls' st' M') : zWs D kA n0 q m0 p l e R s m args below meth c Q len0 sz0 pc ls st M := by
  obtain ⟨hx, hb, hml, hown, hts, hnm, hK, hn0, hE, hfr, hlo, -⟩ := id C
  sorry
theorem zs_invokestatic (C : zCx D kA n0 q X m0 p R s m args meth c) {a : Nat} (hdec : decode (zb m0) pc = .ok (.invokestatic a, 3)) (hio : zio m0 (.invokestatic a) = true) (hz : zx X m0 pc ls st M 3 (.invokestatic a) = some (.inl (pc', ls', st', M'))) (hpc : pc' ≠ 65535) (h0 : len0 ≤ M.1.length ∧ sz0 ≤ zsize M.1) (hR : M'.1.length - len0 ≤ R.cells ∧ zsize M'.1 - sz0 ≤ R.slots) (K : zWs D kA n0 q m0 p l e R s m args below meth c Q len0 sz0 pc' ls' st' M') : zWs D kA n0 q m0 p l e R s m args below meth c Q len0 sz0 pc ls st M := by
  obtain ⟨hx, hb, hml, hown, hts, hnm, hK, hn0, hE, hfr, hlo, -⟩ := id C
  sorry
theorem zs_invokespecial (C : zCx D kA n0 q X m0 p R s m args meth c) {a : Nat} (hdec : decode (zb m0) pc = .ok (.invokespecial a, 3)) (hio : zio m0 (.invokespecial a) = true) (hz : zx X m0 pc ls st M 3 (.invokespecial a) = some (.inl (pc', ls', st', M'))) (hpc : pc' ≠ 65535) (h0 : len0 ≤ M.1.length ∧ sz0 ≤ zsize M.1) (hR : M'.1.length - len0 ≤ R.cells ∧ zsize M'.1 - sz0 ≤ R.slots) (K : zWs D kA n0 q m0 p l e R s m args below meth c Q len0 sz0 pc' ls' st' M') : zWs D kA n0 q m0 p l e R s m args below meth c Q len0 sz0 pc ls st M := by
  obtain ⟨hx, hb, hml, hown, hts, hnm, hK, hn0, hE, hfr, hlo, -⟩ := id C
  sorry
theorem zs_newarray (C : zCx D kA n0 q X m0 p R s m args meth c) {a : ArrayType} (hdec : decode (zb m0) pc = .ok (.newarray a, 2)) (hz : zx X m0 pc ls st M 2 (.newarray a) = some (.inl (pc', ls', st', M'))) (hpc : pc' ≠ 65535) (h0 : len0 ≤ M.1.length ∧ sz0 ≤ zsize M.1) (hR : M'.1.length - len0 ≤ R.cells ∧ zsize M'.1 - sz0 ≤ R.slots) (K : zWs D kA n0 q m0 p l e R s m args below meth c Q len0 sz0 pc' ls' st' M') : zWs D kA n0 q m0 p l e R s m args below meth c Q len0 sz0 pc ls st M := by
  obtain ⟨hx, hb, hml, hown, hts, hnm, hK, hn0, hE, hfr, hlo, -⟩ := id C
  sorry
set_option maxHeartbeats 4000000 in
set_option maxRecDepth 100000 in
theorem zs_one (C : zCx D kA n0 q X m0 p R s m args meth c) {i : Instr} {n : Nat} (hd : zgo1 m0 (pc, i, n) = true) (hz : zx X m0 pc ls st M n i = some (.inl (pc', ls', st', M'))) (hpc : pc' ≠ 65535) (h0 : len0 ≤ M.1.length ∧ sz0 ≤ zsize M.1) (hR : M'.1.length - len0 ≤ R.cells ∧ zsize M'.1 - sz0 ≤ R.slots) (K : zWs D kA n0 q m0 p l e R s m args below meth c Q len0 sz0 pc' ls' st' M') : zWs D kA n0 q m0 p l e R s m args below meth c Q len0 sz0 pc ls st M := by
  obtain ⟨hx, hb, hml, hown, hts, hnm, hK, hn0, hE, hfr, hlo, -⟩ := id C
  simp only [zgo1, Bool.and_eq_true, decide_eq_true_eq] at hd
  obtain ⟨hdec, hlen, hio, -⟩ := hd
  cases i with
  | iconst a =>
    have hn : 1 = n := Nat.eq_of_beq_eq_true hlen
    subst hn
    have hv := of_decide_eq_true hio
    replace hz : zn (pc + 1) ls (.int (zic a) :: st) M = _ := hz
    unfold zn at hz; cases hz
    exact zs_pure (fun H locs lsM hl k => lv_iconst hx hb hdec hv k) K
  | bipush a =>
    have hn : 2 = n := Nat.eq_of_beq_eq_true hlen
    subst hn
    have hv := of_decide_eq_true hio
    replace hz : zn (pc + 2) ls (.int (zic a) :: st) M = _ := hz
    unfold zn at hz; cases hz
    exact zs_pure (fun H locs lsM hl k => lv_bipush hx hb hdec hv k) K
  | sipush a =>
    have hn : 3 = n := Nat.eq_of_beq_eq_true hlen
    subst hn
    have hv := of_decide_eq_true hio
    replace hz : zn (pc + 3) ls (.int (zic a) :: st) M = _ := hz
    unfold zn at hz; cases hz
    exact zs_pure (fun H locs lsM hl k => lv_sipush hx hb hdec hv k) K
  | lconst a =>
    have hn : 1 = n := Nat.eq_of_beq_eq_true hlen
    subst hn
    replace hz : zn (pc + 1) ls (.long (Int64.ofNat (a : Nat)) :: st) M = _ := hz
    unfold zn at hz; cases hz
    exact zs_pure (fun H locs lsM hl k => lv_lconst hx hb hdec rfl k) K
  | dconst a =>
    have hn : 1 = n := Nat.eq_of_beq_eq_true hlen
    subst hn
    match a, hz, hdec with
    | 0, hz, hdec =>
      replace hz : zn (pc + 1) ls (.double FP.dconst0 :: st) M = _ := hz
      unfold zn at hz; cases hz
      exact zs_pure (fun H locs lsM hl k => lv_dconst0 hx hb hdec k) K
    | 1, hz, hdec =>
      replace hz : zn (pc + 1) ls (.double FP.dconst1 :: st) M = _ := hz
      unfold zn at hz; cases hz
      exact zs_pure (fun H locs lsM hl k => lv_dconst1 hx hb hdec k) K
  | aconst_null =>
    have hn : 1 = n := Nat.eq_of_beq_eq_true hlen
    subst hn
    replace hz : zn (pc + 1) ls (.null :: st) M = _ := hz
    unfold zn at hz; cases hz
    exact zs_pure (fun H locs lsM hl k => lv_null hx hb hdec k) K
  | ldc a =>
    have hn : 2 = n := Nat.eq_of_beq_eq_true hlen
    subst hn
    simp only [zx] at hz
    split at hz
    · next v pl hv =>
      have hw := zlk_all zI_all hv
      simp only [zIc, decide_eq_true_eq] at hw
      unfold zn at hz; cases hz
      exact zs_pure (fun H locs lsM hl k => lv_ldc hx hb hown (hts _ (List.mem_of_getElem? hw)) hdec k) K
    · split at hz
      · next k hv =>
        have hw := hE.2.2.1 _ _ _ hv
        unfold zn at hz; cases hz
        exact zs_pure (fun H locs lsM hl k => va_ldcS hx hb hown hw hdec k) K
      · cases hz
  | ldc2_w a =>
    have hn : 3 = n := Nat.eq_of_beq_eq_true hlen
    subst hn
    simp only [zx] at hz
    split at hz
    · next v pl hv =>
      have hw := zlk_all zJ_all hv
      simp only [zJc, decide_eq_true_eq] at hw
      unfold zn at hz; cases hz
      exact zs_pure (fun H locs lsM hl k => lv_ldc2 hx hb hown (hts _ (List.mem_of_getElem? hw)) hdec k) K
    · split at hz
      · next v pl hv =>
        have hw := zlk_all zD_all hv
        simp only [zDc, decide_eq_true_eq] at hw
        unfold zn at hz; cases hz
        exact zs_pure (fun H locs lsM hl k => lv_ldc2d hx hb hown (hts _ (List.mem_of_getElem? hw)) hdec k) K
      · cases hz
  | iload a =>
    have hn : 2 = n := Nat.eq_of_beq_eq_true hlen
    subst hn
    replace hz : zli a (pc + 2) ls st M = _ := hz
    unfold zli at hz
    split at hz
    · next x hv => unfold zn at hz; cases hz; exact zs_pure (fun H locs lsM hl k => lv_iload hx hb hdec (hl.at hv (by simp)) k) K
    · cases hz
  | iload_n a =>
    have hn : 1 = n := Nat.eq_of_beq_eq_true hlen
    subst hn
    replace hz : zli a (pc + 1) ls st M = _ := hz
    unfold zli at hz
    split at hz
    · next x hv => unfold zn at hz; cases hz; exact zs_pure (fun H locs lsM hl k => lv_iload_n hx hb hdec rfl (hl.at hv (by simp)) k) K
    · cases hz
  | lload a =>
    have hn : 2 = n := Nat.eq_of_beq_eq_true hlen
    subst hn
    replace hz : zll a (pc + 2) ls st M = _ := hz
    unfold zll at hz
    split at hz
    · next x hv => unfold zn at hz; cases hz; exact zs_pure (fun H locs lsM hl k => lv_lload hx hb hdec (hl.at hv (by simp)) k) K
    · cases hz
  | lload_n a =>
    have hn : 1 = n := Nat.eq_of_beq_eq_true hlen
    subst hn
    replace hz : zll a (pc + 1) ls st M = _ := hz
    unfold zll at hz
    split at hz
    · next x hv => unfold zn at hz; cases hz; exact zs_pure (fun H locs lsM hl k => lv_lload_n hx hb hdec rfl (hl.at hv (by simp)) k) K
    · cases hz
  | dload a =>
    have hn : 2 = n := Nat.eq_of_beq_eq_true hlen
    subst hn
    replace hz : zldd a (pc + 2) ls st M = _ := hz
    unfold zldd at hz
    split at hz
    · next x hv => unfold zn at hz; cases hz; exact zs_pure (fun H locs lsM hl k => lv_dload hx hb hdec (hl.at hv (by simp)) k) K
    · cases hz
  | dload_n a =>
    have hn : 1 = n := Nat.eq_of_beq_eq_true hlen
    subst hn
    replace hz : zldd a (pc + 1) ls st M = _ := hz
    unfold zldd at hz
    split at hz
    · next x hv => unfold zn at hz; cases hz; exact zs_pure (fun H locs lsM hl k => lv_dload_n hx hb hdec rfl (hl.at hv (by simp)) k) K
    · cases hz
  | fload_n a =>
    have hn : 1 = n := Nat.eq_of_beq_eq_true hlen
    subst hn
    replace hz : zlf a (pc + 1) ls st M = _ := hz
    unfold zlf at hz
    split at hz
    · next x hv => unfold zn at hz; cases hz; exact zs_pure (fun H locs lsM hl k => lv_fload_n hx hb hdec rfl (hl.at hv (by simp)) k) K
    · cases hz
  | aload a =>
    have hn : 2 = n := Nat.eq_of_beq_eq_true hlen
    subst hn
    replace hz : zla a (pc + 2) ls st M = _ := hz
    unfold zla at hz
    split at hz
    · next x hv => unfold zn at hz; cases hz; exact zs_pure (fun H locs lsM hl k => lv_aload hx hb hdec (hl.at hv (by simp)) k) K
    · next x hv => unfold zn at hz; cases hz; exact zs_pure (fun H locs lsM hl k => lv_aload hx hb hdec (hl.at hv (by simp)) k) K
    · cases hz
  | aload_n a =>
    have hn : 1 = n := Nat.eq_of_beq_eq_true hlen
    subst hn
    replace hz : zla a (pc + 1) ls st M = _ := hz
    unfold zla at hz
    split at hz
    · next x hv => unfold zn at hz; cases hz; exact zs_pure (fun H locs lsM hl k => lv_aload_n hx hb hdec rfl (hl.at hv (by simp)) k) K
    · next x hv => unfold zn at hz; cases hz; exact zs_pure (fun H locs lsM hl k => lv_aload_n hx hb hdec rfl (hl.at hv (by simp)) k) K
    · cases hz
  | istore a =>
    have hn : 2 = n := Nat.eq_of_beq_eq_true hlen
    subst hn
    replace hz : zisto a (pc + 2) ls st M = _ := hz
    unfold zisto at hz
    split at hz
    · next x r =>
      unfold zs1 at hz
      cases hlt : Nat.blt ((a : Nat)) ls.length with
      | false => rw [hlt] at hz; cases hz
      | true =>
        rw [hlt] at hz
        replace hlt := Nat.le_of_ble_eq_true hlt
        replace hz : zn _ _ _ _ = _ := hz
        unfold zn at hz; cases hz
        intro H locs lsM hW hS hl
        refine lv_istore hx hb hdec hl.2 (by rw [← hl.1]; exact hlt) rfl (fun lsM' hl' => ?_)
        exact K H locs lsM' hW hS (zLoc.sto1 hl.1 (by rw [← hl.1]; exact hlt) hl')
    · cases hz
  | istore_n a =>
    have hn : 1 = n := Nat.eq_of_beq_eq_true hlen
    subst hn
    replace hz : zisto a (pc + 1) ls st M = _ := hz
    unfold zisto at hz
    split at hz
    · next x r =>
      unfold zs1 at hz
      cases hlt : Nat.blt ((a : Nat)) ls.length with
      | false => rw [hlt] at hz; cases hz
      | true =>
        rw [hlt] at hz
        replace hlt := Nat.le_of_ble_eq_true hlt
        replace hz : zn _ _ _ _ = _ := hz
        unfold zn at hz; cases hz
        intro H locs lsM hW hS hl
        refine lv_istore_n hx hb hdec rfl hl.2 (by rw [← hl.1]; exact hlt) rfl (fun lsM' hl' => ?_)
        exact K H locs lsM' hW hS (zLoc.sto1 hl.1 (by rw [← hl.1]; exact hlt) hl')
    · cases hz
  | lstore a =>
    have hn : 2 = n := Nat.eq_of_beq_eq_true hlen
    subst hn
    replace hz : zlsto a (pc + 2) ls st M = _ := hz
    unfold zlsto at hz
    split at hz
    · next x r =>
      unfold zs2 at hz
      cases hlt : Nat.blt ((a : Nat) + 1) ls.length with
      | false => rw [hlt] at hz; cases hz
      | true =>
        rw [hlt] at hz
        replace hlt := Nat.le_of_ble_eq_true hlt
        replace hz : zn _ _ _ _ = _ := hz
        unfold zn at hz; cases hz
        intro H locs lsM hW hS hl
        refine lv_lstore hx hb hdec hl.2 (by rw [← hl.1]; exact hlt) rfl (fun lsM' hl' => ?_)
        exact K H locs lsM' hW hS (zLoc.sto2 hl.1 (by rw [← hl.1]; exact hlt) hl')
    · cases hz
  | lstore_n a =>
    have hn : 1 = n := Nat.eq_of_beq_eq_true hlen
    subst hn
    replace hz : zlsto a (pc + 1) ls st M = _ := hz
    unfold zlsto at hz
    split at hz
    · next x r =>
      unfold zs2 at hz
      cases hlt : Nat.blt ((a : Nat) + 1) ls.length with
      | false => rw [hlt] at hz; cases hz
      | true =>
        rw [hlt] at hz
        replace hlt := Nat.le_of_ble_eq_true hlt
        replace hz : zn _ _ _ _ = _ := hz
        unfold zn at hz; cases hz
        intro H locs lsM hW hS hl
        refine lv_lstore_n hx hb hdec rfl hl.2 (by rw [← hl.1]; exact hlt) rfl (fun lsM' hl' => ?_)
        exact K H locs lsM' hW hS (zLoc.sto2 hl.1 (by rw [← hl.1]; exact hlt) hl')
    · cases hz
  | dstore a =>
    have hn : 2 = n := Nat.eq_of_beq_eq_true hlen
    subst hn
    replace hz : zdsto a (pc + 2) ls st M = _ := hz
    unfold zdsto at hz
    split at hz
    · next x r =>
      unfold zs2 at hz
      cases hlt : Nat.blt ((a : Nat) + 1) ls.length with
      | false => rw [hlt] at hz; cases hz
      | true =>
        rw [hlt] at hz
        replace hlt := Nat.le_of_ble_eq_true hlt
        replace hz : zn _ _ _ _ = _ := hz
        unfold zn at hz; cases hz
        intro H locs lsM hW hS hl
        refine lv_dstore hx hb hdec hl.2 (by rw [← hl.1]; exact hlt) rfl (fun lsM' hl' => ?_)
        exact K H locs lsM' hW hS (zLoc.sto2 hl.1 (by rw [← hl.1]; exact hlt) hl')
    · cases hz
  | astore a =>
    have hn : 2 = n := Nat.eq_of_beq_eq_true hlen
    subst hn
    replace hz : zasto a (pc + 2) ls st M = _ := hz
    unfold zasto at hz
    split at hz
    · next x r =>
      unfold zs1 at hz
      cases hlt : Nat.blt ((a : Nat)) ls.length with
      | false => rw [hlt] at hz; cases hz
      | true =>
        rw [hlt] at hz
        replace hlt := Nat.le_of_ble_eq_true hlt
        replace hz : zn _ _ _ _ = _ := hz
        unfold zn at hz; cases hz
        intro H locs lsM hW hS hl
        refine lv_astore hx hb hdec hl.2 (by rw [← hl.1]; exact hlt) rfl (fun lsM' hl' => ?_)
        exact K H locs lsM' hW hS (zLoc.sto1 hl.1 (by rw [← hl.1]; exact hlt) hl')
    · cases hz
  | astore_n a =>
    have hn : 1 = n := Nat.eq_of_beq_eq_true hlen
    subst hn
    replace hz : zasto a (pc + 1) ls st M = _ := hz
    unfold zasto at hz
    split at hz
    · next x r =>
      unfold zs1 at hz
      cases hlt : Nat.blt ((a : Nat)) ls.length with
      | false => rw [hlt] at hz; cases hz
      | true =>
        rw [hlt] at hz
        replace hlt := Nat.le_of_ble_eq_true hlt
        replace hz : zn _ _ _ _ = _ := hz
        unfold zn at hz; cases hz
        intro H locs lsM hW hS hl
        refine lv_astore_n hx hb hdec rfl hl.2 (by rw [← hl.1]; exact hlt) rfl (fun lsM' hl' => ?_)
        exact K H locs lsM' hW hS (zLoc.sto1 hl.1 (by rw [← hl.1]; exact hlt) hl')
    · cases hz
  | iinc a b =>
    have hn : 3 = n := Nat.eq_of_beq_eq_true hlen
    subst hn
    have hv := of_decide_eq_true hio
    simp only [zx] at hz
    split at hz
    · next x hx2 =>
      unfold zs1 at hz
      cases hlt : Nat.blt a ls.length with
      | false => rw [hlt] at hz; cases hz
      | true =>
        rw [hlt] at hz
        replace hlt := Nat.le_of_ble_eq_true hlt
        replace hz : zn _ _ _ _ = _ := hz
        unfold zn at hz; cases hz
        intro H locs lsM hW hS hl
        have hin := zpr_in (n0 := n0) (q := q) hx2 (by simp)
        obtain ⟨kx, hkx⟩ := List.getElem?_of_mem hin
        refine lv_iinc hx hb hdec hl.2 hkx (by rw [hv]) (by rw [← hl.1]; exact hlt) rfl (fun lsM' hl' => ?_)
        exact K H locs lsM' hW hS (zLoc.sto1 (v := .int (x + zic b)) hl.1 (by rw [← hl.1]; exact hlt) hl')
    · cases hz
  | iadd =>
    have hn : 1 = n := Nat.eq_of_beq_eq_true hlen
    subst hn
    replace hz : zbi (fun x y => x + y) (pc + 1) ls st M = _ := hz
    unfold zbi at hz
    split at hz
    · unfold zn at hz; cases hz; exact zs_pure (fun H locs lsM hl k => lv_iadd hx hb hdec k) K
    · cases hz
  | isub =>
    have hn : 1 = n := Nat.eq_of_beq_eq_true hlen
    subst hn
    replace hz : zbi (fun x y => x - y) (pc + 1) ls st M = _ := hz
    unfold zbi at hz
    split at hz
    · unfold zn at hz; cases hz; exact zs_pure (fun H locs lsM hl k => lv_isub hx hb hdec k) K
    · cases hz
  | imul =>
    have hn : 1 = n := Nat.eq_of_beq_eq_true hlen
    subst hn
    replace hz : zbi (fun x y => x * y) (pc + 1) ls st M = _ := hz
    unfold zbi at hz
    split at hz
    · unfold zn at hz; cases hz; exact zs_pure (fun H locs lsM hl k => lv_imul hx hb hdec k) K
    · cases hz
  | iand =>
    have hn : 1 = n := Nat.eq_of_beq_eq_true hlen
    subst hn
    replace hz : zbi (fun x y => x &&& y) (pc + 1) ls st M = _ := hz
    unfold zbi at hz
    split at hz
    · unfold zn at hz; cases hz; exact zs_pure (fun H locs lsM hl k => lv_iand hx hb hdec k) K
    · cases hz
  | ladd =>
    have hn : 1 = n := Nat.eq_of_beq_eq_true hlen
    subst hn
    replace hz : zbl (fun x y => x + y) (pc + 1) ls st M = _ := hz
    unfold zbl at hz
    split at hz
    · unfold zn at hz; cases hz; exact zs_pure (fun H locs lsM hl k => lv_ladd hx hb hdec k) K
    · cases hz
  | lsub =>
    have hn : 1 = n := Nat.eq_of_beq_eq_true hlen
    subst hn
    replace hz : zbl (fun x y => x - y) (pc + 1) ls st M = _ := hz
    unfold zbl at hz
    split at hz
    · unfold zn at hz; cases hz; exact zs_pure (fun H locs lsM hl k => lv_lsub hx hb hdec k) K
    · cases hz
  | lmul =>
    have hn : 1 = n := Nat.eq_of_beq_eq_true hlen
    subst hn
    replace hz : zbl (fun x y => x * y) (pc + 1) ls st M = _ := hz
    unfold zbl at hz
    split at hz
    · unfold zn at hz; cases hz; exact zs_pure (fun H locs lsM hl k => lv_lmul hx hb hdec k) K
    · cases hz
  | land =>
    have hn : 1 = n := Nat.eq_of_beq_eq_true hlen
    subst hn
    replace hz : zbl (fun x y => x &&& y) (pc + 1) ls st M = _ := hz
    unfold zbl at hz
    split at hz
    · unfold zn at hz; cases hz; exact zs_pure (fun H locs lsM hl k => lv_land hx hb hdec k) K
    · cases hz
  | lor =>
    have hn : 1 = n := Nat.eq_of_beq_eq_true hlen
    subst hn
    replace hz : zbl (fun x y => x ||| y) (pc + 1) ls st M = _ := hz
    unfold zbl at hz
    split at hz
    · unfold zn at hz; cases hz; exact zs_pure (fun H locs lsM hl k => lv_lor hx hb hdec k) K
    · cases hz
  | idiv =>
    have hn : 1 = n := Nat.eq_of_beq_eq_true hlen
    subst hn
    simp only [zx] at hz
    split at hz
    · next y x r =>
      unfold zn at hz; cases hz
      by_cases hy : y = 0
      · rw [if_pos hy] at hpc; exact absurd rfl hpc
      · rw [if_neg hy] at K
        exact zs_pure (fun H locs lsM hl k => lv_idiv hx hb hdec hy k) K
    · cases hz
  | irem =>
    have hn : 1 = n := Nat.eq_of_beq_eq_true hlen
    subst hn
    simp only [zx] at hz
    split at hz
    · next y x r =>
      unfold zn at hz; cases hz
      by_cases hy : y = 0
      · rw [if_pos hy] at hpc; exact absurd rfl hpc
      · rw [if_neg hy] at K
        exact zs_pure (fun H locs lsM hl k => lv_irem hx hb hdec hy k) K
    · cases hz
  | ldiv =>
    have hn : 1 = n := Nat.eq_of_beq_eq_true hlen
    subst hn
    simp only [zx] at hz
    split at hz
    · next y x r =>
      unfold zn at hz; cases hz
      by_cases hy : y = 0
      · rw [if_pos hy] at hpc; exact absurd rfl hpc
      · rw [if_neg hy] at K
        exact zs_pure (fun H locs lsM hl k => lv_ldiv hx hb hdec hy k) K
    · cases hz
  | lrem =>
    have hn : 1 = n := Nat.eq_of_beq_eq_true hlen
    subst hn
    simp only [zx] at hz
    split at hz
    · next y x r =>
      unfold zn at hz; cases hz
      by_cases hy : y = 0
      · rw [if_pos hy] at hpc; exact absurd rfl hpc
      · rw [if_neg hy] at K
        exact zs_pure (fun H locs lsM hl k => lv_lrem hx hb hdec hy k) K
    · cases hz
  | ineg =>
    have hn : 1 = n := Nat.eq_of_beq_eq_true hlen
    subst hn
    simp only [zx] at hz
    split at hz
    · unfold zn at hz; cases hz; exact zs_pure (fun H locs lsM hl k => lv_ineg hx hb hdec k) K
    · cases hz
  | lneg =>
    have hn : 1 = n := Nat.eq_of_beq_eq_true hlen
    subst hn
    simp only [zx] at hz
    split at hz
    · unfold zn at hz; cases hz; exact zs_pure (fun H locs lsM hl k => lv_lneg hx hb hdec k) K
    · cases hz
  | i2l =>
    have hn : 1 = n := Nat.eq_of_beq_eq_true hlen
    subst hn
    simp only [zx] at hz
    split at hz
    · unfold zn at hz; cases hz; exact zs_pure (fun H locs lsM hl k => lv_i2l hx hb hdec rfl k) K
    · cases hz
  | l2i =>
    have hn : 1 = n := Nat.eq_of_beq_eq_true hlen
    subst hn
    simp only [zx] at hz
    split at hz
    · unfold zn at hz; cases hz; exact zs_pure (fun H locs lsM hl k => lv_l2i hx hb hdec rfl k) K
    · cases hz
  | i2b =>
    have hn : 1 = n := Nat.eq_of_beq_eq_true hlen
    subst hn
    simp only [zx] at hz
    split at hz
    · unfold zn at hz; cases hz; exact zs_pure (fun H locs lsM hl k => lv_i2b hx hb hdec rfl k) K
    · cases hz
  | l2d =>
    have hn : 1 = n := Nat.eq_of_beq_eq_true hlen
    subst hn
    simp only [zx] at hz
    split at hz
    · unfold zn at hz; cases hz; exact zs_pure (fun H locs lsM hl k => lv_l2d hx hb hdec k) K
    · cases hz
  | d2i =>
    have hn : 1 = n := Nat.eq_of_beq_eq_true hlen
    subst hn
    simp only [zx] at hz
    split at hz
    · unfold zn at hz; cases hz; exact zs_pure (fun H locs lsM hl k => lv_d2i hx hb hdec k) K
    · cases hz
  | d2l =>
    have hn : 1 = n := Nat.eq_of_beq_eq_true hlen
    subst hn
    simp only [zx] at hz
    split at hz
    · unfold zn at hz; cases hz; exact zs_pure (fun H locs lsM hl k => lv_d2l hx hb hdec k) K
    · cases hz
  | dneg =>
    have hn : 1 = n := Nat.eq_of_beq_eq_true hlen
    subst hn
    simp only [zx] at hz
    split at hz
    · unfold zn at hz; cases hz; exact zs_pure (fun H locs lsM hl k => lv_dneg hx hb hdec k) K
    · cases hz
  | lshl =>
    have hn : 1 = n := Nat.eq_of_beq_eq_true hlen
    subst hn
    simp only [zx] at hz
    split at hz
    · unfold zn at hz; cases hz; exact zs_pure (fun H locs lsM hl k => lv_lshl hx hb hdec rfl k) K
    · cases hz
  | lshr =>
    have hn : 1 = n := Nat.eq_of_beq_eq_true hlen
    subst hn
    simp only [zx] at hz
    split at hz
    · unfold zn at hz; cases hz; exact zs_pure (fun H locs lsM hl k => lv_lshr hx hb hdec rfl k) K
    · cases hz
  | lcmp =>
    have hn : 1 = n := Nat.eq_of_beq_eq_true hlen
    subst hn
    simp only [zx] at hz
    split at hz
    · unfold zn at hz; cases hz; exact zs_pure (fun H locs lsM hl k => W.lcmp hx hb hdec k) K
    · cases hz
  | dcmp a =>
    have hn : 1 = n := Nat.eq_of_beq_eq_true hlen
    subst hn
    simp only [zx] at hz
    split at hz
    · unfold zn at hz; cases hz; exact zs_pure (fun H locs lsM hl k => lv_dcmp hx hb hdec k) K
    · cases hz
  | fcmp a =>
    have hn : 1 = n := Nat.eq_of_beq_eq_true hlen
    subst hn
    simp only [zx] at hz
    split at hz
    · unfold zn at hz; cases hz; exact zs_pure (fun H locs lsM hl k => lv_fcmp hx hb hdec k) K
    · cases hz
  | d2f =>
    have hn : 1 = n := Nat.eq_of_beq_eq_true hlen
    subst hn
    simp only [zx] at hz
    split at hz
    · next x r =>
      unfold zn at hz; cases hz
      split at hpc
      · next hy =>
        rw [if_pos hy] at K
        exact zs_pure (fun H locs lsM hl k => lv_d2f hx hb hdec hy k) K
      · exact absurd rfl hpc
    · cases hz
  | f2d =>
    have hn : 1 = n := Nat.eq_of_beq_eq_true hlen
    subst hn
    simp only [zx] at hz
    split at hz
    · next x r =>
      unfold zn at hz; cases hz
      split at hpc
      · next hy =>
        rw [if_pos hy] at K
        exact zs_pure (fun H locs lsM hl k => lv_f2d hx hb hdec hy k) K
      · exact absurd rfl hpc
    · cases hz
  | ddiv =>
    have hn : 1 = n := Nat.eq_of_beq_eq_true hlen
    subst hn
    replace hz : zbd FP.ddiv (pc + 1) ls st M = _ := hz
    unfold zbd at hz
    split at hz
    · next y x r =>
      unfold zn at hz; cases hz
      split at hpc
      · next hy =>
        rw [if_pos hy] at K
        exact zs_pure (fun H locs lsM hl k => lv_ddiv hx hb hdec hy k) K
      · exact absurd rfl hpc
    · cases hz
  | dmul =>
    have hn : 1 = n := Nat.eq_of_beq_eq_true hlen
    subst hn
    replace hz : zbd FP.dmul (pc + 1) ls st M = _ := hz
    unfold zbd at hz
    split at hz
    · next y x r =>
      unfold zn at hz; cases hz
      split at hpc
      · next hy =>
        rw [if_pos hy] at K
        exact zs_pure (fun H locs lsM hl k => lv_dmul hx hb hdec hy k) K
      · exact absurd rfl hpc
    · cases hz
  | dsub =>
    have hn : 1 = n := Nat.eq_of_beq_eq_true hlen
    subst hn
    replace hz : zbd FP.dsub (pc + 1) ls st M = _ := hz
    unfold zbd at hz
    split at hz
    · next y x r =>
      unfold zn at hz; cases hz
      split at hpc
      · next hy =>
        rw [if_pos hy] at K
        exact zs_pure (fun H locs lsM hl k => lv_dsub hx hb hdec hy k) K
      · exact absurd rfl hpc
    · cases hz
  | ifCond a b =>
    have hn : 3 = n := Nat.eq_of_beq_eq_true hlen
    subst hn
    simp only [zx] at hz
    split at hz
    · next x r =>
      split at hz
      · next t ht =>
        have htt := zt_ok ht
        unfold zn at hz; cases hz
        intro H locs lsM hW hS hl
        cases a with
          | eq => exact lv_if_eq hx hb hdec htt (fun h => zs_if K hW hS hl _ (if_pos h)) (fun h => zs_if K hW hS hl _ (if_neg h))
          | ne => exact lv_if_ne hx hb hdec htt (fun h => zs_if K hW hS hl _ (if_neg h)) (fun h => zs_if K hW hS hl _ (if_pos h))
          | lt => exact lv_if_lt hx hb hdec htt (fun h => zs_if K hW hS hl _ (if_pos h)) (fun h => zs_if K hW hS hl _ (if_neg h))
          | ge => exact lv_if_ge hx hb hdec htt (fun h => zs_if K hW hS hl _ (if_pos h)) (fun h => zs_if K hW hS hl _ (if_neg h))
          | gt => exact lv_if_gt hx hb hdec htt (fun h => zs_if K hW hS hl _ (if_pos h)) (fun h => zs_if K hW hS hl _ (if_neg h))
          | le => exact lv_if_le hx hb hdec htt (fun h => zs_if K hW hS hl _ (if_pos h)) (fun h => zs_if K hW hS hl _ (if_neg h))
      · cases hz
    · cases hz
  | if_icmp a b =>
    have hn : 3 = n := Nat.eq_of_beq_eq_true hlen
    subst hn
    simp only [zx] at hz
    split at hz
    · next y x r =>
      split at hz
      · next t ht =>
        have htt := zt_ok ht
        unfold zn at hz; cases hz
        intro H locs lsM hW hS hl
        cases a with
          | eq => exact lv_icmp_eq hx hb hdec htt (fun h => zs_if K hW hS hl _ (if_pos h)) (fun h => zs_if K hW hS hl _ (if_neg h))
          | ne => exact lv_icmp_ne hx hb hdec htt (fun h => zs_if K hW hS hl _ (if_neg h)) (fun h => zs_if K hW hS hl _ (if_pos h))
          | lt => exact lv_icmp_lt hx hb hdec htt (fun h => zs_if K hW hS hl _ (if_pos h)) (fun h => zs_if K hW hS hl _ (if_neg h))
          | ge => exact lv_icmp_ge hx hb hdec htt (fun h => zs_if K hW hS hl _ (if_pos h)) (fun h => zs_if K hW hS hl _ (if_neg h))
          | gt => exact lv_icmp_gt hx hb hdec htt (fun h => zs_if K hW hS hl _ (if_pos h)) (fun h => zs_if K hW hS hl _ (if_neg h))
          | le => exact lv_icmp_le hx hb hdec htt (fun h => zs_if K hW hS hl _ (if_pos h)) (fun h => zs_if K hW hS hl _ (if_neg h))
      · cases hz
    · cases hz
  | ifnonnull a =>
    have hn : 3 = n := Nat.eq_of_beq_eq_true hlen
    subst hn
    simp only [zx] at hz
    split at hz
    · split at hz
      · next t ht =>
        have htt := zt_ok ht
        unfold zn at hz; cases hz
        exact zs_pure (fun H locs lsM hl k => lv_ifnonnull hx hb hdec htt k) K
      · cases hz
    · unfold zn at hz; cases hz; exact zs_pure (fun H locs lsM hl k => lv_ifnonnullN hx hb hdec k) K
    · cases hz
  | goto a =>
    have hn : 3 = n := Nat.eq_of_beq_eq_true hlen
    subst hn
    simp only [zx] at hz
    split at hz
    · next t ht =>
      have htt := zt_ok ht
      unfold zn at hz; cases hz
      intro H locs lsM hW hS hl
      refine lv_goto hx hb hdec htt (K H locs lsM hW hS ?_)
      cases Nat.ble pc' pc with
      | false => exact hl
      | true =>
        show zLoc n0 q (zmx m0) (zfgt (zfd (zfg m0) pc') ls) lsM
        unfold zfgt
        split
        · exact hl
        · exact hl.clr _
    · cases hz
  | tableswitch d lo hi offs =>
    simp only [zx] at hz
    split at hz
    · next x r =>
      split at hz
      · next t ht =>
        unfold zn at hz; cases hz
        intro H locs lsM hW hS hl
        unfold ztsw at ht
        split at ht
        · next h => exact lv_tableOut hx hb hdec h (zt_ok ht) (K H locs lsM hW hS hl)
        · next h =>
          split at ht
          · next o ho =>
            rw [zgt_eq] at ho
            exact lv_tableIn hx hb hdec (fun h1 => h (Or.inl h1)) (fun h1 => h (Or.inr h1)) (by rw [← Array.getElem?_toList]; exact ho) (zt_ok ht) (K H locs lsM hW hS hl)
          · cases ht
      · cases hz
    · cases hz
  | dup =>
    have hn : 1 = n := Nat.eq_of_beq_eq_true hlen
    subst hn
    simp only [zx] at hz
    split at hz
    · unfold zn at hz; cases hz; exact zs_pure (fun H locs lsM hl k => lv_dup hx hb hdec rfl k) K
    · unfold zn at hz; cases hz; exact zs_pure (fun H locs lsM hl k => lv_dup hx hb hdec rfl k) K
    · cases hz
  | dup2 =>
    have hn : 1 = n := Nat.eq_of_beq_eq_true hlen
    subst hn
    simp only [zx] at hz
    split at hz
    · unfold zn at hz; cases hz; exact zs_pure (fun H locs lsM hl k => lv_dup2_11 hx hb hdec rfl rfl k) K
    · cases hz
  | pop =>
    have hn : 1 = n := Nat.eq_of_beq_eq_true hlen
    subst hn
    simp only [zx] at hz
    split at hz
    · unfold zn at hz; cases hz; exact zs_pure (fun H locs lsM hl k => lv_pop hx hb hdec rfl k) K
    · unfold zn at hz; cases hz; exact zs_pure (fun H locs lsM hl k => lv_pop hx hb hdec rfl k) K
    · cases hz
  | getfield a =>
    have hn : 3 = n := Nat.eq_of_beq_eq_true hlen
    subst hn
    exact zs_getfield C hdec hio hz hpc h0 hR K
  | putfield a =>
    have hn : 3 = n := Nat.eq_of_beq_eq_true hlen
    subst hn
    exact zs_putfield C hdec hio hz hpc h0 hR K
  | new a =>
    have hn : 3 = n := Nat.eq_of_beq_eq_true hlen
    subst hn
    exact zs_new C hdec hio hz hpc h0 hR K
  | invokevirtual a =>
    have hn : 3 = n := Nat.eq_of_beq_eq_true hlen
    subst hn
    exact zs_invokevirtual C hdec hio hz hpc h0 hR K
  | invokestatic a =>
    have hn : 3 = n := Nat.eq_of_beq_eq_true hlen
    subst hn
    exact zs_invokestatic C hdec hio hz hpc h0 hR K
  | invokespecial a =>
    have hn : 3 = n := Nat.eq_of_beq_eq_true hlen
    subst hn
    exact zs_invokespecial C hdec hio hz hpc h0 hR K
  | iaload =>
    have hn : 1 = n := Nat.eq_of_beq_eq_true hlen
    subst hn
    exact zs_iaload C hdec hz hpc h0 hR K
  | laload =>
    have hn : 1 = n := Nat.eq_of_beq_eq_true hlen
    subst hn
    exact zs_laload C hdec hz hpc h0 hR K
  | baload =>
    have hn : 1 = n := Nat.eq_of_beq_eq_true hlen
    subst hn
    exact zs_baload C hdec hz hpc h0 hR K
  | iastore =>
    have hn : 1 = n := Nat.eq_of_beq_eq_true hlen
    subst hn
    exact zs_iastore C hdec hz hpc h0 hR K
  | lastore =>
    have hn : 1 = n := Nat.eq_of_beq_eq_true hlen
    subst hn
    exact zs_lastore C hdec hz hpc h0 hR K
  | bastore =>
    have hn : 1 = n := Nat.eq_of_beq_eq_true hlen
    subst hn
    exact zs_bastore C hdec hz hpc h0 hR K
  | arraylength =>
    have hn : 1 = n := Nat.eq_of_beq_eq_true hlen
    subst hn
    exact zs_arraylength C hdec hz hpc h0 hR K
  | newarray a =>
    have hn : 2 = n := Nat.eq_of_beq_eq_true hlen
    subst hn
    exact zs_newarray C hdec hz hpc h0 hR K
  | ireturn =>
    have hn : 1 = n := Nat.eq_of_beq_eq_true hlen
    subst hn
    replace hz : zret m0 st = _ := hz
    unfold zret at hz
    repeat' (split at hz)
    all_goals cases hz
  | lreturn =>
    have hn : 1 = n := Nat.eq_of_beq_eq_true hlen
    subst hn
    simp only [zx] at hz
    repeat' (split at hz)
    all_goals cases hz
  | dreturn =>
    have hn : 1 = n := Nat.eq_of_beq_eq_true hlen
    subst hn
    simp only [zx] at hz
    repeat' (split at hz)
    all_goals cases hz
  | return_ =>
    have hn : 1 = n := Nat.eq_of_beq_eq_true hlen
    subst hn
    simp only [zx] at hz
    repeat' (split at hz)
    all_goals cases hz
  | _ => cases hz
end ZS
