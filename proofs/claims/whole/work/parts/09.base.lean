/-! a step of the small machine is a step of the machine -/
def zTb : List Cond := lw_tbl.filter goodWord
theorem zg {w : Cond} (h : w ∈ lw_tbl) (hg : goodWord w = true) : w ∈ zTb := List.mem_filter.mpr ⟨h, hg⟩
def zlo (k : Nat) : Nat := 40 + 30 * k
def zA (n0 : Nat) : Nat → Prop := fun a => n0 ≤ a
def zStr (n0 : Nat) (q : Nat → Nat) (s : State) (H : Heap) : Prop := (∀ own idx k, zlkS own idx = some k → vk_R (zcn own) idx " REV" (q k) s) ∧ (∀ k, k < 2 → va_O "java/lang/String" (q k) (zA n0) s H ∧ va_OF "java/lang/String" "coder" "B" (.int 0) (q k) (zA n0) s H ∧ va_OF "java/lang/String" "value" "[B" (.ref (q (k + 3))) (q k) (zA n0) s H ∧ va_T .byte (q (k + 3)) 4 (fun j => .int (zch j)) (zA n0) s H) ∧ va_Z "java/lang/String" "COMPACT_STRINGS" "Z" (.int 1) (zA n0) s H ∧ va_Zq "jdk/internal/util/Preconditions" "SIOOBE_FORMATTER" "Ljava/util/function/BiFunction;" (zA n0) s H
def zExt (n0 : Nat) (q : Nat → Nat) (X : zSc) (s : State) (H : Heap) : Prop := va_X (q 2) X.1 X.2 s H ∧ q 2 < n0 ∧ zStr n0 q s H ∧ ∀ own idx y, Cond.methodLinkNest (zcn own) idx y "DoubleLedger" ∈ lw_tbl → va_Nw (.methodLinkNest (zcn own) idx y "DoubleLedger") s
def zCx (D : va_G) (kA : Nat → ClassId) (n0 : Nat) (q : Nat → Nat) (X : zSc) (m0 : zMt) (p : Program) (R : Room) (s : State) (m : MethodId) (args : Array Value) (meth : Method) (c : Code) : Prop :=
  p.tables.exec = Jvm.exec ∧ c.code = zb m0 ∧ c.maxLocals = zmx m0 ∧ s.vm.findClass (zcn (zow m0)) = some m.cls ∧ (∀ w ∈ zTb, w.before args s = true) ∧ ((zy m0).name = "<init>" → meth.name = "<init>") ∧ va_K D vwCl (ztys kA) s ∧ n0 ≤ s.heap.size ∧ zExt n0 q X s s.heap ∧ zlv m0 + 1 ≤ R.frames ∧ zlo (zlv m0) ≤ R.locals ∧ (zcd m0).all (fun p => p.2.all (zgo1 m0)) = true
def zWs (D : va_G) (kA : Nat → ClassId) (n0 : Nat) (q : Nat → Nat) (m0 : zMt) (p : Program) (l : Launch) (e : Env) (R : Room) (s : State) (m : MethodId) (args : Array Value) (below : List Frame) (meth : Method) (c : Code) (Q : State → Prop) (len0 sz0 : Nat) (pc : Nat) (ls st : List Value) (M : zM) : Prop :=
  ∀ (H : Heap) (locs : List Loc) (lsM : Array Slot), zW D kA n0 q M H → va_S (zA n0) s.heap H locs → zLoc n0 q (zmx m0) ls lsM → W p l e R s m args below meth c H locs (M.1.length - len0) (zsize M.1 - sz0) Q (F0 m pc lsM (st.map (zren n0 q)))
theorem zcat_eq (n0 : Nat) (q : Nat → Nat) : ∀ l : List Value, ((l.map (zren n0 q)).map fun v => v.category).sum = zcat l
  | [] => rfl
  | v :: l => by
    have ih := zcat_eq n0 q l
    rw [List.map_cons, List.map_cons, List.sum_cons, ih]
    cases v <;> simp only [zren, Value.category, zcat] <;> omega
theorem zt_ok {pc t : Nat} {off : Int} (h : zt pc off = some t) : (pc : Int) + off = (t : Int) := by
  unfold zt at h
  split at h
  · next n => cases h; simp
  · next n =>
    cases e : Nat.ble (n + 1) pc with
    | true =>
      rw [e] at h
      have := Nat.le_of_ble_eq_true e
      simp at h
      omega
    | false => rw [e] at h; cases h
theorem zw_nat : Cond.native arraycopyName ∈ lw_tbl := zm2 (List.mem_of_getElem? (i := 203) rfl)
theorem zw_stat : Cond.static arraycopyName ∈ lw_tbl := zm2 (List.mem_of_getElem? (i := 202) rfl)
theorem zw_ini : Cond.initialized "java/lang/System" ∈ lw_tbl := zm1 (List.mem_of_getElem? (i := 13) rfl)
theorem zw_dnat : Cond.native ⟨"java/lang/Double", "doubleToRawLongBits", "(D)J"⟩ ∈ lw_tbl := zm5 (List.mem_of_getElem? (i := 176) rfl)
theorem zw_dstat : Cond.static ⟨"java/lang/Double", "doubleToRawLongBits", "(D)J"⟩ ∈ lw_tbl := zm5 (List.mem_of_getElem? (i := 175) rfl)
theorem zw_dini : Cond.initialized "java/lang/Double" ∈ lw_tbl := zm1 (List.mem_of_getElem? (i := 15) rfl)
theorem zw_fnat : Cond.native ⟨"java/lang/Float", "floatToRawIntBits", "(F)I"⟩ ∈ lw_tbl := zm5 (List.mem_of_getElem? (i := 186) rfl)
theorem zw_fstat : Cond.static ⟨"java/lang/Float", "floatToRawIntBits", "(F)I"⟩ ∈ lw_tbl := zm5 (List.mem_of_getElem? (i := 185) rfl)
theorem zw_fini : Cond.initialized "java/lang/Float" ∈ lw_tbl := zm1 (List.mem_of_getElem? (i := 16) rfl)
theorem zw_oinst : Cond.instanceMethod objectInit ∈ lw_tbl := zm1 (List.mem_of_getElem? (i := 27) rfl)
theorem zw_ocode : Cond.code objectInit ⟨#[0xb1]⟩ 1 none ∈ lw_tbl := zm1 (List.mem_of_getElem? (i := 28) rfl)
def zty (T : u_T) (k : Nat) : FieldType := (parseFieldDescriptor (T k).2.2.1).getD .int
def ztok (kd : zF) (ty : FieldType) : Prop := (kd = .inl 0 ∧ ty = .int) ∨ (kd = .inl 1 ∧ ty = .long) ∨ (kd = .inl 2 ∧ ty = .boolean) ∨ (kd = .inr none ∧ ((∃ n, ty = .object n) ∨ ∃ t, ty = .array t))
def ztkb (kd : zF) (ty : FieldType) : Bool := match kd, ty with
  | .inl 0, .int => true
  | .inl 1, .long => true
  | .inl 2, .boolean => true
  | .inr none, .object _ => true
  | .inr none, .array _ => true
  | _, _ => false
theorem ztkb_ok {kd : zF} {ty : FieldType} (h : ztkb kd ty = true) : ztok kd ty := by
  unfold ztkb at h
  split at h
  · exact Or.inl ⟨rfl, rfl⟩
  · exact Or.inr (Or.inl ⟨rfl, rfl⟩)
  · exact Or.inr (Or.inr (Or.inl ⟨rfl, rfl⟩))
  · exact Or.inr (Or.inr (Or.inr ⟨rfl, Or.inl ⟨_, rfl⟩⟩))
  · exact Or.inr (Or.inr (Or.inr ⟨rfl, Or.inr ⟨_, rfl⟩⟩))
  · cases h
def zcb (ci : Nat) : Bool := match zgt vwCl ci, zgt zdfs ci with
  | some (C, T, N), some d => decide (C = zcn ci) && (Nat.beq d.length N && ((List.range N).all (fun k => (parseFieldDescriptor (T k).2.2.1).isSome && (match zgt d k with | some kd => ztkb kd (zty T k) | none => false)) && ((List.range N).all (fun a => (List.range N).all fun b => Nat.beq a b || decide ((T a).2.1 ≠ (T b).2.1)) && (decide (Cond.instantiable C N ∈ lw_tbl) && decide (Cond.initialized C ∈ lw_tbl)))))
  | _, _ => false
theorem zcb_all : (List.range 12).all zcb = true := by decide +kernel
theorem zcl_lt {ci : Nat} {r : vw_C} (h : zgt vwCl ci = some r) : ci < 12 := zgt_lt h
theorem zcls_all {ci : Nat} {C : String} {T : u_T} {N : Nat} (h : zgt vwCl ci = some (C, T, N)) : C = zcn ci ∧ (∀ k, k < N → parseFieldDescriptor (T k).2.2.1 = some (zty T k)) ∧ (∀ a, a < N → ∀ b, b < N → a ≠ b → (T a).2.1 ≠ (T b).2.1) ∧ Cond.instantiable C N ∈ lw_tbl ∧ Cond.initialized C ∈ lw_tbl ∧ ∀ d, zgt zdfs ci = some d → d.length = N ∧ ∀ k, k < N → ∃ kd, zgt d k = some kd ∧ ztok kd (zty T k) := by
  have hb := List.all_eq_true.mp zcb_all ci (List.mem_range.mpr (zcl_lt h))
  unfold zcb at hb
  rw [h] at hb
  split at hb
  · next C' T' N' d hC hd =>
    cases hC
    simp only [Bool.and_eq_true, decide_eq_true_eq, List.all_eq_true, List.mem_range, Bool.or_eq_true] at hb
    obtain ⟨h1, h2, h3, h4, h5, h6⟩ := hb
    refine ⟨h1, fun k hk => ?_, fun a ha b hbb hne => ?_, h5, h6, fun d2 hd2 => ?_⟩
    · obtain ⟨y, hy⟩ := Option.isSome_iff_exists.mp (h3 k hk).1
      rw [zty, hy]; rfl
    · rcases h4 a ha b hbb with h7 | h7
      · exact absurd (Nat.eq_of_beq_eq_true h7) hne
      · exact h7
    · rw [hd] at hd2
      cases hd2
      refine ⟨Nat.eq_of_beq_eq_true h2, fun k hk => ?_⟩
      have h8 := (h3 k hk).2
      split at h8
      · next kd hkd => exact ⟨kd, hkd, ztkb_ok h8⟩
      · cases h8
  · cases hb
theorem zcls_ok {ci : Nat} {C : String} {T : u_T} {N : Nat} (h : zgt vwCl ci = some (C, T, N)) : (∀ k, k < N → parseFieldDescriptor (T k).2.2.1 = some (zty T k)) ∧ (∀ a, a < N → ∀ b, b < N → a ≠ b → (T a).2.1 ≠ (T b).2.1) ∧ Cond.instantiable C N ∈ lw_tbl ∧ Cond.initialized C ∈ lw_tbl ∧ ∀ d, zgt zdfs ci = some d → d.length = N ∧ ∀ k, k < N → ∃ kd, zgt d k = some kd ∧ ztok kd (zty T k) := (zcls_all h).2
theorem zcn_cl {ci : Nat} {C : String} {T : u_T} {N : Nat} (h : zgt vwCl ci = some (C, T, N)) : zcn ci = C := (zcls_all h).1.symm
theorem zdf_cl {ci : Nat} {fs : List zF} (h : zgt zdfs ci = some fs) : ∃ T N, zgt vwCl ci = some (zcn ci, T, N) := by
  have hl : ci < 12 := zgt_lt h
  cases e : zgt vwCl ci with
  | none =>
    rw [zgt_eq] at e
    exact absurd (List.getElem?_eq_none_iff.mp e) (by show ¬ 12 ≤ ci; omega)
  | some r =>
    obtain ⟨C, T, N⟩ := r
    exact ⟨T, N, by rw [zcn_cl e]⟩
theorem ztok_0 {kd0 : zF} {ty : FieldType} (h : zke (.inl 0) kd0 = true) (hk : ztok kd0 ty) : ty = .int := by
  rcases hk with ⟨rfl, h2⟩ | ⟨rfl, h2⟩ | ⟨rfl, h2⟩ | ⟨rfl, h2⟩
  · exact h2
  · cases h
  · cases h
  · cases h
theorem ztok_1 {kd0 : zF} {ty : FieldType} (h : zke (.inl 1) kd0 = true) (hk : ztok kd0 ty) : ty = .long := by
  rcases hk with ⟨rfl, h2⟩ | ⟨rfl, h2⟩ | ⟨rfl, h2⟩ | ⟨rfl, h2⟩
  · cases h
  · exact h2
  · cases h
  · cases h
theorem ztok_2 {t : Nat} {kd0 : zF} {ty : FieldType} (h0 : t = 0 → False) (h1 : t = 1 → False) (h : zke (.inl t) kd0 = true) (hk : ztok kd0 ty) : t = 2 ∧ ty = .boolean := by
  rcases hk with ⟨rfl, h2⟩ | ⟨rfl, h2⟩ | ⟨rfl, h2⟩ | ⟨rfl, h2⟩
  · exact (h0 (Nat.eq_of_beq_eq_true h)).elim
  · exact (h1 (Nat.eq_of_beq_eq_true h)).elim
  · exact ⟨Nat.eq_of_beq_eq_true h, h2⟩
  · cases h
theorem ztok_r {r : Option Nat} {kd0 : zF} {ty : FieldType} (h : zke (.inr r) kd0 = true) (hk : ztok kd0 ty) : (∃ n, ty = .object n) ∨ ∃ t, ty = .array t := by
  rcases hk with ⟨rfl, h2⟩ | ⟨rfl, h2⟩ | ⟨rfl, h2⟩ | ⟨rfl, h2⟩
  · cases h
  · cases h
  · cases h
  · exact h2
theorem ztok_def {kd : zF} {ty : FieldType} {n0 : Nat} {q : Nat → Nat} {I : zI} {L : zL} {i j : Nat} (hk : ztok kd ty) : defaultValue ty = zren n0 q (zval (va_up I i (fun _ => 0)) (va_up L i (fun _ => 0)) i j kd) := by
  rcases hk with ⟨rfl, rfl⟩ | ⟨rfl, rfl⟩ | ⟨rfl, rfl⟩ | ⟨rfl, h2⟩
  · simp [zval, zren, va_up, defaultValue]
  · simp [zval, zren, va_up, defaultValue]
  · simp [zval, zren, va_up, defaultValue]
  · rcases h2 with ⟨n, rfl⟩ | ⟨t, rfl⟩ <;> rfl
theorem zfs_set {n0 : Nat} {q : Nat → Nat} {I I' : zI} {L L' : zL} {i k : Nat} {fs : List zF} {kd : zF} {w : Value} (hk : zgt fs k = some kd) (h1 : zren n0 q (zval I' L' i k kd) = w) (h2 : ∀ j kj, j ≠ k → zval I' L' i j kj = zval I L i j kj) : zfs n0 q I' L' i fs = (zfs n0 q I L i fs).set k w := by
  have hlt := zgt_lt hk
  rw [zgt_eq] at hk
  apply List.ext_getElem?
  intro j
  by_cases hj : j = k
  · subst hj
    rw [List.getElem?_set_self (by simp [zfs]; exact hlt)]
    simp [zfs, List.getElem?_mapIdx, hk, h1]
  · rw [List.getElem?_set_ne (Ne.symm hj)]
    simp only [zfs, List.getElem?_mapIdx]
    cases fs[j]? with
    | none => rfl
    | some kj => simp only [Option.map_some]; rw [h2 j kj hj]
theorem zsize_set {x : zS} : ∀ {S : List zS} {o : Nat} {y : zS}, zgt S o = some y → zsz x = zsz y → zsize (S.set o x) = zsize S
  | [], o, y, h, _ => by simp [zgt] at h
  | a :: S, 0, y, h, e => by
    simp only [zgt, Option.some.injEq] at h
    subst h
    simp [zsize, e]
  | a :: S, o + 1, y, h, e => by
    have ih := zsize_set (S := S) (o := o) (y := y) h e
    simp only [zsize] at ih
    simp only [zsize, List.set_cons_succ, List.map_cons, List.sum_cons, ih]
theorem zF_ok {own idx ci k pl : Nat} (h : zlkF own idx = some (ci, k, pl)) : ∃ (C : String) (T : u_T) (N : Nat), zgt vwCl ci = some (C, T, N) ∧ k < N ∧ Cond.fieldLink (zcn own) idx C (T k).2.1 (T k).2.2.1 ∈ lw_tbl ∧ C = (T k).1 := by
  have hw := zlk_all (t := zlkFT) zF_all h
  unfold zFc at hw
  split at hw
  · next C T N hC =>
    simp only [Bool.and_eq_true, decide_eq_true_eq] at hw
    exact ⟨C, T, N, hC, Nat.le_of_ble_eq_true hw.1, List.mem_of_getElem? hw.2.1, hw.2.2⟩
  · cases hw
theorem zin_all : (vwCl.all fun r => (u_ws r.1 r.2.1 r.2.2).all fun w => decide (w ∈ lw_tbl) && goodWord w) = true := by decide +kernel
theorem zin_ok {ci : Nat} {C : String} {T : u_T} {N : Nat} (h : zgt vwCl ci = some (C, T, N)) : ∀ w ∈ u_ws C T N, w ∈ zTb := by
  intro w hw
  rw [zgt_eq] at h
  have h1 := List.all_eq_true.mp zin_all _ (List.mem_of_getElem? h)
  have h2 := List.all_eq_true.mp h1 w hw
  simp only [Bool.and_eq_true, decide_eq_true_eq] at h2
  exact zg h2.1 h2.2
section ZS
variable {D : va_G} {kA : Nat → ClassId} {n0 : Nat} {q : Nat → Nat} {X : zSc} {m0 : zMt} {p : Program} {l : Launch} {e : Env} {R : Room} {s : State} {m : MethodId} {args : Array Value} {below : List Frame} {meth : Method} {c : Code} {Q : State → Prop} {len0 sz0 : Nat}
variable {pc pc' : Nat} {ls ls' st st' : List Value} {M M' : zM}
theorem zs_pure (row : ∀ (H : Heap) (locs : List Loc) (lsM : Array Slot), zLoc n0 q (zmx m0) ls lsM → W p l e R s m args below meth c H locs (M.1.length - len0) (zsize M.1 - sz0) Q (F0 m pc' lsM (st'.map (zren n0 q))) → W p l e R s m args below meth c H locs (M.1.length - len0) (zsize M.1 - sz0) Q (F0 m pc lsM (st.map (zren n0 q)))) (K : zWs D kA n0 q m0 p l e R s m args below meth c Q len0 sz0 pc' ls st' M) : zWs D kA n0 q m0 p l e R s m args below meth c Q len0 sz0 pc ls st M := fun H locs lsM hW hS hl => row H locs lsM hl (K H locs lsM hW hS hl)
theorem zs_if {x y : Int32} {t f : Nat} {cd : ClassFile.Cond} (K : zWs D kA n0 q m0 p l e R s m args below meth c Q len0 sz0 (zbr cd x y t f) ls st M) {H : Heap} {locs : List Loc} {lsM : Array Slot} (hW : zW D kA n0 q M H) (hS : va_S (zA n0) s.heap H locs) (hl : zLoc n0 q (zmx m0) ls lsM) (t' : Nat) (h : zbr cd x y t f = t') : W p l e R s m args below meth c H locs (M.1.length - len0) (zsize M.1 - sz0) Q (F0 m t' lsM (st.map (zren n0 q))) := by
  subst h
  exact K H locs lsM hW hS hl
end ZS
