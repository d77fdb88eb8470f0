/-! the world of the machine that a memory of the small one stands for -/
def zren (n0 : Nat) (q : Nat → Nat) : Value → Value
  | .ref a => .ref (n0 + a)
  | .retAddr k => .ref (q k)
  | v => v
def zfs (n0 : Nat) (q : Nat → Nat) (I : zI) (L : zL) (i : Nat) (fs : List zF) : List Value := fs.mapIdx (fun k kd => zren n0 q (zval I L i k kd))
def zce (kA : Nat → ClassId) (n0 : Nat) (q : Nat → Nat) (I : zI) (L : zL) (i : Nat) : zS → va_E
  | .inl (1, n) => .inl (kA 1, n, .inr (.inl (L i)))
  | .inl (t, n) => .inl (kA t, n, .inl (I i))
  | .inr (ci, fs) => .inr (ci, zfs n0 q I L i fs)
def zwd (kA : Nat → ClassId) (n0 : Nat) (q : Nat → Nat) (M : zM) : va_W := M.1.mapIdx (fun i s => (n0 + i, zce kA n0 q M.2.1 M.2.2 i s))
def ztys (kA : Nat → ClassId) : List (ClassId × FieldType) := [(kA 0, .int), (kA 1, .long), (kA 2, .byte), (kA 3, .boolean)]
def zsz : zS → Nat
  | .inl (_, n) => n
  | .inr (_, fs) => fs.length
def zsize (S : List zS) : Nat := (S.map zsz).sum
def zW (D : va_G) (kA : Nat → ClassId) (n0 : Nat) (q : Nat → Nat) (M : zM) (H : Heap) : Prop := H.size = n0 + M.1.length ∧ va_P D vwCl (zwd kA n0 q M) H
def zpr (n0 : Nat) (q : Nat → Nat) : Nat → List Value → List (Nat × Value)
  | _, [] => []
  | k, .null :: l => zpr n0 q (k + 1) l
  | k, v :: l => (k, zren n0 q v) :: zpr n0 q (k + 1) l
def zLoc (n0 : Nat) (q : Nat → Nat) (nL : Nat) (ls : List Value) (lsM : Array Slot) : Prop := ls.length = nL ∧ lv_has lsM nL (zpr n0 q 0 ls)
theorem zgt_eq {α : Type} : ∀ (l : List α) (k : Nat), zgt l k = l[k]?
  | [], k => by simp [zgt]
  | a :: l, 0 => by simp [zgt]
  | a :: l, k + 1 => by simp [zgt, zgt_eq l k]
theorem zgt_lt {α : Type} {l : List α} {k : Nat} {v : α} (h : zgt l k = some v) : k < l.length := by
  rw [zgt_eq] at h
  exact (List.getElem?_eq_some_iff.mp h).1
theorem zgt_set_self {α : Type} {l : List α} {k : Nat} (v : α) (h : k < l.length) : zgt (l.set k v) k = some v := by
  rw [zgt_eq, List.getElem?_set_self h]
theorem zgt_set_ne {α : Type} {l : List α} {k j : Nat} (v : α) (h : j ≠ k) : zgt (l.set k v) j = zgt l j := by
  rw [zgt_eq, zgt_eq, List.getElem?_set_ne (Ne.symm h)]
theorem zpr_mem {n0 : Nat} {q : Nat → Nat} {w : Value} : ∀ {l : List Value} {b k : Nat}, (k, w) ∈ zpr n0 q b l ↔ ∃ j v, k = b + j ∧ zgt l j = some v ∧ v ≠ .null ∧ w = zren n0 q v
  | [], b, k => by
    constructor
    · intro h; cases h
    · rintro ⟨j, v, -, h, -⟩; simp [zgt] at h
  | u :: l, b, k => by
    have ih := @zpr_mem n0 q w l (b + 1) k
    have key : (∃ j v, k = b + j ∧ zgt (u :: l) j = some v ∧ v ≠ .null ∧ w = zren n0 q v) ↔ (k = b ∧ u ≠ .null ∧ w = zren n0 q u) ∨ ∃ j v, k = (b + 1) + j ∧ zgt l j = some v ∧ v ≠ .null ∧ w = zren n0 q v := by
      constructor
      · rintro ⟨j, v, e, h, h1, h2⟩
        cases j with
        | zero =>
          simp [zgt] at h
          subst h
          exact Or.inl ⟨e, h1, h2⟩
        | succ j => exact Or.inr ⟨j, v, by omega, h, h1, h2⟩
      · rintro (⟨e, h1, h2⟩ | ⟨j, v, e, h, h1, h2⟩)
        · exact ⟨0, u, by omega, rfl, h1, h2⟩
        · exact ⟨j + 1, v, by omega, h, h1, h2⟩
    rw [key]
    cases u with
    | null => simp only [zpr]; rw [ih]; simp
    | int x => simp only [zpr, List.mem_cons]; rw [ih]; simp
    | long x => simp only [zpr, List.mem_cons]; rw [ih]; simp
    | float x => simp only [zpr, List.mem_cons]; rw [ih]; simp
    | double x => simp only [zpr, List.mem_cons]; rw [ih]; simp
    | ref x => simp only [zpr, List.mem_cons]; rw [ih]; simp
    | retAddr x => simp only [zpr, List.mem_cons]; rw [ih]; simp
theorem zpr_in {n0 : Nat} {q : Nat → Nat} {l : List Value} {k : Nat} {v : Value} (h : zgt l k = some v) (hv : v ≠ .null) : (k, zren n0 q v) ∈ zpr n0 q 0 l := zpr_mem.mpr ⟨k, v, by omega, h, hv, rfl⟩
theorem zpr_of {n0 : Nat} {q : Nat → Nat} {l : List Value} {p : Nat × Value} (h : p ∈ zpr n0 q 0 l) : ∃ v, zgt l p.1 = some v ∧ v ≠ .null ∧ p.2 = zren n0 q v := by
  obtain ⟨k, w⟩ := p
  obtain ⟨j, v, e, h1, h2, h3⟩ := zpr_mem.mp h
  have : k = j := by omega
  subst this
  exact ⟨v, h1, h2, h3⟩
theorem zLoc.at {n0 : Nat} {q : Nat → Nat} {nL : Nat} {ls : List Value} {lsM : Array Slot} (h : zLoc n0 q nL ls lsM) {k : Nat} {v : Value} (hk : zgt ls k = some v) (hv : v ≠ .null) : lsM[k]? = some (.val (zren n0 q v)) := h.2.2.2 _ (zpr_in hk hv)
theorem zkill_len (ls : List Value) (i : Nat) : (zkill ls i).length = ls.length := by
  unfold zkill
  split
  · rfl
  · split <;> simp
theorem zkill_at {ls : List Value} {i k : Nat} {v : Value} (h : zgt (zkill ls i) k = some v) (hv : v ≠ .null) : zgt ls k = some v ∧ ¬ (k + 1 = i ∧ v.category = 2) := by
  unfold zkill at h
  split at h
  · exact ⟨h, fun e => by omega⟩
  · next j =>
    by_cases hkj : k = j
    · subst hkj
      split at h
      · next x e =>
        rw [zgt_set_self _ (zgt_lt e)] at h
        cases h
        exact absurd rfl hv
      · next x e =>
        rw [zgt_set_self _ (zgt_lt e)] at h
        cases h
        exact absurd rfl hv
      · next h1 h2 =>
        refine ⟨h, fun e => ?_⟩
        cases v with
        | long x => exact h1 x h
        | double x => exact h2 x h
        | _ => simp [Value.category] at e
    · refine ⟨?_, fun e => hkj (by omega)⟩
      split at h
      · rw [zgt_set_ne _ hkj] at h; exact h
      · rw [zgt_set_ne _ hkj] at h; exact h
      · exact h
theorem zren_cat (n0 : Nat) (q : Nat → Nat) (v : Value) : (zren n0 q v).category = v.category := by
  cases v <;> rfl
theorem zLoc.sto1 {n0 : Nat} {q : Nat → Nat} {nL i : Nat} {ls : List Value} {v : Value} {lsM' : Array Slot} (hlen : ls.length = nL) (hi : i < nL) (h : lv_has lsM' nL ((i, zren n0 q v) :: (zpr n0 q 0 ls).filter (fun q => !(q.1 == i) && !(q.1 + 1 == i && q.2.category == 2)))) : zLoc n0 q nL (zsto1 ls i v) lsM' := by
  refine ⟨by simp [zsto1, zkill_len, hlen], h.1, h.2.1, fun p hp => ?_⟩
  obtain ⟨w, h1, h2, h3⟩ := zpr_of hp
  obtain ⟨k, u⟩ := p
  simp only at h1 h3
  subst h3
  refine h.2.2 _ ?_
  unfold zsto1 at h1
  by_cases hk : k = i
  · subst hk
    rw [zgt_set_self _ (by rw [zkill_len, hlen]; exact hi)] at h1
    cases h1
    exact List.mem_cons_self
  · rw [zgt_set_ne _ hk] at h1
    obtain ⟨h4, h5⟩ := zkill_at h1 h2
    refine List.mem_cons_of_mem _ (List.mem_filter.mpr ⟨zpr_in h4 h2, ?_⟩)
    simp only [zren_cat, Bool.and_eq_true, Bool.not_eq_true', beq_eq_false_iff_ne, ne_eq, Bool.and_eq_false_iff]
    refine ⟨hk, ?_⟩
    by_cases h6 : k + 1 = i
    · exact Or.inr (fun e => h5 ⟨h6, e⟩)
    · exact Or.inl h6
theorem zLoc.sto2 {n0 : Nat} {q : Nat → Nat} {nL i : Nat} {ls : List Value} {v : Value} {lsM' : Array Slot} (hlen : ls.length = nL) (hi : i + 1 < nL) (h : lv_has lsM' nL ((i, zren n0 q v) :: (zpr n0 q 0 ls).filter (fun q => !(q.1 == i) && (!(q.1 == i + 1) && !(q.1 + 1 == i && q.2.category == 2))))) : zLoc n0 q nL (zsto2 ls i v) lsM' := by
  refine ⟨by simp [zsto2, zkill_len, hlen], h.1, h.2.1, fun p hp => ?_⟩
  obtain ⟨w, h1, h2, h3⟩ := zpr_of hp
  obtain ⟨k, u⟩ := p
  simp only at h1 h3
  subst h3
  refine h.2.2 _ ?_
  unfold zsto2 at h1
  by_cases hk1 : k = i + 1
  · subst hk1
    rw [zgt_set_self _ (by simp [zkill_len, hlen]; exact hi)] at h1
    cases h1
    exact absurd rfl h2
  · rw [zgt_set_ne _ hk1] at h1
    by_cases hk : k = i
    · subst hk
      rw [zgt_set_self _ (by rw [zkill_len, hlen]; omega)] at h1
      cases h1
      exact List.mem_cons_self
    · rw [zgt_set_ne _ hk] at h1
      obtain ⟨h4, h5⟩ := zkill_at h1 h2
      refine List.mem_cons_of_mem _ (List.mem_filter.mpr ⟨zpr_in h4 h2, ?_⟩)
      simp only [zren_cat, Bool.and_eq_true, Bool.not_eq_true', beq_eq_false_iff_ne, ne_eq, Bool.and_eq_false_iff]
      refine ⟨hk, hk1, ?_⟩
      by_cases h6 : k + 1 = i
      · exact Or.inr (fun e => h5 ⟨h6, e⟩)
      · exact Or.inl h6
theorem zLoc.clr {n0 : Nat} {q : Nat → Nat} {nL : Nat} {lsM : Array Slot} : ∀ (is : List Nat) {ls : List Value}, zLoc n0 q nL ls lsM → zLoc n0 q nL (zclr is ls) lsM
  | [], _, h => h
  | i :: is, ls, h => zLoc.clr is ⟨by simp [h.1], h.2.1, h.2.2.1, fun p hp => by
    obtain ⟨w, h1, h2, h3⟩ := zpr_of hp
    obtain ⟨k, u⟩ := p
    simp only at h1 h3
    subst h3
    by_cases hk : k = i
    · subst hk
      have hl := zgt_lt h1
      rw [List.length_set] at hl
      rw [zgt_set_self _ hl] at h1
      cases h1
      exact absurd rfl h2
    · rw [zgt_set_ne _ hk] at h1
      exact h.2.2.2 _ (zpr_in h1 h2)⟩
theorem zwd_get {kA : Nat → ClassId} {n0 : Nat} {q : Nat → Nat} {M : zM} {a : Nat} {s : zS} (h : zgt M.1 a = some s) : (zwd kA n0 q M)[a]? = some (n0 + a, zce kA n0 q M.2.1 M.2.2 a s) := by
  rw [zgt_eq] at h
  simp [zwd, List.getElem?_mapIdx, h]
theorem zwd_addr {kA : Nat → ClassId} {n0 : Nat} {q : Nat → Nat} {M : zM} {a : Nat} {p : Nat × va_E} (h : (zwd kA n0 q M)[a]? = some p) : p.1 = n0 + a := by
  rw [zwd, List.getElem?_mapIdx] at h
  cases e : M.1[a]? with
  | none => rw [e] at h; cases h
  | some s =>
    rw [e] at h
    simp only [Option.map_some, Option.some.injEq] at h
    rw [← h]
theorem zwd_D (kA : Nat → ClassId) (n0 : Nat) (q : Nat → Nat) (M : zM) : va_D (fun a => n0 ≤ a) (zwd kA n0 q M) := by
  refine ⟨fun i j x y hi hj e => ?_, fun k x h => ?_⟩
  · rw [zwd_addr hi, zwd_addr hj] at e
    omega
  · rw [zwd_addr h]
    exact Nat.le_add_right _ _
theorem zce_congr {kA : Nat → ClassId} {n0 : Nat} {q : Nat → Nat} {I I' : zI} {L L' : zL} {i : Nat} (h1 : I' i = I i) (h2 : L' i = L i) (s : zS) : zce kA n0 q I' L' i s = zce kA n0 q I L i s := by
  rcases s with ⟨t, n⟩ | ⟨ci, fs⟩
  · unfold zce
    split <;> simp_all
  · simp only [zce, zfs]
    congr 2
    apply congrArg (fun f => List.mapIdx f fs)
    funext k kd
    unfold zval
    split <;> simp [h1, h2]
theorem zwd_set {kA : Nat → ClassId} {n0 : Nat} {q : Nat → Nat} {M M' : zM} {a : Nat} {s' : zS} (hl : M'.1.length = M.1.length) (ha : zgt M'.1 a = some s') (hS : ∀ i, i ≠ a → zgt M'.1 i = zgt M.1 i) (hI : ∀ i, i ≠ a → M'.2.1 i = M.2.1 i) (hL : ∀ i, i ≠ a → M'.2.2 i = M.2.2 i) : zwd kA n0 q M' = (zwd kA n0 q M).set a (n0 + a, zce kA n0 q M'.2.1 M'.2.2 a s') := by
  apply List.ext_getElem?
  intro i
  by_cases hi : i = a
  · subst hi
    rw [zwd_get ha, List.getElem?_set_self]
    have := zgt_lt ha
    simp [zwd]
    omega
  · rw [List.getElem?_set_ne (Ne.symm hi)]
    have e := hS i hi
    rw [zgt_eq, zgt_eq] at e
    simp only [zwd, List.getElem?_mapIdx, e]
    cases M.1[i]? with
    | none => rfl
    | some s => simp only [Option.map_some]; rw [zce_congr (hI i hi) (hL i hi)]
theorem zwd_push {kA : Nat → ClassId} {n0 : Nat} {q : Nat → Nat} {M : zM} {s : zS} {I' : zI} {L' : zL} (hI : ∀ i, i < M.1.length → I' i = M.2.1 i) (hL : ∀ i, i < M.1.length → L' i = M.2.2 i) : zwd kA n0 q (M.1 ++ [s], I', L') = zwd kA n0 q M ++ [(n0 + M.1.length, zce kA n0 q I' L' M.1.length s)] := by
  apply List.ext_getElem?
  intro i
  simp only [zwd, List.getElem?_mapIdx]
  by_cases hi : i < M.1.length
  · rw [List.getElem?_append_left hi, List.getElem?_append_left (by simpa using hi), List.getElem?_mapIdx]
    cases M.1[i]? with
    | none => rfl
    | some s => simp only [Option.map_some]; rw [zce_congr (hI i hi) (hL i hi)]
  · by_cases he : i = M.1.length
    · subst he
      simp
    · rw [List.getElem?_eq_none (by simp; omega), List.getElem?_eq_none (by simp; omega)]
      rfl
