/-! a run of the small machine is a run of the machine -/
def zShp (S S' : List zS) : Prop := S' = S ∨ (∃ x, S' = S ++ [x]) ∨ ∃ o x y, zgt S o = some y ∧ zsz x = zsz y ∧ S' = S.set o x
theorem zput_shp {a k cj : Nat} {fs : List zF} {pc pc' : Nat} {ls r ls' st' : List Value} {v : Value} {M M' : zM} {kd : zF} (hf : zgt M.1 a = some (.inr (cj, fs))) (hz : zput a k cj fs pc ls r v M kd = some (.inl (pc', ls', st', M'))) : zShp M.1 M'.1 := by
  unfold zput at hz
  repeat' (split at hz)
  all_goals first
    | (cases hz; done)
    | (unfold zn at hz; cases hz; exact Or.inl rfl)
    | (unfold zn at hz; cases hz; exact Or.inr (Or.inr ⟨a, _, _, hf, by simp [zsz], rfl⟩))
set_option maxHeartbeats 4000000 in
theorem zx_shp {X : zSc} {m0 : zMt} {pc pc' n : Nat} {ls st ls' st' : List Value} {M M' : zM} {i : Instr} (hz : zx X m0 pc ls st M n i = some (.inl (pc', ls', st', M'))) : zShp M.1 M'.1 := by
  cases i
  case putfield a =>
    replace hz : zputf (zow m0) a (pc + n) ls st M = _ := hz
    unfold zputf at hz
    split at hz
    · split at hz
      · next ci k pl _ =>
        split at hz
        · next o _ _ _ _ _ cj fs hf =>
          cases hb2 : Nat.beq ci cj with
          | false => rw [hb2] at hz; cases hz
          | true =>
            rw [hb2] at hz
            have hcj := Nat.eq_of_beq_eq_true hb2
            subst hcj
            dsimp only [cond_true] at hz
            split at hz
            · next kd kd0 _ _ =>
              cases hke : zke kd kd0 with
              | false => rw [hke] at hz; cases hz
              | true => rw [hke] at hz; exact zput_shp hf hz
            · cases hz
        · cases hz
      · cases hz
    · cases hz
  case new a =>
    replace hz : znew (zow m0) a (pc + n) ls st M = _ := hz
    unfold znew at hz
    repeat' (split at hz)
    · unfold zadd zn at hz; cases hz; exact Or.inr (Or.inl ⟨_, rfl⟩)
    · cases hz
    · cases hz
  case newarray a =>
    simp only [zx, znat, zadd, zn] at hz
    repeat' (split at hz)
    all_goals first
      | (cases hz; exact Or.inr (Or.inl ⟨_, rfl⟩))
      | cases hz
  all_goals (
    simp only [zx, zn, zs1, zs2, zli, zll, zlf, zldd, zla, zisto, zasto, zlsto, zdsto, zbi, zbl, zbd, zgetf, zild, zlld, zbld, zias, zlas, zbas, zlen, zinv, zspec, zpc, zp0, zp1, zp2, zp3, zp4, zp5, zret, Bool.cond_eq_ite] at hz
    repeat' (split at hz)
    all_goals first
      | (cases hz; exact Or.inl rfl)
      | cases hz
      | exact (zcall_inl hz).elim)
theorem zShp.le {S S' : List zS} (h : zShp S S') : S.length ≤ S'.length ∧ zsize S ≤ zsize S' := by
  rcases h with rfl | ⟨x, rfl⟩ | ⟨o, x, y, h1, h2, rfl⟩
  · exact ⟨Nat.le_refl _, Nat.le_refl _⟩
  · rw [zsize_push]; simp
  · rw [zsize_set h1 h2]; simp
theorem zrun_le2 {X : zSc} : ∀ (f : Nat) {m0 : zMt} {pc : Nat} {ls st : List Value} {M : zM} {r : Option Value} {M' : zM}, zrun X f m0 pc ls st M = some (r, M') → M.1.length ≤ M'.1.length ∧ zsize M.1 ≤ zsize M'.1 := by
  intro f
  induction f with
  | zero => intro m0 pc ls st M r M' h; cases h
  | succ f ih =>
    intro m0 pc ls st M r M' h
    rw [zrun] at h
    split at h
    · cases h
    · next pc1 ls1 st1 M1 e1 =>
      have h1 := ih h
      unfold zstep at e1
      split at e1
      · have h2 := (zx_shp e1).le
        omega
      · cases e1
    · split at h
      · cases h
      · next v M1 e1 =>
        have h1 := ih e1
        have h2 := ih h
        omega
    · cases h
      exact ⟨Nat.le_refl _, Nat.le_refl _⟩
def zRt (m0 : zMt) (i : Instr) (v : Option Value) : Prop := (v = none ∧ i = .return_ ∧ zrt m0 = none) ∨ (∃ x, v = some (.int x) ∧ i = .ireturn ∧ (zrt m0 = some .int ∨ (zrt m0 = some .boolean ∧ (x = 0 ∨ x = 1)))) ∨ (∃ x, v = some (.long x) ∧ i = .lreturn ∧ zrt m0 = some .long) ∨ (∃ x, v = some (.double x) ∧ i = .dreturn ∧ zrt m0 = some .double)
theorem zcall_ok {mm mj : zMt} {idx kind pc1 pc2 : Nat} {l1 s1 as rest : List Value} {M1 : zM} (h : zcall mm idx kind pc1 l1 s1 M1 = some (.inr (.inl (mj, as, pc2, rest)))) : ∃ na, zlkM (zow mm) idx = some (kind, na, mj) ∧ zlv mj < zlv mm ∧ zargs na [] s1 = some (as, rest) ∧ zcat rest ≤ 8 ∧ (zsp as).length ≤ zmx mj ∧ pc2 = pc1 ∧ ((kind = 0 ∧ ∃ a t, as = .ref a :: t ∧ zcls M1.1 a = some (zow mj)) ∨ kind = 1 ∨ ((kind = 2 ∨ kind = 3) ∧ ∃ a t, as = .ref a :: t)) := by
  unfold zcall at h
  split at h
  · next kd na mj2 hlk =>
    cases h1 : (Nat.beq kd kind && Nat.blt (zlv mj2) (zlv mm)) with
    | false => rw [h1] at h; cases h
    | true =>
      rw [h1] at h
      simp only [Bool.and_eq_true] at h1
      have hk := Nat.eq_of_beq_eq_true h1.1
      have hlv := Nat.le_of_ble_eq_true h1.2
      subst hk
      dsimp only [cond_true] at h
      split at h
      · next as2 rest2 hargs =>
        cases h2 : (Nat.ble (zcat rest2) 8 && Nat.ble (zsp as2).length (zmx mj2)) with
        | false => rw [h2] at h; cases h
        | true =>
          rw [h2] at h
          simp only [Bool.and_eq_true] at h2
          have hc := Nat.le_of_ble_eq_true h2.1
          have hl := Nat.le_of_ble_eq_true h2.2
          dsimp only [cond_true] at h
          split at h
          · next a t =>
            split at h
            · next c hcl =>
              cases h3 : Nat.beq c (zow mj2) with
              | false => rw [h3] at h; cases h
              | true =>
                rw [h3] at h
                have hcc := Nat.eq_of_beq_eq_true h3
                subst hcc
                cases h
                exact ⟨na, hlk, hlv, hargs, hc, hl, rfl, Or.inl ⟨rfl, a, t, rfl, hcl⟩⟩
            · cases h
          · cases h
            exact ⟨na, hlk, hlv, hargs, hc, hl, rfl, Or.inr (Or.inl rfl)⟩
          · next a t =>
            cases h
            exact ⟨na, hlk, hlv, hargs, hc, hl, rfl, Or.inr (Or.inr ⟨Or.inl rfl, a, t, rfl⟩)⟩
          · next a t =>
            cases h
            exact ⟨na, hlk, hlv, hargs, hc, hl, rfl, Or.inr (Or.inr ⟨Or.inr rfl, a, t, rfl⟩)⟩
          · cases h
      · cases h
  · cases h
theorem zcall_noret {mm : zMt} {idx kind pc1 : Nat} {l1 s1 : List Value} {M1 : zM} {v : Option Value} (h : zcall mm idx kind pc1 l1 s1 M1 = some (.inr (.inr v))) : False := by
  unfold zcall at h
  simp only [Bool.cond_eq_ite] at h
  repeat' (split at h)
  all_goals cases h
set_option maxHeartbeats 4000000 in
theorem zx_ret {X : zSc} {m0 : zMt} {pc n : Nat} {ls st : List Value} {M : zM} {i : Instr} {v : Option Value} (hz : zx X m0 pc ls st M n i = some (.inr (.inr v))) : st = v.toList ∧ zRt m0 i v := by
  cases i
  case ireturn =>
    replace hz : zret m0 st = _ := hz
    unfold zret at hz
    split at hz
    · next x =>
      split at hz
      · next h => cases hz; exact ⟨rfl, Or.inr (Or.inl ⟨x, rfl, rfl, Or.inl h⟩)⟩
      · next h =>
        split at hz
        · next h2 => cases hz; exact ⟨rfl, Or.inr (Or.inl ⟨x, rfl, rfl, Or.inr ⟨h, h2⟩⟩)⟩
        · cases hz
      · cases hz
    · cases hz
  case lreturn =>
    simp only [zx] at hz
    split at hz
    · next x =>
      split at hz
      · next h => cases hz; exact ⟨rfl, Or.inr (Or.inr (Or.inl ⟨x, rfl, rfl, h⟩))⟩
      · cases hz
    · cases hz
  case dreturn =>
    simp only [zx] at hz
    split at hz
    · next x =>
      split at hz
      · next h => cases hz; exact ⟨rfl, Or.inr (Or.inr (Or.inr ⟨x, rfl, rfl, h⟩))⟩
      · cases hz
    · cases hz
  case return_ =>
    simp only [zx] at hz
    split at hz
    · split at hz
      · next h => cases hz; exact ⟨rfl, Or.inl ⟨rfl, rfl, h⟩⟩
      · cases hz
    · cases hz
  all_goals (
    exfalso
    simp only [zx, zn, zs1, zs2, zli, zll, zlf, zldd, zla, zisto, zasto, zlsto, zdsto, zbi, zbl, zbd, zgetf, zputf, zput, zild, zlld, zbld, zias, zlas, zbas, zlen, znew, znat, zadd, zinv, zspec, zpc, zp0, zp1, zp2, zp3, zp4, zp5, Bool.cond_eq_ite] at hz
    repeat' (split at hz)
    all_goals first
      | cases hz
      | exact zcall_noret hz)
set_option maxHeartbeats 4000000 in
theorem zx_call {X : zSc} {m0 mj : zMt} {pc n pc1 : Nat} {ls st as rest : List Value} {M : zM} {i : Instr} (hz : zx X m0 pc ls st M n i = some (.inr (.inl (mj, as, pc1, rest)))) : ∃ idx kind, ((i = .invokevirtual idx ∧ kind = 0) ∨ (i = .invokestatic idx ∧ kind = 1) ∨ (i = .invokespecial idx ∧ (kind = 2 ∨ kind = 3))) ∧ zcall m0 idx kind (pc + n) ls st M = some (.inr (.inl (mj, as, pc1, rest))) := by
  cases i
  case invokevirtual a =>
    replace hz : zinv m0 a 0 (pc + n) ls st M = _ := hz
    unfold zinv at hz
    split at hz
    · exfalso
      simp only [zpc, zp0, zp1, zp2, zp3, zp4, zp5, zn, Bool.cond_eq_ite] at hz
      repeat' (split at hz)
      all_goals cases hz
    · exact ⟨a, 0, Or.inl ⟨rfl, rfl⟩, hz⟩
  case invokestatic a =>
    replace hz : zinv m0 a 1 (pc + n) ls st M = _ := hz
    unfold zinv at hz
    split at hz
    · exfalso
      simp only [zpc, zp0, zp1, zp2, zp3, zp4, zp5, zn, Bool.cond_eq_ite] at hz
      repeat' (split at hz)
      all_goals cases hz
    · exact ⟨a, 1, Or.inr (Or.inl ⟨rfl, rfl⟩), hz⟩
  case invokespecial a =>
    replace hz : zspec m0 a (pc + n) ls st M = _ := hz
    unfold zspec at hz
    split at hz
    · exact ⟨a, 3, Or.inr (Or.inr ⟨rfl, Or.inr rfl⟩), hz⟩
    · unfold zinv at hz
      split at hz
      · exfalso
        simp only [zpc, zp0, zp1, zp2, zp3, zp4, zp5, zn, Bool.cond_eq_ite] at hz
        repeat' (split at hz)
        all_goals cases hz
      · exact ⟨a, 2, Or.inr (Or.inr ⟨rfl, Or.inl rfl⟩), hz⟩
  all_goals (
    exfalso
    simp only [zx, zn, zs1, zs2, zli, zll, zlf, zldd, zla, zisto, zasto, zlsto, zdsto, zbi, zbl, zbd, zgetf, zputf, zput, zild, zlld, zbld, zias, zlas, zbas, zlen, znew, znat, zadd, zret, Bool.cond_eq_ite] at hz
    repeat' (split at hz)
    all_goals cases hz)
theorem zargs_ok : ∀ {n : Nat} {acc st as rest : List Value}, zargs n acc st = some (as, rest) → ∃ xs : List Value, xs.length = n ∧ as = xs ++ acc ∧ st = xs.reverse ++ rest
  | 0, acc, st, as, rest, h => by
    cases h
    exact ⟨[], rfl, rfl, rfl⟩
  | n + 1, acc, v :: st, as, rest, h => by
    obtain ⟨xs, h1, h2, h3⟩ := zargs_ok (n := n) (acc := v :: acc) h
    exact ⟨xs ++ [v], by simp [h1], by simp [h2], by simp [h3]⟩
  | n + 1, acc, [], as, rest, h => by cases h
/-- the locals at a method's entry -/
theorem zent_in {n0 : Nat} {q : Nat → Nat} {x : Nat × Value} : ∀ {as : List Value} {n b : Nat}, x ∈ zpr n0 q b (zpad n (zsp as)) → x ∈ lv_args b (as.map (zren n0 q)) := by
  have hnil : ∀ (n b : Nat), zpr n0 q b (zpad n []) = [] := by
    intro n
    induction n with
    | zero => intro b; rfl
    | succ n ih => intro b; exact ih (b + 1)
  intro as
  induction as with
  | nil =>
    intro n b h
    rw [show zsp ([] : List Value) = [] from rfl, hnil] at h
    cases h
  | cons v as ih =>
    intro n b h
    cases v with
    | long y =>
      cases n with
      | zero =>
        have h' : x ∈ zpr n0 q b (.long y :: .null :: zpad 0 (zsp as)) := h
        simp only [zpr, List.mem_cons] at h'
        rcases h' with h' | h'
        · exact List.mem_cons.mpr (Or.inl h')
        · exact List.mem_cons_of_mem _ (ih (n := 0) h')
      | succ n =>
        cases n with
        | zero =>
          have h' : x ∈ zpr n0 q b (.long y :: .null :: zpad 0 (zsp as)) := h
          simp only [zpr, List.mem_cons] at h'
          rcases h' with h' | h'
          · exact List.mem_cons.mpr (Or.inl h')
          · exact List.mem_cons_of_mem _ (ih (n := 0) h')
        | succ n =>
          have h' : x ∈ zpr n0 q b (.long y :: .null :: zpad n (zsp as)) := h
          simp only [zpr, List.mem_cons] at h'
          rcases h' with h' | h'
          · exact List.mem_cons.mpr (Or.inl h')
          · exact List.mem_cons_of_mem _ (ih (n := n) h')
    | double y =>
      cases n with
      | zero =>
        have h' : x ∈ zpr n0 q b (.double y :: .null :: zpad 0 (zsp as)) := h
        simp only [zpr, List.mem_cons] at h'
        rcases h' with h' | h'
        · exact List.mem_cons.mpr (Or.inl h')
        · exact List.mem_cons_of_mem _ (ih (n := 0) h')
      | succ n =>
        cases n with
        | zero =>
          have h' : x ∈ zpr n0 q b (.double y :: .null :: zpad 0 (zsp as)) := h
          simp only [zpr, List.mem_cons] at h'
          rcases h' with h' | h'
          · exact List.mem_cons.mpr (Or.inl h')
          · exact List.mem_cons_of_mem _ (ih (n := 0) h')
        | succ n =>
          have h' : x ∈ zpr n0 q b (.double y :: .null :: zpad n (zsp as)) := h
          simp only [zpr, List.mem_cons] at h'
          rcases h' with h' | h'
          · exact List.mem_cons.mpr (Or.inl h')
          · exact List.mem_cons_of_mem _ (ih (n := n) h')
    | int y =>
      have h' : x ∈ zpr n0 q b (.int y :: zpad (n - 1) (zsp as)) := by cases n <;> exact h
      simp only [zpr, List.mem_cons] at h'
      rcases h' with h' | h'
      · exact List.mem_cons.mpr (Or.inl h')
      · exact List.mem_cons_of_mem _ (ih h')
    | float y =>
      have h' : x ∈ zpr n0 q b (.float y :: zpad (n - 1) (zsp as)) := by cases n <;> exact h
      simp only [zpr, List.mem_cons] at h'
      rcases h' with h' | h'
      · exact List.mem_cons.mpr (Or.inl h')
      · exact List.mem_cons_of_mem _ (ih h')
    | ref y =>
      have h' : x ∈ zpr n0 q b (.ref y :: zpad (n - 1) (zsp as)) := by cases n <;> exact h
      simp only [zpr, List.mem_cons] at h'
      rcases h' with h' | h'
      · exact List.mem_cons.mpr (Or.inl h')
      · exact List.mem_cons_of_mem _ (ih h')
    | retAddr y =>
      have h' : x ∈ zpr n0 q b (.retAddr y :: zpad (n - 1) (zsp as)) := by cases n <;> exact h
      simp only [zpr, List.mem_cons] at h'
      rcases h' with h' | h'
      · exact List.mem_cons.mpr (Or.inl h')
      · exact List.mem_cons_of_mem _ (ih h')
    | null =>
      have h' : x ∈ zpr n0 q b (.null :: zpad (n - 1) (zsp as)) := by cases n <;> exact h
      simp only [zpr] at h'
      exact List.mem_cons_of_mem _ (ih h')
theorem zpad_len : ∀ (n : Nat) (l : List Value), l.length ≤ n → (zpad n l).length = n
  | 0, l, h => by
    cases l with
    | nil => rfl
    | cons a l => simp at h
  | n + 1, [], h => by simp [zpad, zpad_len n [] (Nat.zero_le n)]
  | n + 1, a :: l, h => by simp [zpad, zpad_len n l (by simpa using h)]
theorem zsp_len (n0 : Nat) (q : Nat → Nat) : ∀ as : List Value, (lg_sl (as.map (zren n0 q))).length = (zsp as).length
  | [] => rfl
  | v :: as => by
    have ih := zsp_len n0 q as
    cases v <;> simp_all [lg_sl, zsp, zren, Value.category]
theorem zentLoc {n0 : Nat} {q : Nat → Nat} {as : List Value} {n : Nat} (h : (zsp as).length ≤ n) : zLoc n0 q n (zent n as) ((lg_sl (as.map (zren n0 q)) ++ List.replicate (n - (lg_sl (as.map (zren n0 q))).length) Slot.unset).toArray) := by
  have h1 := lv_entry (as.map (zren n0 q)) (n := n) (by rw [zsp_len]; exact h)
  exact ⟨zpad_len _ _ h, h1.1, h1.2.1, fun x hx => h1.2.2 x (zent_in hx)⟩
