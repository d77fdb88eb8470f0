def ty_len : MethodName := ⟨"java/lang/String", "length", "()I"⟩
abbrev tc_len : ByteArray := prog_17_method_54_code
theorem tw_len : Cond.code ty_len tc_len 1 (some .int) ∈ lw_tbl := zm3 (List.mem_of_getElem? (i := 220) rfl)
def ts_len : List Cond := Cond.code ty_len tc_len 1 (some .int) :: zTb
theorem tg_len : GoodIn zTb ts_len := by
  intro w hw
  rcases List.mem_cons.mp hw with rfl | h
  · exact ⟨zg tw_len rfl, good_of_word rfl⟩
  · exact ⟨h, good_of_word (List.mem_filter.mp h).2⟩
def ty_cod : MethodName := ⟨"java/lang/String", "coder", "()B"⟩
abbrev tc_cod : ByteArray := prog_17_method_152_code
theorem tw_cod : Cond.code ty_cod tc_cod 1 (some .byte) ∈ lw_tbl := zm3 (List.mem_of_getElem? (i := 224) rfl)
def ts_cod : List Cond := Cond.code ty_cod tc_cod 1 (some .byte) :: zTb
theorem tg_cod : GoodIn zTb ts_cod := by
  intro w hw
  rcases List.mem_cons.mp hw with rfl | h
  · exact ⟨zg tw_cod rfl, good_of_word rfl⟩
  · exact ⟨h, good_of_word (List.mem_filter.mp h).2⟩
def ty_chr : MethodName := ⟨"java/lang/String", "charAt", "(I)C"⟩
abbrev tc_chr : ByteArray := prog_17_method_56_code
theorem tw_chr : Cond.code ty_chr tc_chr 2 (some .char) ∈ lw_tbl := zm3 (List.mem_of_getElem? (i := 230) rfl)
def ts_chr : List Cond := Cond.code ty_chr tc_chr 2 (some .char) :: zTb
theorem tg_chr : GoodIn zTb ts_chr := by
  intro w hw
  rcases List.mem_cons.mp hw with rfl | h
  · exact ⟨zg tw_chr rfl, good_of_word rfl⟩
  · exact ⟨h, good_of_word (List.mem_filter.mp h).2⟩
def ty_lat : MethodName := ⟨"java/lang/String", "isLatin1", "()Z"⟩
abbrev tc_lat : ByteArray := prog_17_method_154_code
theorem tw_lat : Cond.code ty_lat tc_lat 1 (some .boolean) ∈ lw_tbl := zm3 (List.mem_of_getElem? (i := 234) rfl)
def ts_lat : List Cond := Cond.code ty_lat tc_lat 1 (some .boolean) :: zTb
theorem tg_lat : GoodIn zTb ts_lat := by
  intro w hw
  rcases List.mem_cons.mp hw with rfl | h
  · exact ⟨zg tw_lat rfl, good_of_word rfl⟩
  · exact ⟨h, good_of_word (List.mem_filter.mp h).2⟩
def ty_lch : MethodName := ⟨"java/lang/StringLatin1", "charAt", "([BI)C"⟩
abbrev tc_lch : ByteArray := prog_18_method_2_code
theorem tw_lch : Cond.code ty_lch tc_lch 2 (some .char) ∈ lw_tbl := zm3 (List.mem_of_getElem? (i := 237) rfl)
def ts_lch : List Cond := Cond.code ty_lch tc_lch 2 (some .char) :: zTb
theorem tg_lch : GoodIn zTb ts_lch := by
  intro w hw
  rcases List.mem_cons.mp hw with rfl | h
  · exact ⟨zg tw_lch rfl, good_of_word rfl⟩
  · exact ⟨h, good_of_word (List.mem_filter.mp h).2⟩
def ty_chk : MethodName := ⟨"java/lang/String", "checkIndex", "(II)V"⟩
abbrev tc_chk : ByteArray := prog_17_method_155_code
theorem tw_chk : Cond.code ty_chk tc_chk 2 none ∈ lw_tbl := zm4 (List.mem_of_getElem? (i := 0) rfl)
def ts_chk : List Cond := Cond.code ty_chk tc_chk 2 none :: zTb
theorem tg_chk : GoodIn zTb ts_chk := by
  intro w hw
  rcases List.mem_cons.mp hw with rfl | h
  · exact ⟨zg tw_chk rfl, good_of_word rfl⟩
  · exact ⟨h, good_of_word (List.mem_filter.mp h).2⟩
def ty_pck : MethodName := ⟨"jdk/internal/util/Preconditions", "checkIndex", "(IILjava/util/function/BiFunction;)I"⟩
abbrev tc_pck : ByteArray := prog_21_method_11_code
theorem tw_pck : Cond.code ty_pck tc_pck 3 (some .int) ∈ lw_tbl := zm4 (List.mem_of_getElem? (i := 5) rfl)
def ts_pck : List Cond := Cond.code ty_pck tc_pck 3 (some .int) :: zTb
theorem tg_pck : GoodIn zTb ts_pck := by
  intro w hw
  rcases List.mem_cons.mp hw with rfl | h
  · exact ⟨zg tw_pck rfl, good_of_word rfl⟩
  · exact ⟨h, good_of_word (List.mem_filter.mp h).2⟩
def zQs (v : Option Value) : Array Value → State → Outcome → State → Prop := fun _ st oc t => oc = .returned v ∧ t.heap = st.heap
def zPt (n0 : Nat) (q : Nat → Nat) (X : zSc) (av : List Value) : Array Value → State → Prop := va_Pc av (fun U => zExt n0 q X U U.heap ∧ n0 ≤ U.heap.size)
theorem zExt.same {n0 : Nat} {q : Nat → Nat} {X : zSc} {s U : State} {H : Heap} (hv : U.vm = s.vm) (h : zExt n0 q X s H) : zExt n0 q X U H := by
  have ha : s.vm.Alike U.vm := by rw [hv]; exact Vm.Alike.refl _
  obtain ⟨h1, h2, ⟨h3, h4, h5, h6⟩, h7⟩ := h
  refine ⟨h1.moved ha, h2, ⟨fun own idx k hk2 => (h3 own idx k hk2).same hv, fun k hk2 => ?_, h5.moved ha, h6.moved ha⟩, fun own idx y hm => va_Nw.same rfl hv.symm (h7 own idx y hm)⟩
  obtain ⟨g1, g2, g3, g4⟩ := h4 k hk2
  exact ⟨g1.moved ha, g2.moved ha, g3.moved ha, g4.moved ha⟩
theorem zExt.at {n0 : Nat} {q : Nat → Nat} {X : zSc} {s U : State} {H : Heap} (h : zExt n0 q X s s.heap) (hn : n0 ≤ s.heap.size) (hk : ∀ a, a < s.heap.size → ¬ zA n0 a → H[a]? = s.heap[a]?) (hW : s.WarmedH U.vm) : zExt n0 q X U H := by
  obtain ⟨h1, h2, ⟨h3, h4, h5, h6⟩, h7⟩ := h
  refine ⟨va_X.moved hW.alike (h1.kept (hk _ (by omega) (Nat.not_le.mpr h2))), h2, ⟨fun own idx k hk2 => (h3 own idx k hk2).warm hW, fun k hk2 => ?_, (h5.kept hk).moved hW.alike, (h6.kept hk).moved hW.alike⟩, fun own idx y hm => va_Nw.warmM hW (h7 own idx y hm)⟩
  obtain ⟨g1, g2, g3, g4⟩ := h4 k hk2
  exact ⟨(g1.kept hk).moved hW.alike, (g2.kept hk).moved hW.alike, (g3.kept hk).moved hW.alike, (g4.kept hk).moved hW.alike⟩
theorem zPt_blind {n0 : Nat} {q : Nat → Nat} {X : zSc} {av : List Value} : FrameBlind (zPt n0 q X av) := by
  rintro a U g mk ⟨h1, h2, h3⟩
  exact ⟨h1, zExt.same (s := U) (U := U.calling g mk a) rfl h2, h3⟩
theorem zs_backS {p : Program} {l : Launch} {e : Env} {R : Room} {s : State} {m : MethodId} {args a : Array Value} {below : List Frame} {meth : Method} {c : Code} {Q : State → Prop} {H : Heap} {locs : List Loc} {cells slots pc : Nat} {ls : Array Slot} {st0 rest : List Value} {v : Option Value} (hr : va_Run p l e R s m args below meth c H locs cells slots 0 0 (F0 m pc ls st0) rest (zQs v a) (fun _ => False))
    (kk : W p l e R s m args below meth c H locs cells slots Q (F0 m (pc + 3) ls (v.toList ++ rest))) : W p l e R s m args below meth c H locs cells slots Q (F0 m pc ls st0) := by
  intro T hT X
  obtain ⟨v', st₀, t, T', L, h0, X', hL, e1, e2, ⟨h3, h4⟩, st⟩ := hr T hT X
  cases h3
  have hL0 : L = [] := by
    cases L with
    | nil => rfl
    | cons a L => exact (hL a List.mem_cons_self).elim
  subst hL0
  rw [List.append_nil] at X'
  obtain ⟨t2, a1, b1⟩ := kk T' (by rw [e1, h4, h0]) X'
  exact ⟨t2, st t2 a1, b1⟩
set_option maxRecDepth 100000 in
theorem tm_cod (l : Launch) (n0 : Nat) (q : Nat → Nat) (X : zSc) (k : Nat) (hk : k < 2) : Met l ty_cod ts_cod ({ frames := 0, cells := 0, slots := 0, locals := 0 }) (zPt n0 q X [.ref (q k)]) (zQs (some (.int 0))) 0 0 (fun _ => False) := by
  refine va_MetF (cc := tc_cod) (maxL := 1) (ret := (some .byte)) (ws' := zTb) (by decide +kernel) rfl ?_
  intro p e s m args below meth c s₁ B hml hv
  obtain ⟨rfl, hE, hn0⟩ := hv
  have hx := B.exec
  have hb := B.bytes
  have hr := B.returns
  have hlocks := B.notSynchronized
  have hts0 := atoms_spec (ws := ts_cod) B.pre
  have hts : ∀ w ∈ zTb, w.before _ s = true := fun w hw => hts0 w (List.mem_cons_of_mem _ hw)
  have hown : s.vm.findClass "java/lang/String" = some m.cls := findClass_of_methodNamed B.named
  have hS : va_S (zA n0) s.heap s.heap [] := va_S.rf
  have hl := lv_entry ([.ref (q k)]) (n := 1) (Nat.le_of_ble_eq_true rfl)
  rw [lg_entry_eq]
  generalize (lg_sl ([.ref (q k)]) ++ List.replicate (1 - (lg_sl ([.ref (q k)])).length) Slot.unset).toArray = ls at hl ⊢
  have hl : lv_has ls 1 [(0, .ref (q k))] := hl
  obtain ⟨-, -, ⟨-, hs4, hs5, -⟩, -⟩ := hE
  obtain ⟨g1, g2, g3, g4⟩ := hs4 k hk
  refine va_gets hx hb hs5 hS hown (hts _ (zg (zm3 (List.mem_of_getElem? (i := 225) rfl)) rfl)) (fun _ h => h) (by decide +kernel : decode tc_cod 0 = .ok (.getstatic 38, 3)) ?_
  refine lv_if_eq (tgt := 13) hx hb (by decide +kernel : decode tc_cod 3 = .ok (.ifCond .eq 10, 3)) (by decide) (fun h => absurd h (by decide)) (fun _ => ?_)
  refine lv_aload_n hx hb (by decide +kernel : decode tc_cod 6 = .ok (.aload_n 0, 1)) rfl (lv_at hl 0 rfl) ?_
  refine vk_getf hx hb g2 hS hown (hts _ (zg (zm6 (List.mem_of_getElem? (i := 84) rfl)) rfl)) (fun _ h => h) (by decide +kernel : decode tc_cod 7 = .ok (.getfield 15, 3)) ?_
  refine lv_goto (tgt := 14) hx hb (by decide +kernel : decode tc_cod 10 = .ok (.goto 4, 3)) (by decide) ?_
  exact W.zret (ty := .byte) hx hb hr rfl (fun t ht hW2 => ⟨rfl, ht⟩) (fun _ h => by cases h) (by decide +kernel : decode tc_cod 14 = .ok (.ireturn, 1))

set_option maxRecDepth 100000 in
theorem tm_lat (l : Launch) (n0 : Nat) (q : Nat → Nat) (X : zSc) (k : Nat) (hk : k < 2) : Met l ty_lat ts_lat ({ frames := 0, cells := 0, slots := 0, locals := 0 }) (zPt n0 q X [.ref (q k)]) (zQs (some (.int 1))) 0 0 (fun _ => False) := by
  refine va_MetF (cc := tc_lat) (maxL := 1) (ret := (some .boolean)) (ws' := zTb) (by decide +kernel) rfl ?_
  intro p e s m args below meth c s₁ B hml hv
  obtain ⟨rfl, hE, hn0⟩ := hv
  have hx := B.exec
  have hb := B.bytes
  have hr := B.returns
  have hlocks := B.notSynchronized
  have hts0 := atoms_spec (ws := ts_lat) B.pre
  have hts : ∀ w ∈ zTb, w.before _ s = true := fun w hw => hts0 w (List.mem_cons_of_mem _ hw)
  have hown : s.vm.findClass "java/lang/String" = some m.cls := findClass_of_methodNamed B.named
  have hS : va_S (zA n0) s.heap s.heap [] := va_S.rf
  have hl := lv_entry ([.ref (q k)]) (n := 1) (Nat.le_of_ble_eq_true rfl)
  rw [lg_entry_eq]
  generalize (lg_sl ([.ref (q k)]) ++ List.replicate (1 - (lg_sl ([.ref (q k)])).length) Slot.unset).toArray = ls at hl ⊢
  have hl : lv_has ls 1 [(0, .ref (q k))] := hl
  obtain ⟨-, -, ⟨-, hs4, hs5, -⟩, -⟩ := hE
  obtain ⟨g1, g2, g3, g4⟩ := hs4 k hk
  refine va_gets hx hb hs5 hS hown (hts _ (zg (zm3 (List.mem_of_getElem? (i := 225) rfl)) rfl)) (fun _ h => h) (by decide +kernel : decode tc_lat 0 = .ok (.getstatic 38, 3)) ?_
  refine lv_if_eq (tgt := 17) hx hb (by decide +kernel : decode tc_lat 3 = .ok (.ifCond .eq 14, 3)) (by decide) (fun h => absurd h (by decide)) (fun _ => ?_)
  refine lv_aload_n hx hb (by decide +kernel : decode tc_lat 6 = .ok (.aload_n 0, 1)) rfl (lv_at hl 0 rfl) ?_
  refine vk_getf hx hb g2 hS hown (hts _ (zg (zm6 (List.mem_of_getElem? (i := 84) rfl)) rfl)) (fun _ h => h) (by decide +kernel : decode tc_lat 7 = .ok (.getfield 15, 3)) ?_
  refine lv_if_ne (tgt := 17) hx hb (by decide +kernel : decode tc_lat 10 = .ok (.ifCond .ne 7, 3)) (by decide) (fun h => absurd rfl h) (fun _ => ?_)
  refine lv_iconst (v := 1) hx hb (by decide +kernel : decode tc_lat 13 = .ok (.iconst 1, 1)) (by decide) ?_
  refine lv_goto (tgt := 18) hx hb (by decide +kernel : decode tc_lat 14 = .ok (.goto 4, 3)) (by decide) ?_
  exact W.zret (ty := .boolean) hx hb hr rfl (fun t ht hW2 => ⟨rfl, ht⟩) (fun _ h => by cases h) (by decide +kernel : decode tc_lat 18 = .ok (.ireturn, 1))

set_option maxRecDepth 100000 in
theorem tm_len (l : Launch) (n0 : Nat) (q : Nat → Nat) (X : zSc) (k : Nat) (hk : k < 2) : Met l ty_len ts_len ({ frames := 1, cells := 0, slots := 0, locals := 20 }) (zPt n0 q X [.ref (q k)]) (zQs (some (.int 4))) 0 0 (fun _ => False) := by
  refine va_MetF (cc := tc_len) (maxL := 1) (ret := (some .int)) (ws' := zTb) (by decide +kernel) rfl ?_
  intro p e s m args below meth c s₁ B hml hv
  obtain ⟨rfl, hE, hn0⟩ := hv
  have hx := B.exec
  have hb := B.bytes
  have hr := B.returns
  have hlocks := B.notSynchronized
  have hts0 := atoms_spec (ws := ts_len) B.pre
  have hts : ∀ w ∈ zTb, w.before _ s = true := fun w hw => hts0 w (List.mem_cons_of_mem _ hw)
  have hown : s.vm.findClass "java/lang/String" = some m.cls := findClass_of_methodNamed B.named
  have hS : va_S (zA n0) s.heap s.heap [] := va_S.rf
  have hl := lv_entry ([.ref (q k)]) (n := 1) (Nat.le_of_ble_eq_true rfl)
  rw [lg_entry_eq]
  generalize (lg_sl ([.ref (q k)]) ++ List.replicate (1 - (lg_sl ([.ref (q k)])).length) Slot.unset).toArray = ls at hl ⊢
  have hl : lv_has ls 1 [(0, .ref (q k))] := hl
  obtain ⟨-, -, ⟨-, hs4, hs5, -⟩, -⟩ := id hE
  obtain ⟨g1, g2, g3, g4⟩ := hs4 k hk
  refine lv_aload_n hx hb (by decide +kernel : decode tc_len 0 = .ok (.aload_n 0, 1)) rfl (lv_at hl 0 rfl) ?_
  refine vk_getf hx hb g3 hS hown (hts _ (zg (zm6 (List.mem_of_getElem? (i := 83) rfl)) rfl)) (fun _ h => h) (by decide +kernel : decode tc_len 1 = .ok (.getfield 9, 3)) ?_
  refine va_tlen (A := zA n0) (v := 4) hx hb g4 hS (by decide) (by decide +kernel : decode tc_len 4 = .ok (.arraylength, 1)) ?_
  refine lv_aload_n hx hb (by decide +kernel : decode tc_len 5 = .ok (.aload_n 0, 1)) rfl (lv_at hl 0 rfl) ?_
  refine zs_backS (va_runV (C := "java/lang/String") (As := []) (b := q k) (rest := [.int 4]) (Ts := zTb) (own := "java/lang/String") ⟨hx, hb, hml, hown, hts⟩ (tm_cod l n0 q X k hk) ⟨callB_of 0 hts tg_cod rfl rfl rfl (hts _ (zg (zm1 (List.mem_of_getElem? (i := 17) rfl)) rfl)) (hts _ (zg (zm3 (List.mem_of_getElem? (i := 221) rfl)) rfl)) ⟨by decide +kernel, by decide +kernel, by decide +kernel⟩ ⟨Nat.le_of_ble_eq_true rfl, Nat.le_of_ble_eq_true rfl⟩, hts _ (zg (zm3 (List.mem_of_getElem? (i := 222) rfl)) rfl), hts _ (zg (zm3 (List.mem_of_getElem? (i := 223) rfl)) rfl)⟩ ⟨zPt_blind, (by obtain ⟨cell, h1, h2, h3, -⟩ := g1; exact ⟨cell, h1, h2, h3⟩), fun U hU hWU => ⟨rfl, by rw [hU]; exact zExt.at hE hn0 (fun _ _ _ => rfl) hWU, by rw [hU]; exact hn0⟩⟩ rfl rfl hl.1 rfl (lv_room (Nat.le_of_ble_eq_true rfl)) (by decide +kernel : decode tc_len 6 = .ok (.invokevirtual 335, 3)) ⟨Nat.zero_le _, Nat.zero_le _⟩) ?_
  refine lv_ishr hx hb (by decide +kernel : decode tc_len 9 = .ok (.ishr, 1)) ?_
  exact W.iret (v := 4) hx hb hr (fun t ht hW2 => ⟨rfl, ht⟩) (fun _ h => by cases h) (by decide +kernel : decode tc_len 10 = .ok (.ireturn, 1))

theorem zi4 {i : Int32} (h : ¬ (i < 0 ∨ 4 ≤ i.toNatClampNeg)) : i < 4 := by
  obtain ⟨j, hj, rfl⟩ := vp_in_of (n := 4) h (by decide)
  exact nI_lt (a := j) (b := 4) hj (by decide)
set_option maxRecDepth 100000 in
theorem tm_pck (l : Launch) (n0 : Nat) (q : Nat → Nat) (X : zSc) (i : Int32) (w : Value) (hw : w = .null ∨ ∃ t, w = .ref t) (hi : ¬ (i < 0 ∨ 4 ≤ i.toNatClampNeg)) : Met l ty_pck ts_pck ({ frames := 0, cells := 0, slots := 0, locals := 0 }) (zPt n0 q X [.int i, .int 4, w]) (zQs (some (.int i))) 0 0 (fun _ => False) := by
  refine va_MetF (cc := tc_pck) (maxL := 3) (ret := (some .int)) (ws' := zTb) (by decide +kernel) rfl ?_
  intro p e s m args below meth c s₁ B hml hv
  obtain ⟨rfl, hE, hn0⟩ := hv
  have hx := B.exec
  have hb := B.bytes
  have hr := B.returns
  have hlocks := B.notSynchronized
  have hts0 := atoms_spec (ws := ts_pck) B.pre
  have hts : ∀ w ∈ zTb, w.before _ s = true := fun w hw => hts0 w (List.mem_cons_of_mem _ hw)
  have hown : s.vm.findClass "jdk/internal/util/Preconditions" = some m.cls := findClass_of_methodNamed B.named
  have hS : va_S (zA n0) s.heap s.heap [] := va_S.rf
  have hcat : w.category = 1 := by rcases hw with rfl | ⟨t, rfl⟩ <;> rfl
  have hl := lv_entry ([.int i, .int 4, w]) (n := 3) (by rcases hw with rfl | ⟨t, rfl⟩ <;> exact Nat.le_of_ble_eq_true rfl)
  rw [lg_entry_eq]
  generalize (lg_sl ([.int i, .int 4, w]) ++ List.replicate (3 - (lg_sl ([.int i, .int 4, w])).length) Slot.unset).toArray = ls at hl ⊢
  have hl : lv_has ls 3 [(0, .int i), (1, .int 4)] := lv_sub hl [0, 1] rfl
  have hi0 : ¬ i < 0 := fun h => hi (Or.inl h)
  have hi4 : i < 4 := zi4 hi
  refine lv_iload_n hx hb (by decide +kernel : decode tc_pck 0 = .ok (.iload_n 0, 1)) rfl (lv_at hl 0 rfl) ?_
  refine lv_if_lt (tgt := 9) hx hb (by decide +kernel : decode tc_pck 1 = .ok (.ifCond .lt 8, 3)) (by decide) (fun h => absurd h hi0) (fun _ => ?_)
  refine lv_iload_n hx hb (by decide +kernel : decode tc_pck 4 = .ok (.iload_n 0, 1)) rfl (lv_at hl 0 rfl) ?_
  refine lv_iload_n hx hb (by decide +kernel : decode tc_pck 5 = .ok (.iload_n 1, 1)) rfl (lv_at hl 1 rfl) ?_
  refine lv_icmp_lt (tgt := 16) hx hb (by decide +kernel : decode tc_pck 6 = .ok (.if_icmp .lt 10, 3)) (by decide) (fun _ => ?_) (fun h => absurd hi4 h)
  refine lv_iload_n hx hb (by decide +kernel : decode tc_pck 16 = .ok (.iload_n 0, 1)) rfl (lv_at hl 0 rfl) ?_
  exact W.iret hx hb hr (fun t ht hW2 => ⟨rfl, ht⟩) (fun _ h => by cases h) (by decide +kernel : decode tc_pck 17 = .ok (.ireturn, 1))

set_option maxRecDepth 100000 in
theorem tm_chk (l : Launch) (n0 : Nat) (q : Nat → Nat) (X : zSc) (i : Int32) (hi : ¬ (i < 0 ∨ 4 ≤ i.toNatClampNeg)) : Met l ty_chk ts_chk ({ frames := 1, cells := 0, slots := 0, locals := 22 }) (zPt n0 q X [.int i, .int 4]) (zQs (none)) 0 0 (fun _ => False) := by
  refine va_MetF (cc := tc_chk) (maxL := 2) (ret := none) (ws' := zTb) (by decide +kernel) rfl ?_
  intro p e s m args below meth c s₁ B hml hv
  obtain ⟨rfl, hE, hn0⟩ := hv
  have hx := B.exec
  have hb := B.bytes
  have hr := B.returns
  have hlocks := B.notSynchronized
  have hts0 := atoms_spec (ws := ts_chk) B.pre
  have hts : ∀ w ∈ zTb, w.before _ s = true := fun w hw => hts0 w (List.mem_cons_of_mem _ hw)
  have hown : s.vm.findClass "java/lang/String" = some m.cls := findClass_of_methodNamed B.named
  have hS : va_S (zA n0) s.heap s.heap [] := va_S.rf
  have hl := lv_entry ([.int i, .int 4]) (n := 2) (Nat.le_of_ble_eq_true rfl)
  rw [lg_entry_eq]
  generalize (lg_sl ([.int i, .int 4]) ++ List.replicate (2 - (lg_sl ([.int i, .int 4])).length) Slot.unset).toArray = ls at hl ⊢
  have hl : lv_has ls 2 [(0, .int i), (1, .int 4)] := hl
  obtain ⟨-, -, ⟨-, hs4, hs5, hs6⟩, -⟩ := id hE
  obtain ⟨w, hw, hz⟩ : ∃ w : Value, (w = .null ∨ ∃ t, w = .ref t) ∧ va_Z "jdk/internal/util/Preconditions" "SIOOBE_FORMATTER" "Ljava/util/function/BiFunction;" w (zA n0) s s.heap := by
    rcases hs6 with h | ⟨t, h⟩
    · exact ⟨_, Or.inl rfl, h⟩
    · exact ⟨_, Or.inr ⟨t, rfl⟩, h⟩
  refine lv_iload_n hx hb (by decide +kernel : decode tc_chk 0 = .ok (.iload_n 0, 1)) rfl (lv_at hl 0 rfl) ?_
  refine lv_iload_n hx hb (by decide +kernel : decode tc_chk 1 = .ok (.iload_n 1, 1)) rfl (lv_at hl 1 rfl) ?_
  refine va_gets hx hb hz hS hown (hts _ (zg (zm4 (List.mem_of_getElem? (i := 1) rfl)) rfl)) (fun _ h => h) (by decide +kernel : decode tc_chk 2 = .ok (.getstatic 1053, 3)) ?_
  refine zs_backS (va_runS (As := [.int i, .int 4, w]) (rest := []) (Ts := zTb) (own := "java/lang/String") ⟨hx, hb, hml, hown, hts⟩ (tm_pck l n0 q X i w hw hi) ⟨callB_of 3 hts tg_pck rfl rfl rfl (hts _ (zg (zm1 (List.mem_of_getElem? (i := 19) rfl)) rfl)) (hts _ (zg (zm4 (List.mem_of_getElem? (i := 3) rfl)) rfl)) ⟨by decide +kernel, by decide +kernel, by decide +kernel⟩ ⟨Nat.le_of_ble_eq_true rfl, Nat.le_of_ble_eq_true rfl⟩, hts _ (zg (zm4 (List.mem_of_getElem? (i := 4) rfl)) rfl)⟩ ⟨zPt_blind, fun U hU hWU => ⟨rfl, by rw [hU]; exact zExt.at hE hn0 (fun _ _ _ => rfl) hWU, by rw [hU]; exact hn0⟩⟩ rfl rfl hl.1 rfl (lv_room (Nat.le_of_ble_eq_true rfl)) (by decide +kernel : decode tc_chk 5 = .ok (.invokestatic 1059, 3)) ⟨Nat.zero_le _, Nat.zero_le _⟩) ?_
  refine lv_pop hx hb (by decide +kernel : decode tc_chk 8 = .ok (.pop, 1)) rfl ?_
  exact W.vret hx hb hr (fun t ht hW2 => ⟨rfl, ht⟩) (fun _ h => by cases h) (by decide +kernel : decode tc_chk 9 = .ok (.return_, 1))

theorem zch_c : ∀ j, j < 4 → ((zch j &&& 255).toUInt32 % 65536).toInt32 = zch j := by decide +kernel
theorem zch_n : ∀ j, j < 4 → narrow .char (.int (zch j)) = .int (zch j) := by decide +kernel
set_option maxRecDepth 100000 in
theorem tm_lch (l : Launch) (n0 : Nat) (q : Nat → Nat) (X : zSc) (k : Nat) (i : Int32) (hk : k < 2) (hi : ¬ (i < 0 ∨ 4 ≤ i.toNatClampNeg)) : Met l ty_lch ts_lch ({ frames := 2, cells := 0, slots := 0, locals := 43 }) (zPt n0 q X [.ref (q (k + 3)), .int i]) (zQs (some (.int (zch i.toNatClampNeg)))) 0 0 (fun _ => False) := by
  refine va_MetF (cc := tc_lch) (maxL := 2) (ret := (some .char)) (ws' := zTb) (by decide +kernel) rfl ?_
  intro p e s m args below meth c s₁ B hml hv
  obtain ⟨rfl, hE, hn0⟩ := hv
  have hx := B.exec
  have hb := B.bytes
  have hr := B.returns
  have hlocks := B.notSynchronized
  have hts0 := atoms_spec (ws := ts_lch) B.pre
  have hts : ∀ w ∈ zTb, w.before _ s = true := fun w hw => hts0 w (List.mem_cons_of_mem _ hw)
  have hown : s.vm.findClass "java/lang/StringLatin1" = some m.cls := findClass_of_methodNamed B.named
  have hS : va_S (zA n0) s.heap s.heap [] := va_S.rf
  have hl := lv_entry ([.ref (q (k + 3)), .int i]) (n := 2) (Nat.le_of_ble_eq_true rfl)
  rw [lg_entry_eq]
  generalize (lg_sl ([.ref (q (k + 3)), .int i]) ++ List.replicate (2 - (lg_sl ([.ref (q (k + 3)), .int i])).length) Slot.unset).toArray = ls at hl ⊢
  have hl : lv_has ls 2 [(0, .ref (q (k + 3))), (1, .int i)] := hl
  obtain ⟨-, -, ⟨-, hs4, hs5, -⟩, -⟩ := id hE
  obtain ⟨g1, g2, g3, g4⟩ := hs4 k hk
  have hlt : i.toNatClampNeg < 4 := Nat.not_le.mp fun h => hi (Or.inr h)
  refine lv_iload_n hx hb (by decide +kernel : decode tc_lch 0 = .ok (.iload_n 1, 1)) rfl (lv_at hl 1 rfl) ?_
  refine lv_aload_n hx hb (by decide +kernel : decode tc_lch 1 = .ok (.aload_n 0, 1)) rfl (lv_at hl 0 rfl) ?_
  refine va_tlen (A := zA n0) (v := 4) hx hb g4 hS (by decide) (by decide +kernel : decode tc_lch 2 = .ok (.arraylength, 1)) ?_
  refine zs_backS (va_runS (As := [.int i, .int 4]) (rest := []) (Ts := zTb) (own := "java/lang/StringLatin1") ⟨hx, hb, hml, hown, hts⟩ (tm_chk l n0 q X i hi) ⟨callB_of 2 hts tg_chk rfl rfl rfl (hts _ (zg (zm1 (List.mem_of_getElem? (i := 17) rfl)) rfl)) (hts _ (zg (zm3 (List.mem_of_getElem? (i := 238) rfl)) rfl)) ⟨by decide +kernel, by decide +kernel, by decide +kernel⟩ ⟨Nat.le_of_ble_eq_true rfl, Nat.le_of_ble_eq_true rfl⟩, hts _ (zg (zm3 (List.mem_of_getElem? (i := 239) rfl)) rfl)⟩ ⟨zPt_blind, fun U hU hWU => ⟨rfl, by rw [hU]; exact zExt.at hE hn0 (fun _ _ _ => rfl) hWU, by rw [hU]; exact hn0⟩⟩ rfl rfl hl.1 rfl (lv_room (Nat.le_of_ble_eq_true rfl)) (by decide +kernel : decode tc_lch 3 = .ok (.invokestatic 9, 3)) ⟨Nat.zero_le _, Nat.zero_le _⟩) ?_
  refine lv_aload_n hx hb (by decide +kernel : decode tc_lch 6 = .ok (.aload_n 0, 1)) rfl (lv_at hl 0 rfl) ?_
  refine lv_iload_n hx hb (by decide +kernel : decode tc_lch 7 = .ok (.iload_n 1, 1)) rfl (lv_at hl 1 rfl) ?_
  refine va_tb (A := zA n0) hx hb g4 hS hi rfl (by decide +kernel : decode tc_lch 8 = .ok (.baload, 1)) ?_
  refine lv_sipush (v := 255) hx hb (by decide +kernel : decode tc_lch 9 = .ok (.sipush 255, 3)) (by decide) ?_
  refine lv_iand hx hb (by decide +kernel : decode tc_lch 12 = .ok (.iand, 1)) ?_
  refine lv_i2c hx hb (by decide +kernel : decode tc_lch 13 = .ok (.i2c, 1)) rfl ?_
  rw [show (((zch i.toNatClampNeg) &&& 255).toUInt32 % 65536).toInt32 = zch i.toNatClampNeg from zch_c _ hlt]
  exact W.zret (ty := .char) hx hb hr (zch_n _ hlt) (fun t ht hW2 => ⟨rfl, ht⟩) (fun _ h => by cases h) (by decide +kernel : decode tc_lch 14 = .ok (.ireturn, 1))

set_option maxRecDepth 100000 in
theorem tm_chr (l : Launch) (n0 : Nat) (q : Nat → Nat) (X : zSc) (k : Nat) (i : Int32) (hk : k < 2) (hi : ¬ (i < 0 ∨ 4 ≤ i.toNatClampNeg)) : Met l ty_chr ts_chr ({ frames := 3, cells := 0, slots := 0, locals := 64 }) (zPt n0 q X [.ref (q k), .int i]) (zQs (some (.int (zch i.toNatClampNeg)))) 0 0 (fun _ => False) := by
  refine va_MetF (cc := tc_chr) (maxL := 2) (ret := (some .char)) (ws' := zTb) (by decide +kernel) rfl ?_
  intro p e s m args below meth c s₁ B hml hv
  obtain ⟨rfl, hE, hn0⟩ := hv
  have hx := B.exec
  have hb := B.bytes
  have hr := B.returns
  have hlocks := B.notSynchronized
  have hts0 := atoms_spec (ws := ts_chr) B.pre
  have hts : ∀ w ∈ zTb, w.before _ s = true := fun w hw => hts0 w (List.mem_cons_of_mem _ hw)
  have hown : s.vm.findClass "java/lang/String" = some m.cls := findClass_of_methodNamed B.named
  have hS : va_S (zA n0) s.heap s.heap [] := va_S.rf
  have hl := lv_entry ([.ref (q k), .int i]) (n := 2) (Nat.le_of_ble_eq_true rfl)
  rw [lg_entry_eq]
  generalize (lg_sl ([.ref (q k), .int i]) ++ List.replicate (2 - (lg_sl ([.ref (q k), .int i])).length) Slot.unset).toArray = ls at hl ⊢
  have hl : lv_has ls 2 [(0, .ref (q k)), (1, .int i)] := hl
  obtain ⟨-, -, ⟨-, hs4, hs5, -⟩, -⟩ := id hE
  obtain ⟨g1, g2, g3, g4⟩ := hs4 k hk
  have hlt : i.toNatClampNeg < 4 := Nat.not_le.mp fun h => hi (Or.inr h)
  refine lv_aload_n hx hb (by decide +kernel : decode tc_chr 0 = .ok (.aload_n 0, 1)) rfl (lv_at hl 0 rfl) ?_
  refine zs_backS (va_runV (C := "java/lang/String") (As := []) (b := q k) (rest := []) (Ts := zTb) (own := "java/lang/String") ⟨hx, hb, hml, hown, hts⟩ (tm_lat l n0 q X k hk) ⟨callB_of 0 hts tg_lat rfl rfl rfl (hts _ (zg (zm1 (List.mem_of_getElem? (i := 17) rfl)) rfl)) (hts _ (zg (zm3 (List.mem_of_getElem? (i := 231) rfl)) rfl)) ⟨by decide +kernel, by decide +kernel, by decide +kernel⟩ ⟨Nat.le_of_ble_eq_true rfl, Nat.le_of_ble_eq_true rfl⟩, hts _ (zg (zm3 (List.mem_of_getElem? (i := 232) rfl)) rfl), hts _ (zg (zm3 (List.mem_of_getElem? (i := 233) rfl)) rfl)⟩ ⟨zPt_blind, (by obtain ⟨cell, h1, h2, h3, -⟩ := g1; exact ⟨cell, h1, h2, h3⟩), fun U hU hWU => ⟨rfl, by rw [hU]; exact zExt.at hE hn0 (fun _ _ _ => rfl) hWU, by rw [hU]; exact hn0⟩⟩ rfl rfl hl.1 rfl (lv_room (Nat.le_of_ble_eq_true rfl)) (by decide +kernel : decode tc_chr 1 = .ok (.invokevirtual 492, 3)) ⟨Nat.zero_le _, Nat.zero_le _⟩) ?_
  refine lv_if_eq (tgt := 16) hx hb (by decide +kernel : decode tc_chr 4 = .ok (.ifCond .eq 12, 3)) (by decide) (fun h => absurd h (by decide)) (fun _ => ?_)
  refine lv_aload_n hx hb (by decide +kernel : decode tc_chr 7 = .ok (.aload_n 0, 1)) rfl (lv_at hl 0 rfl) ?_
  refine vk_getf hx hb g3 hS hown (hts _ (zg (zm6 (List.mem_of_getElem? (i := 83) rfl)) rfl)) (fun _ h => h) (by decide +kernel : decode tc_chr 8 = .ok (.getfield 9, 3)) ?_
  refine lv_iload_n hx hb (by decide +kernel : decode tc_chr 11 = .ok (.iload_n 1, 1)) rfl (lv_at hl 1 rfl) ?_
  refine zs_backS (va_runS (As := [.ref (q (k + 3)), .int i]) (rest := []) (Ts := zTb) (own := "java/lang/String") ⟨hx, hb, hml, hown, hts⟩ (tm_lch l n0 q X k i hk hi) ⟨callB_of 2 hts tg_lch rfl rfl rfl (hts _ (zg (zm1 (List.mem_of_getElem? (i := 18) rfl)) rfl)) (hts _ (zg (zm3 (List.mem_of_getElem? (i := 235) rfl)) rfl)) ⟨by decide +kernel, by decide +kernel, by decide +kernel⟩ ⟨Nat.le_of_ble_eq_true rfl, Nat.le_of_ble_eq_true rfl⟩, hts _ (zg (zm3 (List.mem_of_getElem? (i := 236) rfl)) rfl)⟩ ⟨zPt_blind, fun U hU hWU => ⟨rfl, by rw [hU]; exact zExt.at hE hn0 (fun _ _ _ => rfl) hWU, by rw [hU]; exact hn0⟩⟩ rfl rfl hl.1 rfl (lv_room (Nat.le_of_ble_eq_true rfl)) (by decide +kernel : decode tc_chr 12 = .ok (.invokestatic 495, 3)) ⟨Nat.zero_le _, Nat.zero_le _⟩) ?_
  exact W.zret (ty := .char) hx hb hr (zch_n _ hlt) (fun t ht hW2 => ⟨rfl, ht⟩) (fun _ h => by cases h) (by decide +kernel : decode tc_chr 15 = .ok (.ireturn, 1))

section ZS
variable {D : va_G} {kA : Nat → ClassId} {n0 : Nat} {q : Nat → Nat} {X : zSc} {m0 : zMt} {p : Program} {l : Launch} {e : Env} {R : Room} {s : State} {m : MethodId} {args : Array Value} {below : List Frame} {meth : Method} {c : Code} {Q : State → Prop} {len0 sz0 : Nat}
variable {pc pc' : Nat} {ls ls' st st' : List Value} {M M' : zM}
theorem zs_strlen (C : zCx D kA n0 q X m0 p R s m args meth c) {a k : Nat} {r : List Value} (hdec : decode (zb m0) pc = .ok (.invokevirtual a, 3)) (hlk : Cond.methodLink (zcn (zow m0)) a ⟨"java/lang/String", "length", "()I"⟩ ∈ lw_tbl) (hk : k < 2) (hr : zcat r ≤ 8) (hlv : 4 ≤ zlv m0) (hR : M.1.length - len0 ≤ R.cells ∧ zsize M.1 - sz0 ≤ R.slots) (K : zWs D kA n0 q m0 p l e R s m args below meth c Q len0 sz0 (pc + 3) ls (.int 4 :: r) M) : zWs D kA n0 q m0 p l e R s m args below meth c Q len0 sz0 pc ls (.retAddr k :: r) M := by
  obtain ⟨hx, hb, hml, hown, hts, hnm, hK, hn0, hE, hfr, hlo, -⟩ := id C
  intro H locs lsM hW hS hl
  have hE2 : zExt n0 q X s H := by
    have h9 := zExt.at (U := s) (H := H) hE hn0 hS.2.1 (State.WarmedH.refl s)
    exact h9
  obtain ⟨g1, g2, g3, g4⟩ := hE2.2.2.1.2.1 k hk
  have hsz : n0 ≤ H.size := Nat.le_trans hn0 hS.1
  refine zs_backS (va_runV (C := "java/lang/String") (As := []) (b := q k) (rest := r.map (zren n0 q)) (Ts := zTb) (own := zcn (zow m0)) ⟨hx, hb, hml, hown, hts⟩ (tm_len l n0 q X k hk) ⟨callB_of 0 hts tg_len rfl rfl rfl (hts _ (zg (zm1 (List.mem_of_getElem? (i := 17) rfl)) rfl)) (hts _ (zg hlk rfl)) ⟨by decide +kernel, by decide +kernel, by decide +kernel⟩ ?_, hts _ (zg (zm3 (List.mem_of_getElem? (i := 218) rfl)) rfl), hts _ (zg (zm3 (List.mem_of_getElem? (i := 219) rfl)) rfl)⟩ ⟨zPt_blind, (by obtain ⟨cell, h1, h2, h3, -⟩ := g1; exact ⟨cell, h1, h2, h3⟩), fun U hU hWU => ⟨rfl, by rw [hU]; exact zExt.at hE hn0 hS.2.1 hWU, by rw [hU]; exact hsz⟩⟩ rfl rfl hl.2.1 rfl (lv_room (by rw [zcat_eq]; exact hr)) hdec ⟨?_, ?_⟩) ?_
  · unfold zlo at hlo
    exact ⟨by show 1 + 1 ≤ R.frames; omega, by show 8 + (1 + 11) + 20 ≤ R.locals; omega⟩
  · exact hR.1
  · exact hR.2
  · exact K H locs lsM hW hS hl

theorem zs_charAt (C : zCx D kA n0 q X m0 p R s m args meth c) {a k : Nat} {r : List Value} {i : Int32} (hdec : decode (zb m0) pc = .ok (.invokevirtual a, 3)) (hlk : Cond.methodLink (zcn (zow m0)) a ⟨"java/lang/String", "charAt", "(I)C"⟩ ∈ lw_tbl) (hk : k < 2) (hr : zcat r ≤ 8) (hlv : 4 ≤ zlv m0) (hi : ¬ (i < 0 ∨ 4 ≤ i.toNatClampNeg)) (hR : M.1.length - len0 ≤ R.cells ∧ zsize M.1 - sz0 ≤ R.slots) (K : zWs D kA n0 q m0 p l e R s m args below meth c Q len0 sz0 (pc + 3) ls (.int (zch i.toNatClampNeg) :: r) M) : zWs D kA n0 q m0 p l e R s m args below meth c Q len0 sz0 pc ls (.int i :: .retAddr k :: r) M := by
  obtain ⟨hx, hb, hml, hown, hts, hnm, hK, hn0, hE, hfr, hlo, -⟩ := id C
  intro H locs lsM hW hS hl
  have hE2 : zExt n0 q X s H := by
    have h9 := zExt.at (U := s) (H := H) hE hn0 hS.2.1 (State.WarmedH.refl s)
    exact h9
  obtain ⟨g1, g2, g3, g4⟩ := hE2.2.2.1.2.1 k hk
  have hsz : n0 ≤ H.size := Nat.le_trans hn0 hS.1
  refine zs_backS (va_runV (C := "java/lang/String") (As := [.int i]) (b := q k) (rest := r.map (zren n0 q)) (Ts := zTb) (own := zcn (zow m0)) ⟨hx, hb, hml, hown, hts⟩ (tm_chr l n0 q X k i hk hi) ⟨callB_of 1 hts tg_chr rfl rfl rfl (hts _ (zg (zm1 (List.mem_of_getElem? (i := 17) rfl)) rfl)) (hts _ (zg hlk rfl)) ⟨by decide +kernel, by decide +kernel, by decide +kernel⟩ ?_, hts _ (zg (zm3 (List.mem_of_getElem? (i := 228) rfl)) rfl), hts _ (zg (zm3 (List.mem_of_getElem? (i := 229) rfl)) rfl)⟩ ⟨zPt_blind, (by obtain ⟨cell, h1, h2, h3, -⟩ := g1; exact ⟨cell, h1, h2, h3⟩), fun U hU hWU => ⟨rfl, by rw [hU]; exact zExt.at hE hn0 hS.2.1 hWU, by rw [hU]; exact hsz⟩⟩ rfl rfl hl.2.1 rfl (lv_room (by rw [zcat_eq]; exact hr)) hdec ⟨?_, ?_⟩) ?_
  · unfold zlo at hlo
    exact ⟨by show 3 + 1 ≤ R.frames; omega, by show 8 + (2 + 11) + 64 ≤ R.locals; omega⟩
  · exact hR.1
  · exact hR.2
  · exact K H locs lsM hW hS hl

end ZS
