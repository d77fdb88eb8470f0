/-! THE CLAIM OUT OF ONE WALK OF THE LAW'S BODY. Your part is whole_start (and what it stands on); all else here is the same for every law, but numbers. -/
def R_law : String := "DoubleLedgerLaw"
def lw_P (b : Addr) (xs : List Int32) (args : Array Value) (s : State) : Prop := args = #[.ref b] ∧ s.IntsAt b xs ∧ xs.length ≤ 3072 ∧ (Jvm.Cond.and given_1 narrow_1).before args s = true
/-- what a walk over the start with the record d0 says of its end, said of the start itself -/
theorem lw_closed {s t : State} {o : Outcome} {d0 : Drawn} {L : List Loc} {k n : Nat} (hd0 : s.drawn.sameBut d0 lw_cs) (hv : ∃ v, o = .returned v) (hW : (s.setDrawn d0).WarmedH t.vm) (hs : (s.setDrawn d0).sameButNew ({ t with vm := s.vm } : State) L k n) : State.butDraws s t lw_cs (fun t1 => Framed s o t1 L k n) := by
  have h2 : t.drawn = d0 := congrArg State.drawn hs.1
  refine ⟨⟨hv, hW, State.sameButNew.setDrawn hs s.drawn⟩, ?_, by decide⟩
  rw [h2]
  exact hd0
def lw_Q (_ : Array Value) (s : State) (o : Outcome) (t : State) : Prop := o = .returned (some (.int 1)) ∧ State.butDraws s t lw_cs (fun t1 => Framed s o t1 [] 600000 7302250)
def lw_Z (below : List Frame) (a : Array Value) (s : State) : State → Prop := fun t => ∃ o, t.status = .running ∧ Ended t below o ∧ lw_Q a s o t
/-- the law's own end, with 1 on the stack, nothing written that was there before, its room as the claim has it; d0: the record of draws at this point (at the entry s.drawn: begin with 'refine W.base ?_' and 'have hd0 := Drawn.sameBut.refl s.drawn lw_cs') -/
theorem lw_ret {p : Program} {l : Launch} {e : Env} {s : State} {m : MethodId} {below : List Frame} {meth : Method} {c : Code} {b : Nat} {d0 : Drawn} (hd0 : s.drawn.sameBut d0 lw_cs) (hx : p.tables.exec = Jvm.exec) (hb : c.code = code) (hr : meth.sig.returnType = ret) (hlocks : meth.locks = false) {pc : Nat} {H : Heap} {ls : Array Slot} (hdg : decode code pc = .ok (.ireturn, 1)) : W p l e room_1 (s.setDrawn d0) m #[Value.ref b] below meth c H [] 600000 7302250 (lw_Z below #[Value.ref b] s) (F0 m pc ls [.int 1]) := by
  intro T hT X
  obtain ⟨fs, hret, hrun, hended, hW, hframe⟩ := X.leave (v := some (.int 1)) (hlocks := hlocks) (fun h => by rw [hr] at h; cases h)
  have hmeth' : T.vm.method? m = some meth := X.method'
  refine ⟨T.setFrames fs, ?_, .returned (some (.int 1)), hrun, hended, rfl, lw_closed hd0 ⟨_, rfl⟩ hW hframe⟩
  jvm_step X.here [X.here.top, hx, hb, hdg, hmeth', hr, ret, narrow_b1]
  (try refine ⟨rfl, ?_⟩); (try refine ⟨rfl, ?_⟩)
  first | (intro acts; rw [hret _ acts rfl rfl rfl]) | rw [hret _ _ rfl rfl rfl]
  exact Steps.refl _
/-- what holds at the law's entry: the machine, the code, the tables' words (any of lw_tbl by 'hts w (by decide +kernel)'), the script of L ints xs at the cell b, what the Statement gives of the start (any of its parts by flat_of_before) -/
def lw_At (p : Program) (s : State) (m : MethodId) (meth : Method) (c : Code) (b L : Nat) (xs : Nat → Int32) : Prop :=
  p.tables.exec = Jvm.exec ∧ c.code = code ∧ meth.sig.returnType = ret ∧ c.maxLocals = 4 ∧ s.vm.findClass R_law = some m.cls ∧ (∀ w ∈ lw_tbl, w.before #[Value.ref b] s = true) ∧ va_X b L xs s s.heap ∧ b < s.heap.size ∧ meth.locks = false ∧ (Jvm.Cond.and given_1 narrow_1).before #[Value.ref b] s = true
def zSc2 (own idx k : Nat) : Bool := (Nat.beq own 9 && (Nat.beq idx 59 && Nat.beq k 0)) || (Nat.beq own 7 && (Nat.beq idx 41 && Nat.beq k 1))
theorem zS_all : zlkST.all (fun q => q.2.all fun p => p.2.all fun e => zSc2 q.1 e.1 e.2) = true := by decide +kernel
theorem zS_ok {own idx k : Nat} (h : zlkS own idx = some k) : (own = 9 ∧ idx = 59 ∧ k = 0) ∨ (own = 7 ∧ idx = 41 ∧ k = 1) := by
  have h1 := zlk_all (t := zlkST) (f := zSc2) zS_all h
  simp only [zSc2, Bool.or_eq_true, Bool.and_eq_true] at h1
  rcases h1 with ⟨h1, h2, h3⟩ | ⟨h1, h2, h3⟩
  · exact Or.inl ⟨Nat.eq_of_beq_eq_true h1, Nat.eq_of_beq_eq_true h2, Nat.eq_of_beq_eq_true h3⟩
  · exact Or.inr ⟨Nat.eq_of_beq_eq_true h1, Nat.eq_of_beq_eq_true h2, Nat.eq_of_beq_eq_true h3⟩
theorem zarr {s : State} {args : Array Value} {ty : FieldType} (h : (Cond.arrayClass ty).before args s = true) (hp : ∀ C, ty ≠ .object C) : ∃ c : ClassId, ArrOfT s c ty ∧ va_RA s c ty := by
  obtain ⟨c, k, comp, h1, h2, h3⟩ := Cond.arrayClass_spec h
  refine ⟨c, fun n z => ⟨fun k h => (by cases h), k, h2, comp, h3⟩, ?_⟩
  cases ty with
  | object C => exact absurd rfl (hp C)
  | _ => exact h1
/-- the text constant of a class: its cells -/
theorem zstr1 {s : State} {args : Array Value} {own : String} {idx : Nat} (hg : (Jvm.Cond.and given_1 narrow_1).before args s = true) (hw : (Cond.stringRef own idx " REV").before args s = true)
    (h1 : Cond.exactly (Term.string own idx) "java/lang/String" ∈ flatC (Jvm.Cond.and given_1 narrow_1)) (h2 : Cond.eq (.field (Term.string own idx) "java/lang/String" "coder" "B") (.int 0) ∈ flatC (Jvm.Cond.and given_1 narrow_1)) (h3 : Cond.arrayOf (.field (Term.string own idx) "java/lang/String" "value" "[B") .byte ∈ flatC (Jvm.Cond.and given_1 narrow_1)) (h4 : Cond.eq (.length (.field (Term.string own idx) "java/lang/String" "value" "[B")) (.int 4) ∈ flatC (Jvm.Cond.and given_1 narrow_1))
    (h5 : ∀ j, j < 4 → Cond.eq (.elem (.field (Term.string own idx) "java/lang/String" "value" "[B") (.int (Int32.ofNat j))) (.int (zch j)) ∈ flatC (Jvm.Cond.and given_1 narrow_1)) :
    ∃ a v, vk_R own idx " REV" a s ∧ va_O "java/lang/String" a (zA s.heap.size) s s.heap ∧ va_OF "java/lang/String" "coder" "B" (.int 0) a (zA s.heap.size) s s.heap ∧ va_OF "java/lang/String" "value" "[B" (.ref v) a (zA s.heap.size) s s.heap ∧ va_T .byte v 4 (fun j => .int (zch j)) (zA s.heap.size) s s.heap := by
  have hs := flat_of_before _ hg
  obtain ⟨adK, adV, hV, hT⟩ := vk_Sof (N := 1) (tm := fun _ => Term.string own idx) (len := [4]) (byt := [[32, 82, 69, 86]]) (A := zA s.heap.size) (args := args) (s := s) (fun i hi => by rw [show i = 0 by omega]; decide) (fun i hi => hs _ h1) (fun i hi => hs _ h2) (fun i hi => hs _ h3) (fun i hi => by rw [show i = 0 by omega]; exact hs _ h4) (fun i hi j hj => by
      rw [show i = 0 by omega] at hj ⊢
      have hj4 : j < 4 := hj
      have h6 := hs _ (h5 j hj4)
      match j, hj4, h6 with
      | 0, _, h6 => exact h6
      | 1, _, h6 => exact h6
      | 2, _, h6 => exact h6
      | 3, _, h6 => exact h6) (fun i j hi hj hne => absurd (show i = j by omega) hne) (fun a ha => Nat.not_le.mpr ha)
  obtain ⟨g1, g2, g3, g4⟩ := hV.1 0 (by decide)
  have g5 : va_T .byte (adV 0) 4 (fun j => .int (zch j)) (zA s.heap.size) s s.heap := by
    obtain ⟨cell, k1, k2, k3, k4, k5, k6, k7⟩ := g4
    refine ⟨cell, k1, k2, k3, k4, k5, fun j hj => ?_, k7⟩
    have k8 := k6 j hj
    match j, hj, k8 with
    | 0, _, k8 => exact k8
    | 1, _, k8 => exact k8
    | 2, _, k8 => exact k8
    | 3, _, k8 => exact k8
  have ht := hT 0 (by decide)
  exact ⟨adK 0, adV 0, vk_R.of hw ht, g1, g2, g3, g5⟩
set_option maxHeartbeats 4000000 in
theorem whole_start {p : Program} {e : Env} {s : State} {m : MethodId} {below : List Frame} {meth : Method} {c : Code} (l : Launch) (hflags : l.flags = flags0) {b L : Nat} {xs : Nat → Int32} (hL : L ≤ 3072) (C0 : lw_At p s m meth c b L xs) : W p l e room_1 s m #[Value.ref b] below meth c s.heap [] 0 0 (lw_Z below #[Value.ref b] s) (entryFrame m ([Value.ref b] : List Value).toArray 4) := by
  obtain ⟨hx, hb, hr, hml, hown, hts, hX, hbl, hlocks, hgv⟩ := id C0
  have hs := flat_of_before _ hgv
  have hA : ∀ a : Nat, a < s.heap.size → ¬ zA s.heap.size a := fun a h => Nat.not_le.mpr h
  obtain ⟨aT, vT, rT, oT⟩ := zstr1 (own := "DoubleLedger$Tape") (idx := 59) hgv (hts _ (zm3 (List.mem_of_getElem? (i := 216) rfl))) (by decide +kernel) (by decide +kernel) (by decide +kernel) (by decide +kernel) (fun j hj => by match j, hj with | 0, _ => decide +kernel | 1, _ => decide +kernel | 2, _ => decide +kernel | 3, _ => decide +kernel)
  obtain ⟨aS, vS, rS, oS⟩ := zstr1 (own := "DoubleLedger$Sheet") (idx := 41) hgv (hts _ (zm4 (List.mem_of_getElem? (i := 49) rfl))) (by decide +kernel) (by decide +kernel) (by decide +kernel) (by decide +kernel) (fun j hj => by match j, hj with | 0, _ => decide +kernel | 1, _ => decide +kernel | 2, _ => decide +kernel | 3, _ => decide +kernel)
  have hKn : ∀ ci : Nat, ∃ (cC : ClassId) (iS : Nat → Nat), ∀ r : vw_C, vwCl[ci]? = some r → u_Kn s r.1 r.2.1 r.2.2 cC iS := by
    intro ci
    cases hci : vwCl[ci]? with
    | none => exact ⟨0, fun _ => 0, fun r hr2 => by cases hr2⟩
    | some r =>
      obtain ⟨C1, T, N⟩ := r
      rw [← zgt_eq] at hci
      obtain ⟨cC, iS, hk⟩ := u_known (C := C1) (T := T) (N := N) (n := N) hts (fun w hw => (List.mem_filter.mp (zin_ok hci w hw)).1) (hts _ (zcls_ok hci).2.2.1)
      exact ⟨cC, iS, fun r hr2 => by cases hr2; exact hk⟩
  obtain ⟨dC, hKn⟩ := Classical.axiomOfChoice hKn
  obtain ⟨dI, hKn⟩ := Classical.axiomOfChoice hKn
  obtain ⟨k0, hk0⟩ := zarr (hts (Cond.arrayClass .int) (by decide +kernel)) (fun C h => by cases h)
  obtain ⟨k1, hk1⟩ := zarr (hts (Cond.arrayClass .long) (by decide +kernel)) (fun C h => by cases h)
  obtain ⟨k2, hk2⟩ := zarr (hts (Cond.arrayClass .byte) (by decide +kernel)) (fun C h => by cases h)
  obtain ⟨k3, hk3⟩ := zarr (hts (Cond.arrayClass .boolean) (by decide +kernel)) (fun C h => by cases h)
  obtain ⟨kA, e0, e1, e2, e3⟩ : ∃ kA : Nat → ClassId, kA 0 = k0 ∧ kA 1 = k1 ∧ kA 2 = k2 ∧ kA 3 = k3 := ⟨fun k => if k = 0 then k0 else if k = 1 then k1 else if k = 2 then k2 else k3, rfl, rfl, rfl, rfl⟩
  obtain ⟨q, q0, q1, q2, q3, q4⟩ : ∃ q : Nat → Nat, q 0 = aT ∧ q 1 = aS ∧ q 2 = b ∧ q 3 = vT ∧ q 4 = vS := ⟨fun k => if k = 0 then aT else if k = 1 then aS else if k = 2 then b else if k = 3 then vT else vS, rfl, rfl, rfl, rfl, rfl⟩
  have hK : va_K (dC, dI) vwCl (ztys kA) s := by
    refine ⟨fun ci r hr2 => hKn ci r hr2, fun k x hk => ?_⟩
    match k, hk with
    | 0, hk => cases hk; show ArrOfT s (kA 0) _ ∧ va_RA s (kA 0) _; rw [e0]; exact hk0
    | 1, hk => cases hk; show ArrOfT s (kA 1) _ ∧ va_RA s (kA 1) _; rw [e1]; exact hk1
    | 2, hk => cases hk; show ArrOfT s (kA 2) _ ∧ va_RA s (kA 2) _; rw [e2]; exact hk2
    | 3, hk => cases hk; show ArrOfT s (kA 3) _ ∧ va_RA s (kA 3) _; rw [e3]; exact hk3
    | k + 4, hk => cases hk
  have hE : zExt s.heap.size q (L, xs) s s.heap := by
    refine ⟨by rw [q2]; exact hX, by rw [q2]; exact hbl, ⟨fun own idx k hk => ?_, fun k hk => ?_, va_Zof (hts _ (zm3 (List.mem_of_getElem? (i := 226) rfl))) (hts _ (zm1 (List.mem_of_getElem? (i := 17) rfl))) (va_eqi (hs _ (by decide +kernel))) hA, va_Zqof (hts _ (zm4 (List.mem_of_getElem? (i := 2) rfl))) (hts _ (zm1 (List.mem_of_getElem? (i := 19) rfl))) (hs _ (by decide +kernel)) hA⟩, fun own idx y hm => va_Nw.of rfl (hts _ hm)⟩
    · rcases zS_ok hk with ⟨rfl, rfl, rfl⟩ | ⟨rfl, rfl, rfl⟩
      · rw [q0]; exact rT
      · rw [q1]; exact rS
    · match k, hk with
      | 0, _ => show va_O _ (q 0) _ _ _ ∧ va_OF _ _ _ _ (q 0) _ _ _ ∧ va_OF _ _ _ (.ref (q 3)) (q 0) _ _ _ ∧ va_T _ (q 3) _ _ _ _ _; rw [q0, q3]; exact oT
      | 1, _ => show va_O _ (q 1) _ _ _ ∧ va_OF _ _ _ _ (q 1) _ _ _ ∧ va_OF _ _ _ (.ref (q 4)) (q 1) _ _ _ ∧ va_T _ (q 4) _ _ _ _ _; rw [q1, q4]; exact oS
  have C : zCx (dC, dI) kA s.heap.size q (L, xs) mt_L_law p room_1 s m #[Value.ref b] meth c := ⟨hx, hb, hml, hown, fun w hw => hts w (List.mem_filter.mp hw).1, fun h => absurd h (by decide +kernel), hK, Nat.le_refl _, hE, by decide +kernel, by decide +kernel, gk_law⟩
  obtain ⟨M', ⟨f, hf⟩, hM1, hM2⟩ := law_ev (L, xs) hL
  have hd0 := Drawn.sameBut.refl s.drawn lw_cs
  rw [lg_entry_eq]
  have hloc : zLoc s.heap.size q 4 (zent 4 [.retAddr 2]) ((lg_sl ([.retAddr 2].map (zren s.heap.size q)) ++ List.replicate (4 - (lg_sl ([.retAddr 2].map (zren s.heap.size q))).length) Slot.unset).toArray) := zentLoc (by decide)
  have hlist : [.retAddr 2].map (zren s.heap.size q) = [Value.ref b] := by simp [zren, q2]
  rw [hlist] at hloc
  refine zsound f hf C (len0 := 0) (sz0 := 0) ⟨Nat.zero_le _, Nat.zero_le _⟩ ⟨by rw [Nat.sub_zero]; exact hM1, by rw [Nat.sub_zero]; exact hM2⟩ ?_ s.heap [] _ ⟨by simp, fun k x hk => by simp [zwd] at hk⟩ va_S.rf hloc
  intro pc' ls' i hdec hrt H locs lsM hW hS hl
  rcases hrt with ⟨h1, -⟩ | ⟨x, h1, rfl, h3⟩ | ⟨x, h1, -⟩ | ⟨x, h1, -⟩
  · cases h1
  · cases h1
    refine va_forget (fun a ha => hS.2.2 a ha) ?_
    refine W.widen (k := 600000) (n := 7302250) (by simpa using hM1) (by simpa using hM2) ?_
    exact lw_ret (d0 := s.drawn) hd0 hx hb hr hlocks hdec
  · cases h1
  · cases h1
-- ===== YOUR PART ENDS =====
set_option maxHeartbeats 4000000 in
theorem lw_walk (l : Launch) (hflags : l.flags = flags0) (b : Addr) (xs : List Int32) : MetFree l x (headSpec (Jvm.Cond.code x code maxLocals ret :: tables_1) room_1) (lw_P b xs) (fun _ _ _ _ _ => True) lw_Q := by
  refine MetFree.of_bodyS (code := code) (maxLocals := maxLocals) (ret := ret) (by decide) ?_ ?_
  · intro args s m h hn
    obtain ⟨meth, c, h1, h2, h3, h4, h5, h6, -, -⟩ := Cond.code_spec hn (atoms_spec (ws := Jvm.Cond.code x code maxLocals ret :: tables_1) h _ List.mem_cons_self)
    exact ⟨meth, c, h1, h2, h3, h4, h5, h6⟩
  · intro p e s m args below meth c s₁ B hml0 hP _
    obtain ⟨rfl, hx, hbd, hgv⟩ := hP
    obtain ⟨scr, harrAt, hlist, hof, hsmall⟩ := hx
    obtain ⟨hcb, hkn, -, -⟩ := State.arrayAt?_spec harrAt
    have hown : s.vm.findClass R_law = some m.cls := findClass_of_methodNamed B.named
    have hts0 : ∀ c ∈ (Jvm.Cond.code x code maxLocals ret :: tables_1), c.before #[Value.ref b] s = true := atoms_spec (ws := Jvm.Cond.code x code maxLocals ret :: tables_1) B.pre
    have hts : ∀ w ∈ lw_tbl, w.before #[Value.ref b] s = true := k2_hts_sels lw_privs (fun w hw => hts0 w (List.mem_cons_of_mem _ hw)) lw_privs_ok
    have hml : c.maxLocals = 4 := B.maxLocals_eq (hts0 _ List.mem_cons_self)
    have X₀ : Stand p l e room_1 s m #[Value.ref b] below meth c s₁ [] 0 0 := Stand.of_body B
    have hh0 : s₁.heap = s.heap := by rw [B.state]; rfl
    have hsz : scr.slots.size = xs.length := by rw [← Array.length_toList, hlist, List.length_map]
    have hval : ∀ j : Nat, j < xs.length → scr.slots[j]? = some (.int (xs.getD j 0)) := fun j hj => by
      rw [← Array.getElem?_toList, hlist]
      simp [hj]
    have hbl : b < s.heap.size := (Array.getElem?_eq_some_iff.mp hcb).1
    have hX : va_X b xs.length (fun j => xs.getD j 0) s s.heap := ⟨scr, hcb, hof, hkn, hsz, hval⟩
    have K : W p l e room_1 s m #[Value.ref b] below meth c s₁.heap [] 0 0 (lw_Z below #[Value.ref b] s) (entryFrame m ([Value.ref b] : List Value).toArray 4) := by
      rw [hh0]
      exact whole_start l hflags hbd ⟨B.exec, B.bytes, B.returns, hml, hown, hts, hX, hbl, B.notSynchronized, hgv⟩
    obtain ⟨t, a1, o, b1, b2, b3⟩ := K s₁ rfl X₀
    exact ⟨t, o, a1, b1, b2, b3⟩
theorem lw_pre_spec {args : Array Value} {s : State} (h : (Jvm.Cond.and given_1 narrow_1).before args s = true) (hr : rest_1_c.before args s = true) : ∃ (b : Addr) (xs : List Int32), lw_P b xs args s := by
  have hs := flat_of_before _ h
  have hq := flat_of_before _ hr
  have hc : (Cond.count 1).before args s = true := hs _ (by decide +kernel)
  have harr : (Cond.arrayOf (.arg 0) .int).before args s = true := hs _ (by decide +kernel)
  have hle : (Cond.le (.length (.arg 0)) (.int 3072)).before args s = true := hs _ (by decide +kernel)
  have hlen : (Cond.isInt (.length (.arg 0))).before args s = true := hq _ (by decide +kernel)
  have hall : (Cond.all (.arg 0) (.isInt (.elem (.arg 0) (.index 0)))).before args s = true := hq _ (by decide +kernel)
  obtain ⟨b, xs, hb, hx⟩ := State.ints_of_pre rfl harr hlen hall
  have hsm : xs.length < 2 ^ 31 := hx.choose_spec.2.2.2
  have hev : (Term.length (.arg 0)).eval args s none [] s = some (.int xs.length.toInt32) := hx.length_eval hb
  have hv := Cond.le_ints hev (show (Term.int 3072).eval args s none [] s = some (.int 3072) from rfl)
  have hd : xs.length.toInt32 ≤ 3072 := by
    simpa [Cond.before, Cond.holds, hv] using hle
  have hN : xs.length ≤ 3072 := (Int32.ofNat_le_ofNat hsm (by decide)).mp (show Int32.ofNat xs.length ≤ Int32.ofNat 3072 from hd)
  exact ⟨b, xs, Cond.one_arg hc (show args[0]? = some (.ref b) from hb), hx, hN, h⟩
theorem lw_comes (l : Launch) (hflags : l.flags = flags0) : Comes l x (Jvm.Cond.code x code maxLocals ret :: tables_1) room_1 (fun tb e args s => Calls_1 tb e args s ∧ rest_1 tb e args s ∧ Pre_1 tb e args s)
    (fun _ _ args s o t => lw_Q args s o t) := by
  intro p e ha hc hk s m args below hf hfit hheap happ hpre
  obtain ⟨b, xs, hP⟩ := lw_pre_spec hpre.2.2 hpre.2.1
  obtain ⟨k, o, h1, h2, h3, hQ⟩ := lw_walk l hflags b xs p e ha hc hk s m args below hf ((Spec.applies_iff_loose hf).mp happ).1 hP trivial
  exact ⟨k, o, h1, h2, h3, hQ⟩
theorem lw_frame {s t : State} {o : Outcome} {args : Array Value} (h : State.butDraws s t lw_cs (fun t1 => Framed s o t1 [] 600000 7302250)) :
    State.butDraws s t [Jvm.Choice.named "NaN.bits"] (fun t1 => Framed s o t1 (fieldLocs frame_1_writes args s ++ arrayLocs frame_1_arrays args s ++ staticLocs frame_1_statics s) 600000 7302250) := h
theorem lw_limb (L : Cond) (hL : ∀ (args : Array Value) (s t : State), L.after args s (.returned (some (.int 1))) t = true) :
    ArmFor flags0 classFile x code maxLocals ret World_1 tables_1 room_1 Calls_1 rest_1 Pre_1
      (fun tb e a s o t => postC L tb e a s o t ∧ State.butDraws s t [Jvm.Choice.named "NaN.bits"] (fun t1 => Framed s o t1 (fieldLocs frame_1_writes a s ++ arrayLocs frame_1_arrays a s ++ staticLocs frame_1_statics s) 600000 7302250)) := by
  intro l hflags _ _ p e ha hc hk s m args below hf hfit hheap happ hpre
  obtain ⟨k, o, h1, h2, h3, rfl, hF⟩ := lw_comes l hflags p e ha hc hk s m args below hf hfit hheap happ hpre
  exact ⟨k, _, h1, h2, h3, hL args s _, lw_frame hF⟩
theorem i_vc : Claimed_1_1 ∧ Claimed_1_2 := ⟨lw_limb limb_1_1 (fun args s t => by simp [limb_1_1, Cond.after, Cond.holds, Cond.value]), lw_limb limb_1_2 (fun args s t => Cond.after_iff.mpr (by
  first | (rw [show limb_1_2 = Cond.eq .result (.int 1) from rfl, Cond.eq_ints (x := 1) (y := 1) rfl rfl]; simp; done) | (simp [limb_1_2, Cond.value, Term.eval]; done)))⟩
