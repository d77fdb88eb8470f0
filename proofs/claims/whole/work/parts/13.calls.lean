/-! the whole run: a call of the small machine gives the callee's contract -/
def zws (m : zMt) : List Cond := Cond.code (zy m) (zb m) (zmx m) (zrt m) :: zTb
def zrm (m : zMt) (M M1 : zM) : Room := { frames := zlv m + 1, cells := M1.1.length - M.1.length, slots := zsize M1.1 - zsize M.1, locals := zlo (zlv m) }
def zPre (D : va_G) (kA : Nat → ClassId) (n0 : Nat) (q : Nat → Nat) (X : zSc) (as : List Value) (M : zM) : Array Value → State → Prop := va_Pc (as.map (zren n0 q)) (fun U => zW D kA n0 q M U.heap ∧ va_K D vwCl (ztys kA) U ∧ zExt n0 q X U U.heap)
def zQc (D : va_G) (kA : Nat → ClassId) (n0 : Nat) (q : Nat → Nat) (v : Option Value) (M : zM) : Array Value → State → Outcome → State → Prop := fun _ st oc t => oc = .returned (v.map (zren n0 q)) ∧ zW D kA n0 q M t.heap ∧ va_F (zA n0) st t
theorem zgd {m : zMt} (hg : zGood m) : GoodIn zTb (zws m) := by
  intro w hw
  rcases List.mem_cons.mp hw with rfl | h
  · exact ⟨zg hg.2.1 rfl, good_of_word rfl⟩
  · exact ⟨h, good_of_word (List.mem_filter.mp h).2⟩
theorem zPre_blind {D : va_G} {kA : Nat → ClassId} {n0 : Nat} {q : Nat → Nat} {X : zSc} {as : List Value} {M : zM} : FrameBlind (zPre D kA n0 q X as M) := by
  rintro a U g mk ⟨h1, h2, h3, h4⟩
  exact ⟨h1, h2, va_K.moved (u := U) (U := U.calling g mk a) (Vm.Alike.refl U.vm) h3, zExt.same (s := U) (U := U.calling g mk a) rfl h4⟩
theorem zdec_ok {m : zMt} (h : (zcd m).all (fun p => p.2.all (zgo1 m)) = true) {pc n : Nat} {i : Instr} (hf : zfd2 (zcd m) pc = some (i, n)) : zgo1 m (pc, i, n) = true := by
  obtain ⟨p, h1, h2⟩ := zfd2_mem hf
  exact List.all_eq_true.mp (List.all_eq_true.mp h p h1) _ h2
theorem zmet {X : zSc} {D : va_G} {kA : Nat → ClassId} {n0 : Nat} {q : Nat → Nat} {l : Launch} {m0 : zMt} {as : List Value} {v : Option Value} {M M1 : zM} (hg : zGood m0) (hsp : (zsp as).length ≤ zmx m0)
    (body : ∀ {p : Program} {e : Env} {R : Room} {s : State} {m : MethodId} {args : Array Value} {below : List Frame} {meth : Method} {c : Code} {Q : State → Prop} {len0 sz0 : Nat}, zCx D kA n0 q X m0 p R s m args meth c → len0 ≤ M.1.length ∧ sz0 ≤ zsize M.1 → M1.1.length - len0 ≤ R.cells ∧ zsize M1.1 - sz0 ≤ R.slots → (∀ (pc' : Nat) (ls' : List Value) (i : Instr), decode (zb m0) pc' = .ok (i, 1) → zRt m0 i v → zWs D kA n0 q m0 p l e R s m args below meth c Q len0 sz0 pc' ls' v.toList M1) → zWs D kA n0 q m0 p l e R s m args below meth c Q len0 sz0 0 (zent (zmx m0) as) [] M) :
    Met l (zy m0) (zws m0) (zrm m0 M M1) (zPre D kA n0 q X as M) (zQc D kA n0 q v M1) (M1.1.length - M.1.length) (zsize M1.1 - zsize M.1) (zA n0) := by
  obtain ⟨g1, g2, g3, g4, g5, g6, g7⟩ := hg
  refine va_MetF (cc := zb m0) (maxL := zmx m0) (ret := zrt m0) (ws' := zTb) g4 rfl ?_
  intro p e s m args below meth c s₁ B hml hv
  obtain ⟨rfl, hW, hK, hE⟩ := hv
  have hx := B.exec
  have hb := B.bytes
  have hr := B.returns
  have hlocks := B.notSynchronized
  have hts := atoms_spec (ws := zws m0) B.pre
  have hown : s.vm.findClass (zcn (zow m0)) = some m.cls := by rw [← g3]; exact findClass_of_methodNamed B.named
  have hnm : (zy m0).name = "<init>" → meth.name = "<init>" := fun h => (name_of_methodNamed B.named B.method).1.trans h
  have hn0 : n0 ≤ s.heap.size := by rw [hW.1]; exact Nat.le_add_right _ _
  have C : zCx D kA n0 q X m0 p (headSpec (zws m0) (zrm m0 M M1)).room s m (as.map (zren n0 q)).toArray meth c := ⟨hx, hb, hml, hown, fun w hw => hts w (List.mem_cons_of_mem _ hw), hnm, hK, hn0, hE, Nat.le_refl _, Nat.le_refl _, g1⟩
  rw [lg_entry_eq]
  have K := body (e := e) (below := below) (Q := MQ below (zQc D kA n0 q v M1) (as.map (zren n0 q)).toArray s (M1.1.length - M.1.length) (zsize M1.1 - zsize M.1) (zA n0)) (len0 := M.1.length) (sz0 := zsize M.1) C ⟨Nat.le_refl _, Nat.le_refl _⟩ ⟨Nat.le_refl _, Nat.le_refl _⟩ ?_ s.heap [] _ hW va_S.rf (zentLoc hsp)
  · rw [Nat.sub_self, Nat.sub_self] at K
    exact K
  · intro pc' ls' i hdec hrt H locs lsM hW1 hS hl
    rcases hrt with ⟨rfl, rfl, h3⟩ | ⟨x, rfl, rfl, h3⟩ | ⟨x, rfl, rfl, h3⟩ | ⟨x, rfl, rfl, h3⟩
    · exact W.vret hx hb (hr.trans h3) (fun t ht hW2 => ⟨rfl, by rw [ht]; exact hW1, hS.F ht⟩) hS.2.2 hdec
    · rcases h3 with h3 | ⟨h3, h4⟩
      · exact W.iret hx hb (hr.trans h3) (fun t ht hW2 => ⟨rfl, by rw [ht]; exact hW1, hS.F ht⟩) hS.2.2 hdec
      · exact W.zret (ty := .boolean) hx hb (hr.trans h3) (by rcases h4 with rfl | rfl <;> rfl) (fun t ht hW2 => ⟨rfl, by rw [ht]; exact hW1, hS.F ht⟩) hS.2.2 hdec
    · exact W.lret hx hb (hr.trans h3) (fun t ht hW2 => ⟨rfl, by rw [ht]; exact hW1, hS.F ht⟩) hS.2.2 hdec
    · exact W.dret hx hb (hr.trans h3) (fun t ht hW2 => ⟨rfl, by rw [ht]; exact hW1, hS.F ht⟩) hS.2.2 hdec
theorem zs_back {D : va_G} {kA : Nat → ClassId} {n0 : Nat} {q : Nat → Nat} {p : Program} {l : Launch} {e : Env} {R : Room} {s : State} {m : MethodId} {args a : Array Value} {below : List Frame} {meth : Method} {c : Code} {Q : State → Prop} {H : Heap} {locs : List Loc} {cells slots mc ms pc : Nat} {ls : Array Slot} {st0 rest : List Value} {v : Option Value} {M1 : zM} (hn0 : n0 ≤ s.heap.size) (hr : va_Run p l e R s m args below meth c H locs cells slots mc ms (F0 m pc ls st0) rest (zQc D kA n0 q v M1 a) (zA n0)) (hS : va_S (zA n0) s.heap H locs)
    (kk : ∀ (H1 : Heap) (locs1 : List Loc), zW D kA n0 q M1 H1 → va_S (zA n0) s.heap H1 locs1 → W p l e R s m args below meth c H1 locs1 (cells + mc) (slots + ms) Q (F0 m (pc + 3) ls ((v.map (zren n0 q)).toList ++ rest))) : W p l e R s m args below meth c H locs cells slots Q (F0 m pc ls st0) := by
  intro T hT X
  obtain ⟨v', st₀, t, T', L, h0, X', hL, e1, e2, ⟨h3, h4, h5, h6⟩, st⟩ := hr T hT X
  cases h3
  rw [h0] at h5 h6
  obtain ⟨t2, a1, b1⟩ := kk T'.heap (locs ++ L) (by rw [e1]; exact h4) ⟨Nat.le_trans hS.1 (by rw [e1]; exact h5), fun a g1 g2 => by rw [e1, h6 a (Nat.lt_of_lt_of_le g1 hS.1) g2]; exact hS.2.1 a g1 g2, fun a ha => by
    rcases List.mem_append.mp ha with h | h
    · exact hS.2.2 a h
    · exact hL a h⟩ T' rfl X'
  exact ⟨t2, st t2 a1, b1⟩
set_option maxHeartbeats 4000000 in
theorem zsound {X : zSc} : ∀ (f : Nat) {m0 : zMt} {pc : Nat} {ls st : List Value} {M : zM} {r : Option Value} {M' : zM}, zrun X f m0 pc ls st M = some (r, M') → ∀ {D : va_G} {kA : Nat → ClassId} {n0 : Nat} {q : Nat → Nat} {p : Program} {l : Launch} {e : Env} {R : Room} {s : State} {m : MethodId} {args : Array Value} {below : List Frame} {meth : Method} {c : Code} {Q : State → Prop} {len0 sz0 : Nat}, zCx D kA n0 q X m0 p R s m args meth c → len0 ≤ M.1.length ∧ sz0 ≤ zsize M.1 → M'.1.length - len0 ≤ R.cells ∧ zsize M'.1 - sz0 ≤ R.slots → (∀ (pc' : Nat) (ls' : List Value) (i : Instr), decode (zb m0) pc' = .ok (i, 1) → zRt m0 i r → zWs D kA n0 q m0 p l e R s m args below meth c Q len0 sz0 pc' ls' r.toList M') → zWs D kA n0 q m0 p l e R s m args below meth c Q len0 sz0 pc ls st M := by
  intro f
  induction f with
  | zero => intro m0 pc ls st M r M' h; cases h
  | succ f ih =>
    intro m0 pc ls st M r M' h D kA n0 q p l e R s m args below meth c Q len0 sz0 C h0 hR hret
    have hgood := C.2.2.2.2.2.2.2.2.2.2.2
    rw [zrun] at h
    split at h
    · cases h
    · next pc1 ls1 st1 M1 e1 =>
      unfold zstep at e1
      split at e1
      · next i n hf =>
        have hgo := zdec_ok hgood hf
        have hle := (zx_shp e1).le
        have hle2 := zrun_le2 _ h
        have hpc : pc1 ≠ 65535 := by
          intro he
          subst he
          cases f with
          | zero => cases h
          | succ f =>
            rw [zrun] at h
            cases e2 : zfd2 (zcd m0) 65535 with
            | none =>
              have e3 : zstep X m0 65535 ls1 st1 M1 = none := by unfold zstep; rw [e2]
              rw [e3] at h
              cases h
            | some y =>
              obtain ⟨i2, n2⟩ := y
              have h9 := zdec_ok hgood e2
              simp only [zgo1, Bool.and_eq_true] at h9
              have h10 := Nat.le_of_ble_eq_true h9.2.2.2
              simp at h10
        exact zs_one C hgo e1 hpc h0 (by omega) (ih h C (by omega) hR hret)
      · cases e1
    · next mj as pc1 rest e1 =>
      split at h
      · cases h
      · next v M1 e2 =>
        unfold zstep at e1
        split at e1
        · next i n hf =>
          have hgo := zdec_ok hgood hf
          simp only [zgo1, Bool.and_eq_true, decide_eq_true_eq] at hgo
          obtain ⟨hdec, hlen, -⟩ := hgo
          obtain ⟨idx, kind, hk, hcall⟩ := zx_call e1
          obtain ⟨na, hlk, hlv, hargs, hcat, hsp, rfl, hkind⟩ := zcall_ok hcall
          have hle1 := zrun_le2 _ e2
          have hle2 := zrun_le2 _ h
          have K := ih h C (by omega) hR hret
          obtain ⟨hx, hb, hml, hown, hts, hnm, hK, hn0, hE, hfr, hlo, -⟩ := id C
          have hMok := zM_ok hlk
          obtain ⟨hg, hmk⟩ := hMok
          have hM : Met l (zy mj) (zws mj) (zrm mj M M1) (zPre D kA n0 q X as M) (zQc D kA n0 q v M1) (M1.1.length - M.1.length) (zsize M1.1 - zsize M.1) (zA n0) := zmet hg hsp (fun C2 h2 hR2 hret2 => ih e2 C2 h2 hR2 hret2)
          obtain ⟨xs, hx1, hx2, hx3⟩ := zargs_ok hargs
          rw [List.append_nil] at hx2
          subst hx2
          subst hx3
          have hRR : (zrm mj M M1).frames + 1 ≤ R.frames ∧ 8 + (zmx mj + 11) + (zrm mj M M1).locals ≤ R.locals := by
            have h9 := hg.2.2.2.2.2.2
            simp only [Bool.and_eq_true] at h9
            have h10 := Nat.le_of_ble_eq_true h9.2
            show zlv mj + 1 + 1 ≤ R.frames ∧ 8 + (zmx mj + 11) + zlo (zlv mj) ≤ R.locals
            unfold zlo at hlo ⊢
            omega
          intro H locs lsM hW hS hl
          have hpre : ∀ U : State, U.heap = H → s.WarmedH U.vm → zPre D kA n0 q X as M (as.map (zren n0 q)).toArray U := fun U hU hWU => ⟨rfl, by rw [hU]; exact hW, va_K.moved hWU.alike hK, by rw [hU]; exact zExt.at hE hn0 hS.2.1 hWU⟩
          have hsum : 2 * (F0 m pc lsM ((as.reverse ++ rest).map (zren n0 q))).monitorRoom + ((rest.map (zren n0 q)).map fun v => v.category).sum ≤ 8 := lv_room (by rw [zcat_eq]; exact hcat)
          have hcells : M.1.length - len0 + (M1.1.length - M.1.length) = M1.1.length - len0 := by omega
          have hslots : zsize M.1 - sz0 + (zsize M1.1 - zsize M.1) = zsize M1.1 - sz0 := by omega
          have hf2 : M.1.length - len0 + (M1.1.length - M.1.length) ≤ R.cells ∧ zsize M.1 - sz0 + (zsize M1.1 - zsize M.1) ≤ R.slots := by rw [hcells, hslots]; omega
          have hgoon : ∀ (a' : Array Value) (hdec3 : n = 3), va_Run p l e R s m args below meth c H locs (M.1.length - len0) (zsize M.1 - sz0) (M1.1.length - M.1.length) (zsize M1.1 - zsize M.1) (F0 m pc lsM ((as.reverse ++ rest).map (zren n0 q))) (rest.map (zren n0 q)) (zQc D kA n0 q v M1 a') (zA n0) → W p l e R s m args below meth c H locs (M.1.length - len0) (zsize M.1 - sz0) Q (F0 m pc lsM ((as.reverse ++ rest).map (zren n0 q))) := by
            intro a' hn3 hrun
            subst hn3
            refine zs_back hn0 hrun hS (fun H1 locs1 hW1 hS1 => ?_)
            rw [hcells, hslots]
            have K2 := K H1 locs1 lsM hW1 hS1 hl
            rw [List.map_append] at K2
            cases v with
            | none => exact K2
            | some v => exact K2
          have hmh := hg.2.2.2.2.2.1
          rcases hk with ⟨rfl, rfl⟩ | ⟨rfl, rfl⟩ | ⟨rfl, hkk⟩
          · have hn3 : n = 3 := (Nat.eq_of_beq_eq_true hlen).symm
            subst hn3
            obtain ⟨hl1, hl2, hl3, hl4⟩ := hmk
            rcases hkind with ⟨-, b, t, rfl, hcl⟩ | h9 | ⟨h9, -⟩
            · have hpar : (parseMethodDescriptor (zy mj).desc).map (fun d => d.parameters.length) = some t.length := by
                simp only [zpar, Option.map_eq_some_iff] at hl4 ⊢
                obtain ⟨k, ⟨y, hy, hy2⟩, hk2⟩ := hl4
                refine ⟨y, hy, ?_⟩
                simp at hx1
                omega
              refine hgoon _ rfl (va_runV (C := (zy mj).cls) (As := t.map (zren n0 q)) (b := n0 + b) (Ts := zTb) (own := zcn (zow m0)) ⟨hx, hb, hml, hown, hts⟩ hM ⟨callB_of t.length hts (zgd hg) rfl rfl rfl (hts _ (zg hg.2.2.2.2.1 rfl)) (hts _ (zg hl1 rfl)) ⟨hmh.1, hmh.2, hpar⟩ hRR, hts _ (zg hl2 rfl), hts _ (zg hl3 rfl)⟩ ⟨zPre_blind, ?_, fun U hU hWU => hpre U hU hWU⟩ rfl (by simp) hl.2.1 (by simp [zren]) hsum hdec hf2)
              unfold zcls at hcl
              split at hcl
              · next cc fs hgt =>
                cases hcl
                obtain ⟨r1, h11, cell, h12, h13, h14, -⟩ := hW.2 b _ (zwd_get hgt)
                have h15 : r1.1 = zcn (zow mj) := by
                  obtain ⟨C1, T1, N1⟩ := r1
                  exact (zcn_cl (ci := zow mj) (T := T1) (N := N1) (by rw [zgt_eq]; exact h11)).symm
                refine ⟨cell, h12, by rw [h14]; rfl, ?_⟩
                rw [h13, hg.2.2.1, ← h15]
                exact (hK.1 _ _ h11).2.1
              · cases hcl
            · cases h9
            · rcases h9 with h9 | h9 <;> cases h9
          · have hn3 : n = 3 := (Nat.eq_of_beq_eq_true hlen).symm
            subst hn3
            obtain ⟨hl1, hl2, hl4⟩ := hmk
            have hpar : (parseMethodDescriptor (zy mj).desc).map (fun d => d.parameters.length) = some as.length := by
              rw [hx1]; exact hl4
            exact hgoon _ rfl (va_runS (As := as.map (zren n0 q)) (Ts := zTb) (own := zcn (zow m0)) ⟨hx, hb, hml, hown, hts⟩ hM ⟨callB_of as.length hts (zgd hg) rfl rfl rfl (hts _ (zg hg.2.2.2.2.1 rfl)) (hts _ (zg hl1 rfl)) ⟨hmh.1, hmh.2, hpar⟩ hRR, hts _ (zg hl2 rfl)⟩ ⟨zPre_blind, hpre⟩ rfl (by simp) hl.2.1 (by simp) hsum hdec hf2)
          · have hn3 : n = 3 := (Nat.eq_of_beq_eq_true hlen).symm
            subst hn3
            have hkind2 : ∃ b t, as = .ref b :: t := by
              rcases hkind with ⟨rfl, -⟩ | rfl | ⟨-, h9⟩
              · rcases hkk with h9 | h9 <;> cases h9
              · rcases hkk with h9 | h9 <;> cases h9
              · exact h9
            obtain ⟨b, t, rfl⟩ := hkind2
            rcases hkk with rfl | rfl
            · obtain ⟨hl1, hl2, hl3, hl5, hl4⟩ := hmk
              have hpar : (parseMethodDescriptor (zy mj).desc).map (fun d => d.parameters.length) = some t.length := by
                simp only [zpar, Option.map_eq_some_iff] at hl4 ⊢
                obtain ⟨k, ⟨y, hy, hy2⟩, hk2⟩ := hl4
                refine ⟨y, hy, ?_⟩
                simp at hx1
                omega
              exact hgoon _ rfl (va_runI (maxL := zmx mj) (bytes := zb mj) (As := t.map (zren n0 q)) (b := n0 + b) (Ts := zTb) (own := zcn (zow m0)) ⟨hx, hb, hml, hown, hts⟩ hM ⟨callB_of (ws' := zTb) t.length hts (zgd hg) (by rw [← hl5]; rfl) rfl rfl (hts _ (zg hg.2.2.2.2.1 rfl)) (hts _ (zg hl1 rfl)) ⟨hmh.1, hmh.2, hpar⟩ hRR, hl3, hts _ (zg hl2 rfl)⟩ ⟨zPre_blind, hpre⟩ rfl (by simp) hl.2.1 (by simp [zren]) hsum hdec hf2)
            · obtain ⟨hl1, hl2, hl3, hl5, hl4⟩ := hmk
              have hpar : (parseMethodDescriptor (zy mj).desc).map (fun d => d.parameters.length) = some t.length := by
                simp only [zpar, Option.map_eq_some_iff] at hl4 ⊢
                obtain ⟨k, ⟨y, hy, hy2⟩, hk2⟩ := hl4
                refine ⟨y, hy, ?_⟩
                simp at hx1
                omega
              exact hgoon _ rfl (va_runIN (host := "DoubleLedger") (maxL := zmx mj) (bytes := zb mj) (As := t.map (zren n0 q)) (b := n0 + b) (Ts := zTb) (own := zcn (zow m0)) ⟨hx, hb, hml, hown, hts⟩ hM ⟨va_cnB (ws' := zTb) t.length hts (zgd hg) (by rw [← hl5]; rfl) rfl rfl (hE.2.2.2 _ _ _ hl1) (hts _ (zg hg.2.2.2.2.1 rfl)) ⟨hmh.1, hmh.2, hpar⟩ hRR, hl3, hts _ (zg hl2 rfl)⟩ ⟨zPre_blind, hpre⟩ rfl (by simp) hl.2.1 (by simp [zren]) hsum hdec hf2)
        · cases e1
    · next v e1 =>
      cases h
      unfold zstep at e1
      split at e1
      · next i n hf =>
        have hgo := zdec_ok hgood hf
        simp only [zgo1, Bool.and_eq_true, decide_eq_true_eq] at hgo
        obtain ⟨hdec, hlen, -⟩ := hgo
        obtain ⟨rfl, hrt⟩ := zx_ret e1
        have hn1 : n = 1 := by
          rcases hrt with ⟨-, rfl, -⟩ | ⟨x, -, rfl, -⟩ | ⟨x, -, rfl, -⟩ | ⟨x, -, rfl, -⟩ <;> exact (Nat.eq_of_beq_eq_true hlen).symm
        subst hn1
        exact hret pc ls i hdec hrt
      · cases e1
