def zcns : List String := [RX0, RX1, RX2, RX3, RX4, RX5, RX6, RX7, RX8, RX9, RX10, RX11, RX12, RX13, RX14, RX15]
def zcn (k : Nat) : String := match zgt zcns k with
  | some s => s
  | none => ""
theorem zfd_mem {α : Type} {v : α} {k : Nat} : ∀ {l : List (Nat × α)}, zfd l k = some v → (k, v) ∈ l
  | [], h => by cases h
  | (a, w) :: t, h => by
    rw [zfd] at h
    cases e : Nat.beq a k with
    | true =>
      rw [e] at h
      have e2 : a = k := Nat.eq_of_beq_eq_true e
      injection h with h
      subst e2; subst h
      exact List.mem_cons_self
    | false =>
      rw [e] at h
      exact List.mem_cons_of_mem _ (zfd_mem h)
theorem zfd2_mem {α : Type} {v : α} {k : Nat} : ∀ {l : List (Nat × List (Nat × α))}, zfd2 l k = some v → ∃ p ∈ l, (k, v) ∈ p.2
  | [], h => by cases h
  | (b, w) :: t, h => by
    rw [zfd2] at h
    cases e : Nat.blt k b with
    | true =>
      rw [e] at h
      exact ⟨_, List.mem_cons_self, zfd_mem h⟩
    | false =>
      rw [e] at h
      obtain ⟨p, h1, h2⟩ := zfd2_mem (l := t) h
      exact ⟨p, List.mem_cons_of_mem _ h1, h2⟩
theorem zlk_mem {α : Type} {t : List (Nat × List (Nat × List (Nat × α)))} {own idx : Nat} {v : α} (h : zlook t own idx = some v) : ∃ q ∈ t, q.1 = own ∧ ∃ p ∈ q.2, (idx, v) ∈ p.2 := by
  unfold zlook at h
  split at h
  · cases h
  · next c e =>
    obtain ⟨p, h1, h2⟩ := zfd2_mem h
    exact ⟨_, zfd_mem e, rfl, p, h1, h2⟩
theorem zlk_all {α : Type} {t : List (Nat × List (Nat × List (Nat × α)))} {f : Nat → Nat → α → Bool} (ha : t.all (fun q => q.2.all fun p => p.2.all fun e => f q.1 e.1 e.2) = true) {own idx : Nat} {v : α} (h : zlook t own idx = some v) : f own idx v = true := by
  obtain ⟨q, h1, rfl, p, h2, h3⟩ := zlk_mem h
  exact List.all_eq_true.mp (List.all_eq_true.mp (List.all_eq_true.mp ha q h1) p h2) _ h3
def zFc (own idx : Nat) (e : Nat × Nat × Nat) : Bool := match zgt vwCl e.1 with
  | some (C, T, N) => Nat.blt e.2.1 N && (decide (lw_tbl[e.2.2]? = some (.fieldLink (zcn own) idx C (T e.2.1).2.1 (T e.2.1).2.2.1)) && decide (C = (T e.2.1).1))
  | none => false
theorem zF_all : zlkFT.all (fun q => q.2.all fun p => p.2.all fun e => zFc q.1 e.1 e.2) = true := by decide +kernel
def zpn (q : Nat) : MethodName := match q with
  | 0 => objectInit
  | 1 => arraycopyName
  | 2 => ⟨"java/lang/Double", "doubleToRawLongBits", "(D)J"⟩
  | 3 => ⟨"java/lang/Float", "floatToRawIntBits", "(F)I"⟩
  | 4 => ⟨"java/lang/String", "length", "()I"⟩
  | _ => ⟨"java/lang/String", "charAt", "(I)C"⟩
def zPc (own idx : Nat) (e : Nat × Nat) : Bool := decide (lw_tbl[e.2]? = some (.methodLink (zcn own) idx (zpn e.1)))
theorem zP_all : zlkPT.all (fun q => q.2.all fun p => p.2.all fun e => zPc q.1 e.1 e.2) = true := by decide +kernel
def zCc (own idx : Nat) (e : Nat × Nat) : Bool := decide (lw_tbl[e.2]? = some (.classLink (zcn own) idx (zcn e.1)))
theorem zC_all : zlkCT.all (fun q => q.2.all fun p => p.2.all fun e => zCc q.1 e.1 e.2) = true := by decide +kernel
def zIc (own idx : Nat) (e : Int32 × Nat) : Bool := decide (lw_tbl[e.2]? = some (.constant (zcn own) idx e.1))
theorem zI_all : zlkIT.all (fun q => q.2.all fun p => p.2.all fun e => zIc q.1 e.1 e.2) = true := by decide +kernel
def zJc (own idx : Nat) (e : Int64 × Nat) : Bool := decide (lw_tbl[e.2]? = some (.constantLong (zcn own) idx e.1))
theorem zJ_all : zlkJT.all (fun q => q.2.all fun p => p.2.all fun e => zJc q.1 e.1 e.2) = true := by decide +kernel
def zDc (own idx : Nat) (e : UInt64 × Nat) : Bool := decide (lw_tbl[e.2]? = some (.constantDouble (zcn own) idx e.1))
theorem zD_all : zlkDT.all (fun q => q.2.all fun p => p.2.all fun e => zDc q.1 e.1 e.2) = true := by decide +kernel
def zil : Instr → Nat
  | .iload _ | .lload _ | .dload _ | .aload _ | .istore _ | .lstore _ | .dstore _ | .astore _ | .bipush _ | .ldc _ | .newarray _ => 2
  | .sipush _ | .ldc2_w _ | .iinc _ _ | .ifCond _ _ | .if_icmp _ _ | .ifnonnull _ | .goto _ | .getfield _ | .putfield _ | .new _ | .invokevirtual _ | .invokestatic _ | .invokespecial _ => 3
  | .tableswitch _ _ _ _ => 0
  | _ => 1
def zio (m : zMt) (i : Instr) : Bool := match i with
  | .iconst n => decide (Int32.ofInt n = zic n)
  | .bipush n => decide ((Int8.ofInt n).toInt32 = zic n)
  | .sipush n => decide ((Int16.ofInt n).toInt32 = zic n)
  | .iinc _ n => decide (Int32.ofInt n = zic n)
  | .putfield idx => match zlkF (zow m) idx with
    | some (ci, k, _) => match zgt vwCl ci with
      | some (_, T, _) => !(T k).2.2.2 || (decide ((zy m).name = "<init>") && Nat.beq ci (zow m))
      | none => false
    | none => true
  | _ => true
def zgo1 (m : zMt) (e : Nat × Instr × Nat) : Bool := decide (decode (zb m) e.1 = .ok (e.2.1, e.2.2)) && ((Nat.beq (zil e.2.1) 0 || Nat.beq (zil e.2.1) e.2.2) && (zio m e.2.1 && Nat.blt e.1 60000))
theorem zm0 {w : Cond} (h : w ∈ k2_sels lw_privs) : w ∈ lw_tbl := List.mem_append_left _ h
theorem zmt {w : Cond} (h : w ∈ tables_1) : w ∈ lw_tbl := List.mem_append_right _ h
theorem zm1 {w : Cond} (h : w ∈ tables_1_1) : w ∈ lw_tbl := zmt (List.mem_append_left _ h)
theorem zm2 {w : Cond} (h : w ∈ tables_1_2) : w ∈ lw_tbl := zmt (List.mem_append_right _ (List.mem_append_left _ h))
theorem zm3 {w : Cond} (h : w ∈ tables_1_3) : w ∈ lw_tbl := zmt (List.mem_append_right _ (List.mem_append_right _ (List.mem_append_left _ h)))
theorem zm4 {w : Cond} (h : w ∈ tables_1_4) : w ∈ lw_tbl := zmt (List.mem_append_right _ (List.mem_append_right _ (List.mem_append_right _ (List.mem_append_left _ h))))
theorem zm5 {w : Cond} (h : w ∈ tables_1_5) : w ∈ lw_tbl := zmt (List.mem_append_right _ (List.mem_append_right _ (List.mem_append_right _ (List.mem_append_right _ (List.mem_append_left _ h)))))
theorem zm6 {w : Cond} (h : w ∈ tables_1_6) : w ∈ lw_tbl := zmt (List.mem_append_right _ (List.mem_append_right _ (List.mem_append_right _ (List.mem_append_right _ (List.mem_append_right _ h)))))
def zGood (m : zMt) : Prop := (zcd m).all (fun p => p.2.all (zgo1 m)) = true ∧ Cond.code (zy m) (zb m) (zmx m) (zrt m) ∈ lw_tbl ∧ (zy m).cls = zcn (zow m) ∧ plainFor (zy m) = true ∧ Cond.initialized (zy m).cls ∈ lw_tbl ∧ ((zy m).cls ≠ "java/lang/invoke/MethodHandle" ∧ (zy m).cls ≠ "java/lang/invoke/VarHandle") ∧ (Nat.ble (zlv m) 6 && Nat.ble (zmx m) 11) = true
def zpar (y : MethodName) : Option Nat := (parseMethodDescriptor y.desc).map (fun d => d.parameters.length)
def zMok (own idx : Nat) (e : Nat × Nat × zMt) : Prop := zGood e.2.2 ∧ match e.1 with
  | 0 => Cond.methodLink (zcn own) idx (zy e.2.2) ∈ lw_tbl ∧ Cond.instanceMethod (zy e.2.2) ∈ lw_tbl ∧ Cond.selects (zy e.2.2).cls (zy e.2.2) (zy e.2.2) ∈ lw_tbl ∧ (zpar (zy e.2.2)).map (· + 1) = some e.2.1
  | 1 => Cond.methodLink (zcn own) idx (zy e.2.2) ∈ lw_tbl ∧ Cond.static (zy e.2.2) ∈ lw_tbl ∧ zpar (zy e.2.2) = some e.2.1
  | 2 => Cond.methodLink (zcn own) idx (zy e.2.2) ∈ lw_tbl ∧ Cond.instanceMethod (zy e.2.2) ∈ lw_tbl ∧ (zy e.2.2).name = "<init>" ∧ zrt e.2.2 = none ∧ (zpar (zy e.2.2)).map (· + 1) = some e.2.1
  | 3 => Cond.methodLinkNest (zcn own) idx (zy e.2.2) "DoubleLedger" ∈ lw_tbl ∧ Cond.instanceMethod (zy e.2.2) ∈ lw_tbl ∧ (zy e.2.2).name = "<init>" ∧ zrt e.2.2 = none ∧ (zpar (zy e.2.2)).map (· + 1) = some e.2.1
  | _ => False
