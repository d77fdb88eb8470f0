/-! letters on the paper: both sides write the same list -/
def wrT (R : Nat → Int32) (T : List Nat) : Nat → Int32 := fun k => if k < T.length then nI (T.getD k 0) else R k
theorem wrT_snoc (R : Nat → Int32) (T : List Nat) (x : Nat) : upd (wrT R T) T.length (nI x) = wrT R (T ++ [x]) := by
  funext k
  show (if k = T.length then nI x else if k < T.length then nI (T.getD k 0) else R k) = (if k < (T ++ [x]).length then nI ((T ++ [x]).getD k 0) else R k)
  rw [List.length_append, List.length_singleton]
  by_cases h : k = T.length
  · subst h
    rw [if_pos rfl, if_pos (by omega), List.getD_eq_getElem?_getD, List.getElem?_append_right (Nat.le_refl _), Nat.sub_self]
    rfl
  · rw [if_neg h]
    by_cases h2 : k < T.length
    · rw [if_pos h2, if_pos (by omega), List.getD_eq_getElem?_getD, List.getD_eq_getElem?_getD, List.getElem?_append_left h2]
    · rw [if_neg h2, if_neg (by omega)]
theorem upd2 (f : Nat → Int32) (k : Nat) (x y : Int32) : upd (upd f k x) k y = upd f k y := by
  funext j
  show (if j = k then y else if j = k then x else f j) = (if j = k then y else f j)
  split <;> rfl
theorem va4 {α : Type} (f : Nat → α) (a b : Nat) (A B A' B' : α) : va_up (va_up (va_up (va_up f a A) b B) a A') b B' = va_up (va_up f a A') b B' := by
  funext k
  show (if k = b then B' else if k = a then A' else if k = b then B else if k = a then A else f k) = (if k = b then B' else if k = a then A' else f k)
  split
  · rfl
  · split <;> rfl
def cT (I : zI) (R : Nat → Int32) (T : List Nat) : zI := va_up (va_up I 34 (wrT R T)) 33 (upd (I 33) 0 (nI T.length))
def mT (I : zI) (R : Nat → Int32) (T : List Nat) : zI := va_up (va_up I 47 (wrT R T)) 39 (upd (I 39) 17 (nI T.length))
/-- the greatest unit, and figures -/
def un (r : Nat) : Nat → Nat → Nat
  | 0, u => u
  | f + 1, u => if r / u < 10 then u else un r f (u * 10)
def dg (r : Nat) : Nat → Nat → List Nat
  | 0, _ => []
  | f + 1, u => if u = 0 then [] else (48 + r / u % 10) :: dg r f (u / 10)
theorem un_pw (r : Nat) : ∀ f u m, u ≤ 10 ^ m → 0 < u → un r f u ≤ 10 ^ (m + f) ∧ 0 < un r f u
  | 0, u, m, h, h0 => ⟨h, h0⟩
  | f + 1, u, m, h, h0 => by
    rw [un]
    split
    · refine ⟨Nat.le_trans h (Nat.pow_le_pow_right (by decide) (by omega)), h0⟩
    · have := un_pw r f (u * 10) (m + 1) (by rw [Nat.pow_succ]; omega) (by omega)
      rw [show m + (f + 1) = m + 1 + f by omega]
      exact this
theorem dg_len (r : Nat) : ∀ f u m, u < 10 ^ m → (dg r f u).length ≤ m
  | 0, _, m, _ => Nat.zero_le _
  | f + 1, u, m, h => by
    rw [dg]
    split
    · exact Nat.zero_le _
    · rename_i h0
      match m, h with
      | 0, h => rw [Nat.pow_zero] at h; omega
      | m + 1, h =>
        have := dg_len r f (u / 10) m (by rw [Nat.pow_succ] at h; omega)
        rw [List.length_cons]; omega
/-- a number's letters -/
def nl (v : Int32) : List Nat := (if v < 0 then [45] else []) ++ dg v.toInt.natAbs 7 (un v.toInt.natAbs 6 1)
section LT
variable {X : zSc} {im : Option Nat} {tl : List zS} {I J : zI} {L K : zL} {R : Nat → Int32} {T : List Nat}
theorem c_add1 {x : Nat} (hx : x < 128) (hn : T.length < 125) : zEv X mt_X7_add 0 [.ref 33, .int (nI x)] [] (zSH im tl, cT I R T, L) (none, (zSH im tl, cT I R (T ++ [x]), L)) := by
  have e0 : cT I R T 33 0 = nI T.length := rfl
  refine ev_r (sg_X7_add_0_1 (I := cT I R T) _ (k_nle (a := 125) rfl e0 hn (by omega)) (k_in e0 hn (by omega))) ?_
  rw [e0, kc (by omega), nar_byte x hx, nI_1]
  show (none, zSH im tl, va_up (va_up (va_up (va_up I 34 (wrT R T)) 33 (upd (I 33) 0 (nI T.length))) 34 (upd (wrT R T) T.length (nI x))) 33 (upd (upd (I 33) 0 (nI T.length)) 0 (nI (T.length + 1))), L) = _
  rw [wrT_snoc, upd2, va4]
  unfold cT
  rw [List.length_append, List.length_singleton]
theorem m_put1 (x : Nat) (hn : T.length < 200) : zEv X mt_X11_put 0 [.ref 39, .int (nI x)] [] (zSH im tl, mT J R T, K) (none, (zSH im tl, mT J R (T ++ [x]), K)) := by
  have e0 : mT J R T 39 17 = nI T.length := rfl
  refine ev_r (sg_X11_put_0_0 (I := mT J R T) _ (k_in e0 hn (by omega))) ?_
  rw [e0, kc (by omega), nI_1]
  show (none, zSH im tl, va_up (va_up (va_up (va_up J 47 (wrT R T)) 39 (upd (J 39) 17 (nI T.length))) 47 (upd (wrT R T) T.length (nI x))) 39 (upd (upd (J 39) 17 (nI T.length)) 17 (nI (T.length + 1))), K) = _
  rw [wrT_snoc, upd2, va4]
  unfold mT
  rw [List.length_append, List.length_singleton]
theorem c_dg (v1 : Int32) {r : Nat} (hr : r < 2 ^ 31) : ∀ (f g u : Nat) (T : List Nat), g + f = 7 → u < 10 ^ f → T.length + (dg r f u).length ≤ 125 → u < 2 ^ 31 → zEv X mt_X7_addNumber 49 [.ref 33, .int v1, .int (nI r), .int (nI u), .int (nI g)] [] (zSH im tl, cT I R T, L) (none, (zSH im tl, cT I R (T ++ dg r f u), L)) := by
  intro f
  induction f with
  | zero =>
    intro g u T hg hu hn _
    have : g = 7 := by omega
    subst this
    rw [dg, List.append_nil]
    exact sg_X7_addNumber_49_0 _ _ _ _ (by decide)
  | succ f ih =>
    intro g u T hg hu hn hu2
    have hg7 : ¬ (7 : Int32) ≤ nI g := k_nle (a := 7) rfl rfl (by omega) (by omega)
    rw [dg] at hn ⊢
    by_cases h0 : u = 0
    · subst h0
      rw [if_pos rfl, List.append_nil]
      exact sg_X7_addNumber_49_1 _ _ _ _ hg7 (by decide)
    · rw [if_neg h0] at hn ⊢
      rw [List.length_cons] at hn
      have e1 : nI r / nI u = nI (r / u) := pk_div hr (by omega) hu2
      have hq : r / u < 2 ^ 31 := Nat.lt_of_le_of_lt (Nat.div_le_self _ _) hr
      have e2 : nI (r / u) - nI (r / u) / 10 * 10 = nI (r / u % 10) := pk_rem (a := r / u) (d := 10) hq (by omega) (by omega)
      have hm : r / u % 10 < 10 := Nat.mod_lt _ (by decide)
      have ca : zEv X mt_X7_add 0 [.ref 33, .int (48 + (nI r / nI u - nI r / nI u / 10 * 10))] [] (zSH im tl, cT I R T, L) (none, (zSH im tl, cT I R (T ++ [48 + r / u % 10]), L)) := by
        rw [e1, e2, show (48 : Int32) + nI (r / u % 10) = nI (48 + r / u % 10) from nI_add 48 _]
        exact c_add1 (by omega) (by omega)
      refine sg_X7_addNumber_49_2 _ _ _ _ hg7 (nI_nle (by omega) hu2) (nI_ne0 (by omega) hu2) ca (sg_X7_addNumber_73_0 _ _ _ _ ?_)
      · rw [show nI u / 10 = nI (u / 10) from pk_div (a := u) (d := 10) hu2 (by omega) (by omega), nI_1]
        have h2 := ih (g + 1) (u / 10) (T ++ [48 + r / u % 10]) (by omega) (by rw [Nat.pow_succ] at hu; omega) (by rw [List.length_append, List.length_singleton]; omega) (by omega)
        rw [List.append_assoc, List.singleton_append] at h2
        exact h2
theorem c_un (v1 : Int32) {r : Nat} (hr : r < 2 ^ 31) {rr : Option Value × zM} : ∀ (f g u : Nat), g + f = 7 → 0 < u → u * 10 ^ f < 2 ^ 31 → zEv X mt_X7_addNumber 49 [.ref 33, .int v1, .int (nI r), .int (nI (un r f u)), .int 0] [] (zSH im tl, I, L) rr → zEv X mt_X7_addNumber 20 [.ref 33, .int v1, .int (nI r), .int (nI u), .int (nI g)] [] (zSH im tl, I, L) rr := by
  intro f
  induction f with
  | zero =>
    intro g u hg h0 hu k
    have : g = 7 := by omega
    subst this
    exact sg_X7_addNumber_20_0 _ _ _ _ (by decide) k
  | succ f ih =>
    intro g u hg h0 hu k
    have hg7 : ¬ (7 : Int32) ≤ nI g := k_nle (a := 7) rfl rfl (by omega) (by omega)
    have p0 : 1 ≤ 10 ^ f := Nat.pos_of_neZero _
    have hu1 : u * 10 ≤ u * 10 ^ (f + 1) := Nat.mul_le_mul_left _ (by rw [Nat.pow_succ]; omega)
    have e1 : nI r / nI u = nI (r / u) := pk_div hr h0 (by omega)
    have hq : r / u < 2 ^ 31 := Nat.lt_of_le_of_lt (Nat.div_le_self _ _) hr
    rw [un] at k
    by_cases h : r / u < 10
    · rw [if_pos h] at k
      exact sg_X7_addNumber_20_1 _ _ _ _ hg7 (nI_ne0 h0 (by omega)) (by rw [e1]; exact nI_lt (b := 10) h (by omega)) k
    · rw [if_neg h] at k
      refine sg_X7_addNumber_20_2 _ _ _ _ hg7 (nI_ne0 h0 (by omega)) (by rw [e1]; exact nI_nlt (b := 10) (by omega) hq) ?_
      rw [show nI u * 10 = nI (u * 10) from pk_mul u 10, nI_1]
      exact ih (g + 1) (u * 10) (by omega) (by omega) (by rw [Nat.mul_assoc, show 10 * 10 ^ f = 10 ^ (f + 1) by rw [Nat.pow_succ, Nat.mul_comm]]; exact hu) k
theorem c_num {v : Int32} (h1 : -1000000 ≤ v.toInt) (h2 : v.toInt ≤ 1000000) (hn : T.length + (nl v).length ≤ 125) : zEv X mt_X7_addNumber 0 [.ref 33, .int v, .null, .null, .null] [] (zSH im tl, cT I R T, L) (none, (zSH im tl, cT I R (T ++ nl v), L)) := by
  have z0 : (0 : Int32).toInt = 0 := by decide +kernel
  have hu := un_pw v.toInt.natAbs 6 1 0 (by decide) (by decide)
  rw [show 10 ^ (0 + 6) = 1000000 by decide] at hu
  have tail : ∀ (w : Int32) (T : List Nat), w = nI v.toInt.natAbs → T.length + (dg v.toInt.natAbs 7 (un v.toInt.natAbs 6 1)).length ≤ 125 → zEv X mt_X7_addNumber 14 [.ref 33, .int v, .null, .null, .null] [.int w] (zSH im tl, cT I R T, L) (none, (zSH im tl, cT I R (T ++ dg v.toInt.natAbs 7 (un v.toInt.natAbs 6 1)), L)) := by
    intro w T hw hT
    subst hw
    refine sg_X7_addNumber_14_0 (I := cT I R T) _ _ (c_un (I := cT I R T) v (by omega) 6 1 1 rfl (by decide) (by decide) ?_)
    exact c_dg v (by omega) 7 0 _ T rfl (by omega) hT (by omega)
  by_cases hv : v < 0
  · have hv2 := hv
    rw [Int32.lt_iff_toInt_lt, z0] at hv2
    unfold nl at hn ⊢
    rw [if_pos hv] at hn ⊢
    rw [List.length_append, List.length_singleton] at hn
    have ab : -v = nI v.toInt.natAbs := by
      apply Int32.toInt_inj.mp
      rw [nI_toInt (by omega), Int32.toInt_neg, Int.bmod_eq_of_le (by omega) (by omega)]
      omega
    rw [← List.append_assoc]
    refine sg_X7_addNumber_0_1 (I := cT I R T) _ (fun q => absurd hv (Int32.not_lt.mpr q)) (c_add1 (x := 45) (by decide) (by omega)) (sg_X7_addNumber_10_0 (I := cT I R (T ++ [45])) _ (sg_J9_abs_0f7a4_0_1 _ (fun q => absurd hv (Int32.not_lt.mpr q))) ?_)
    exact tail _ _ ab (by rw [List.length_append, List.length_singleton]; omega)
  · have hv2 := hv
    rw [Int32.lt_iff_toInt_lt, z0] at hv2
    unfold nl at hn ⊢
    rw [if_neg hv, List.nil_append] at hn ⊢
    have ab : v = nI v.toInt.natAbs := by
      apply Int32.toInt_inj.mp
      rw [nI_toInt (by omega)]
      omega
    exact sg_X7_addNumber_0_0 (I := cT I R T) _ (Int32.not_lt.mp hv) (sg_J9_abs_0f7a4_0_0 _ (Int32.not_lt.mp hv)) (tail _ _ ab hn)
theorem m_dg (v1 : Int64) {r : Nat} (hr : r < 2 ^ 31) : ∀ (f u : Nat) (T : List Nat), u < 10 ^ f → T.length + (dg r f u).length ≤ 200 → u < 2 ^ 31 → zEv X mt_X11_putNumber 42 [.ref 39, .long v1, .null, .long (lN r), .null, .long (lN u), .null] [] (zSH im tl, mT J R T, K) (none, (zSH im tl, mT J R (T ++ dg r f u), K)) := by
  intro f
  induction f with
  | zero =>
    intro u T hu hn _
    have : u = 0 := by rw [Nat.pow_zero] at hu; omega
    subst this
    rw [dg, List.append_nil]
    exact sg_X11_putNumber_42_0 (I := mT J R T) _ _ _ (by decide)
  | succ f ih =>
    intro u T hu hn hu2
    rw [dg] at hn ⊢
    by_cases h0 : u = 0
    · subst h0
      rw [if_pos rfl, List.append_nil]
      exact sg_X11_putNumber_42_0 (I := mT J R T) _ _ _ (by decide)
    · rw [if_neg h0] at hn ⊢
      rw [List.length_cons] at hn
      have e1 : lN r / lN u = lN (r / u) := pk_lDiv (by omega) (by omega) (by omega)
      have hq : r / u < 2 ^ 31 := Nat.lt_of_le_of_lt (Nat.div_le_self _ _) hr
      have e2 : lN (r / u) - lN (r / u) / 10 * 10 = lN (r / u % 10) := pk_lRem (a := r / u) (b := 10) (by omega) (by omega) (by omega)
      have n0 : ¬ lN u = 0 := fun e => h0 ((pk_lEQ (a := u) (b := 0) (by omega) (by omega)).mp e)
      have nz : ¬ lg_cmp (lN u) 0 ≤ 0 := fun e => h0 (by
        have := (pk_lLE (a := u) (b := 0) (by omega) (by omega)).mp ((lg_cmp_le _ _).mp e)
        omega)
      have ca : zEv X mt_X11_put 0 [.ref 39, .int (48 + (lN r / lN u - lN r / lN u / 10 * 10).toInt32)] [] (zSH im tl, mT J R T, K) (none, (zSH im tl, mT J R (T ++ [48 + r / u % 10]), K)) := by
        rw [e1, e2, show (lN (r / u % 10)).toInt32 = nI (r / u % 10) from Int64.toInt32_ofNat', show (48 : Int32) + nI (r / u % 10) = nI (48 + r / u % 10) from nI_add 48 _]
        exact m_put1 _ (by omega)
      refine sg_X11_putNumber_42_1 _ _ _ nz n0 ca (sg_X11_putNumber_65_0 _ _ _ ?_)
      · rw [show lN u / 10 = lN (u / 10) from pk_lDiv (a := u) (b := 10) (by omega) (by omega) (by omega)]
        have h2 := ih (u / 10) (T ++ [48 + r / u % 10]) (by rw [Nat.pow_succ] at hu; omega) (by rw [List.length_append, List.length_singleton]; omega) (by omega)
        rw [List.append_assoc, List.singleton_append] at h2
        exact h2
theorem m_un (v1 : Int64) {r : Nat} (hr : r < 2 ^ 31) {rr : Option Value × zM} : ∀ (f u : Nat), 0 < u → u * 10 ^ f < 2 ^ 31 → r < u * 10 ^ (f + 1) → zEv X mt_X11_putNumber 42 [.ref 39, .long v1, .null, .long (lN r), .null, .long (lN (un r f u)), .null] [] (zSH im tl, J, K) rr → zEv X mt_X11_putNumber 20 [.ref 39, .long v1, .null, .long (lN r), .null, .long (lN u), .null] [] (zSH im tl, J, K) rr := by
  intro f
  induction f with
  | zero =>
    intro u h0 hu hr2 k
    rw [Nat.pow_zero, Nat.mul_one] at hu
    refine sg_X11_putNumber_20_0 _ _ _ ((lg_cmp_gt _ _).mpr ?_) k
    rw [show lN r / 10 = lN (r / 10) from pk_lDiv (a := r) (b := 10) (by omega) (by omega) (by omega)]
    exact (pk_lLT (by omega) (by omega)).mpr (by omega)
  | succ f ih =>
    intro u h0 hu hr2 k
    have p0 : 1 ≤ 10 ^ f := Nat.pos_of_neZero _
    have hu1 : u * 10 ≤ u * 10 ^ (f + 1) := Nat.mul_le_mul_left _ (by rw [Nat.pow_succ]; omega)
    have e1 : lN r / 10 = lN (r / 10) := pk_lDiv (a := r) (b := 10) (by omega) (by omega) (by omega)
    have hiff : r / u < 10 ↔ r / 10 < u := by
      rw [Nat.div_lt_iff_lt_mul h0]; omega
    rw [un] at k
    by_cases h : r / u < 10
    · rw [if_pos h] at k
      refine sg_X11_putNumber_20_0 _ _ _ ((lg_cmp_gt _ _).mpr ?_) k
      rw [e1]
      exact (pk_lLT (by omega) (by omega)).mpr (hiff.mp h)
    · rw [if_neg h] at k
      refine sg_X11_putNumber_20_1 _ _ _ (fun e => h (hiff.mpr ?_)) ?_
      · have := (lg_cmp_gt _ _).mp e
        rw [e1] at this
        exact (pk_lLT (by omega) (by omega)).mp this
      · rw [show lN u * 10 = lN (u * 10) from (Int64.ofNat_mul u 10).symm]
        have ea : 10 * 10 ^ f = 10 ^ (f + 1) := by rw [Nat.pow_succ, Nat.mul_comm]
        have eb : 10 * 10 ^ (f + 1) = 10 ^ (f + 1 + 1) := by rw [Nat.pow_succ 10 (f + 1), Nat.mul_comm]
        exact ih (u * 10) (by omega) (by rw [Nat.mul_assoc, ea]; exact hu) (by rw [Nat.mul_assoc, eb]; exact hr2) k
theorem m_num {v : Int32} {w : Int64} (hw : w = v.toInt64) (h1 : -1000000 ≤ v.toInt) (h2 : v.toInt ≤ 1000000) (hn : T.length + (nl v).length ≤ 200) : zEv X mt_X11_putNumber 0 [.ref 39, .long w, .null, .null, .null, .null, .null] [] (zSH im tl, mT J R T, K) (none, (zSH im tl, mT J R (T ++ nl v), K)) := by
  have z0 : (0 : Int32).toInt = 0 := by decide +kernel
  have z1 : (0 : Int64).toInt = 0 := by decide +kernel
  have hwi : w.toInt = v.toInt := by rw [hw, Int32.toInt_toInt64]
  have hu := un_pw v.toInt.natAbs 6 1 0 (by decide) (by decide)
  rw [show 10 ^ (0 + 6) = 1000000 by decide] at hu
  have tail : ∀ (q : Int64) (T : List Nat), q = lN v.toInt.natAbs → T.length + (dg v.toInt.natAbs 7 (un v.toInt.natAbs 6 1)).length ≤ 200 → zEv X mt_X11_putNumber 20 [.ref 39, .long w, .null, .long q, .null, .long 1, .null] [] (zSH im tl, mT J R T, K) (none, (zSH im tl, mT J R (T ++ dg v.toInt.natAbs 7 (un v.toInt.natAbs 6 1)), K)) := by
    intro q T hq hT
    subst hq
    refine m_un (J := mT J R T) w (by omega) 6 1 (by decide) (by decide) (by rw [show 1 * 10 ^ (6 + 1) = 10000000 by decide]; omega) ?_
    exact m_dg w (by omega) 7 _ T (by omega) hT (by omega)
  by_cases hv : v < 0
  · have hv2 := hv
    rw [Int32.lt_iff_toInt_lt, z0] at hv2
    have hs : ¬ 0 ≤ lg_cmp w 0 := fun e => by
      have := (lg_cmp_ge _ _).mp e
      rw [Int64.le_iff_toInt_le, z1, hwi] at this
      omega
    unfold nl at hn ⊢
    rw [if_pos hv] at hn ⊢
    rw [List.length_append, List.length_singleton] at hn
    have ab : -w = lN v.toInt.natAbs := by
      apply Int64.toInt_inj.mp
      rw [pk_lT (by omega), Int64.toInt_neg, hwi, Int.bmod_eq_of_le (by omega) (by omega)]
      omega
    rw [← List.append_assoc]
    refine sg_X11_putNumber_0_1 (I := mT J R T) _ hs (m_put1 45 (by omega)) (sg_X11_putNumber_14_0 (I := mT J R (T ++ [45])) _ _ ?_)
    exact tail _ _ ab (by rw [List.length_append, List.length_singleton]; omega)
  · have hv2 := hv
    rw [Int32.lt_iff_toInt_lt, z0] at hv2
    have hs : 0 ≤ lg_cmp w 0 := (lg_cmp_ge _ _).mpr (by
      rw [Int64.le_iff_toInt_le, z1, hwi]
      omega)
    unfold nl at hn ⊢
    rw [if_neg hv, List.nil_append] at hn ⊢
    have ab : w = lN v.toInt.natAbs := by
      apply Int64.toInt_inj.mp
      rw [pk_lT (by omega), hwi]
      omega
    exact sg_X11_putNumber_0_0 (I := mT J R T) _ hs (tail _ _ ab hn)
theorem nl_len (v : Int32) : (nl v).length ≤ 8 := by
  unfold nl
  have hu := un_pw v.toInt.natAbs 6 1 0 (by decide) (by decide)
  rw [show 10 ^ (0 + 6) = 1000000 by decide] at hu
  have := dg_len v.toInt.natAbs 7 (un v.toInt.natAbs 6 1) 7 (by omega)
  rw [List.length_append]
  split
  · rw [List.length_singleton]; omega
  · rw [List.length_nil]; omega
theorem nl_len2 {k : Nat} (hk : k < 100) : (nl (nI k)).length ≤ 2 := by
  unfold nl
  rw [if_neg (nI_pos (by omega)), List.nil_append, nI_toInt (by omega), Int.natAbs_natCast]
  have e : un k 6 1 ≤ 10 := by
    rw [un]
    split
    · decide
    · rw [un, if_pos (by omega)]; decide
  exact dg_len k 7 (un k 6 1) 2 (by omega)
end LT
