theorem gd64 {s : Bool} {E T : Nat} (h2 : E ≤ 2046) (hT : T < 4503599627370496) : w64 s E T &&& 0x7fffffffffffffff ≤ 0x7ff0000000000000 := by
  rw [UInt64.le_iff_toNat_le, UInt64.toNat_and, w64_nat (by omega) hT]
  show ((s.toNat * 2048 + E) * 4503599627370496 + T) &&& (2 ^ 63 - 1) ≤ 9218868437227405312
  rw [Nat.and_two_pow_sub_one_eq_mod]
  have : s.toNat ≤ 1 := by cases s <;> decide
  omega
theorem gd32 {s : Bool} {E T : Nat} (h2 : E ≤ 254) (hT : T < 8388608) : w32 s E T &&& 0x7fffffff ≤ 0x7f800000 := by
  rw [UInt32.le_iff_toNat_le, UInt32.toNat_and, w32_nat (by omega) hT]
  show ((s.toNat * 256 + E) * 8388608 + T) &&& (2 ^ 31 - 1) ≤ 2139095040
  rw [Nat.and_two_pow_sub_one_eq_mod]
  have : s.toNat ≤ 1 := by cases s <;> decide
  omega
theorem dec0 : FP.Core.decode FP.Core.b64 (0 : UInt64).toNat = .fin false 0 (-1074) := by decide +kernel
theorem fp_sub1 {T : Nat} (hT : T < 4503599627370496) : FP.dsub (w64 false 1023 T) FP.dconst1 = if T = 0 then 0 else w64 false (T.log2 + 971) (T * 2 ^ (52 - T.log2) - 4503599627370496) := by
  show UInt64.ofNat (FP.Core.encode FP.Core.b64 (FP.Core.round FP.Core.b64 (FP.Core.exactSum (FP.Core.decode FP.Core.b64 (w64 false 1023 T).toNat) (FP.Core.negate (FP.Core.decode FP.Core.b64 FP.dconst1.toNat))))) = _
  rw [w1, dec64 (by omega) (by omega) hT, dec64 (by omega) (by omega) (by omega)]
  have e1 : FP.Core.exactSum (.fin false (4503599627370496 + T) (((1023 : Nat) : Int) - 1075)) (FP.Core.negate (.fin false (4503599627370496 + 0) (((1023 : Nat) : Int) - 1075))) = .fin false T (-52) := by
    have hu : FP.Core.sumUnits false (4503599627370496 + T) (-52) true (4503599627370496 + 0) (-52) (-52) = (T : Int) := by
      show (((4503599627370496 + T) * 1 : Nat) : Int) + -(((4503599627370496 + 0) * 1 : Nat) : Int) = (T : Int)
      omega
    show FP.Core.Datum.fin (FP.Core.sumSign false true (FP.Core.sumUnits false (4503599627370496 + T) (-52) true (4503599627370496 + 0) (-52) (-52))) (FP.Core.sumUnits false (4503599627370496 + T) (-52) true (4503599627370496 + 0) (-52) (-52)).natAbs (-52) = _
    rw [hu]
    have hs : FP.Core.sumSign false true (T : Int) = false := by
      unfold FP.Core.sumSign
      split
      · rfl
      · exact decide_eq_false (by omega)
    rw [hs, Int.natAbs_natCast]
  rw [e1]
  unfold FP.Core.round
  dsimp only
  by_cases h0 : T = 0
  · subst h0
    rw [if_pos rfl]
    decide +kernel
  · rw [if_neg h0]
    have hk := (Nat.log2_eq_iff h0).mp rfl
    have hk51 : T.log2 ≤ 51 := by
      have := (Nat.log2_lt h0 (k := 52)).mpr hT
      omega
    generalize hg : T.log2 = k at *
    rw [rr64 h0 (ld1 hg h0) (by omega)]
    have hp : T * 2 ^ (52 - k) < 9007199254740992 ∧ 4503599627370496 ≤ T * 2 ^ (52 - k) := by
      have e2 : 2 ^ k * 2 ^ (52 - k) = 4503599627370496 := by rw [← Nat.pow_add, show k + (52 - k) = 52 by omega]
      have e3 : 2 ^ (k + 1) * 2 ^ (52 - k) = 9007199254740992 := by rw [← Nat.pow_add, show k + 1 + (52 - k) = 53 by omega]
      have p0 : 0 < 2 ^ (52 - k) := Nat.two_pow_pos _
      exact ⟨by rw [← e3]; exact Nat.mul_lt_mul_of_pos_right hk.2 p0, by rw [← e2]; exact Nat.mul_le_mul_right _ hk.1⟩
    rw [nr_ex (c := T * 2 ^ (52 - k)) (by rw [show ((k : Int) - 52).toNat = 0 by omega]; decide) (by
      rw [show ((52 : Int) - k).toNat = 52 - k by omega, show ((k : Int) - 52).toNat = 0 by omega]; omega)]
    rw [st64e hp.1 (by omega), enc64 hp.2 (by omega), show ((k : Int) + -52 - 52 + 1075).toNat = k + 971 by omega]
theorem fp_tail {T W : Nat} (hT : T < 4503599627370496) (hW : W ≤ 52) : FP.d2l (FP.dmul (FP.dsub (w64 false 1023 T) FP.dconst1) (w64 false (1023 + W) 0)) = Int64.ofNat (T / 2 ^ (52 - W)) ∧ FP.dsub (w64 false 1023 T) FP.dconst1 &&& 0x7fffffffffffffff ≤ 0x7ff0000000000000 ∧ FP.dmul (FP.dsub (w64 false 1023 T) FP.dconst1) (w64 false (1023 + W) 0) &&& 0x7fffffffffffffff ≤ 0x7ff0000000000000 := by
  rw [fp_sub1 hT]
  by_cases h0 : T = 0
  · subst h0
    rw [if_pos rfl, Nat.zero_div]
    have e1 : FP.dmul 0 (w64 false (1023 + W) 0) = 0 := by
      show UInt64.ofNat (FP.Core.encode FP.Core.b64 (FP.Core.round FP.Core.b64 (FP.Core.exactProduct (FP.Core.decode FP.Core.b64 (0 : UInt64).toNat) (FP.Core.decode FP.Core.b64 (w64 false (1023 + W) 0).toNat)))) = _
      rw [dec0, dec64 (by omega) (by omega) (by omega)]
      unfold FP.Core.exactProduct
      dsimp only
      rw [Nat.zero_mul]
      rfl
    rw [e1]
    exact ⟨by decide +kernel, by decide +kernel, by decide +kernel⟩
  · rw [if_neg h0]
    have hk := (Nat.log2_eq_iff h0).mp rfl
    have hk51 : T.log2 ≤ 51 := by
      have := (Nat.log2_lt h0 (k := 52)).mpr hT
      omega
    generalize hg : T.log2 = k at *
    have hp : T * 2 ^ (52 - k) < 9007199254740992 ∧ 4503599627370496 ≤ T * 2 ^ (52 - k) := by
      have e2 : 2 ^ k * 2 ^ (52 - k) = 4503599627370496 := by rw [← Nat.pow_add, show k + (52 - k) = 52 by omega]
      have e3 : 2 ^ (k + 1) * 2 ^ (52 - k) = 9007199254740992 := by rw [← Nat.pow_add, show k + 1 + (52 - k) = 53 by omega]
      have p0 : 0 < 2 ^ (52 - k) := Nat.two_pow_pos _
      exact ⟨by rw [← e3]; exact Nat.mul_lt_mul_of_pos_right hk.2 p0, by rw [← e2]; exact Nat.mul_le_mul_right _ hk.1⟩
    rw [fp_mul (by omega) (by omega) (by omega) (by omega) (by omega) (by omega) (by omega)]
    refine ⟨?_, gd64 (by omega) (by omega), gd64 (by omega) (by omega)⟩
    show Int64.ofInt (FP.Core.toInt (-2 ^ 63) (2 ^ 63 - 1) (FP.Core.decode FP.Core.b64 _)) = _
    rw [dec64 (by omega) (by omega) (by omega)]
    unfold FP.Core.toInt FP.Core.truncate FP.Core.signed
    dsimp only
    rw [show 4503599627370496 + (T * 2 ^ (52 - k) - 4503599627370496) = T * 2 ^ (52 - k) by omega, show (((k + 971 + (1023 + W) - 1023 : Nat) : Int) - 1075).toNat = 0 by omega, show (-(((k + 971 + (1023 + W) - 1023 : Nat) : Int) - 1075)).toNat = (52 - W) + (52 - k) by omega, Nat.pow_zero, Nat.mul_one, Nat.pow_add, Nat.mul_div_mul_right _ _ (Nat.two_pow_pos _)]
    have hle : T / 2 ^ (52 - W) ≤ T := Nat.div_le_self _ _
    generalize T / 2 ^ (52 - W) = z at hle
    rw [if_neg (by decide), Int.min_eq_right (by omega), Int.max_eq_right (by omega)]
    rfl
theorem fp_l2d {x : Int64} {i : Int} (h : x.toInt = i) (h0 : i ≠ 0) (hb : i.natAbs < 2 ^ 62) : ∃ E T, FP.l2d x = w64 (decide (i < 0)) E T ∧ 1023 ≤ E ∧ E ≤ 1086 ∧ T < 4503599627370496 := by
  have n0 : i.natAbs ≠ 0 := by omega
  have hk := (Nat.log2_eq_iff n0).mp rfl
  have hk61 : i.natAbs.log2 ≤ 61 := by
    have := (Nat.log2_lt n0 (k := 62)).mpr hb
    omega
  have e1 : FP.l2d x = UInt64.ofNat (FP.Core.encode FP.Core.b64 (FP.Core.roundRatio FP.Core.b64 (decide (i < 0)) i.natAbs 1 0)) := by
    rw [← h]; rfl
  rw [e1]
  generalize hg : i.natAbs.log2 = k at *
  rw [rr64 n0 (ld1 hg n0) (by omega)]
  have bd : 4503599627370496 * (1 * 2 ^ ((k : Int) - 52).toNat) ≤ i.natAbs * 2 ^ (52 - (k : Int)).toNat ∧ i.natAbs * 2 ^ (52 - (k : Int)).toNat < 9007199254740992 * (1 * 2 ^ ((k : Int) - 52).toNat) := by
    by_cases hc : k ≤ 52
    · rw [show ((k : Int) - 52).toNat = 0 by omega, show (52 - (k : Int)).toNat = 52 - k by omega]
      have e2 : 2 ^ k * 2 ^ (52 - k) = 4503599627370496 := by rw [← Nat.pow_add, show k + (52 - k) = 52 by omega]
      have e3 : 2 ^ (k + 1) * 2 ^ (52 - k) = 9007199254740992 := by rw [← Nat.pow_add, show k + 1 + (52 - k) = 53 by omega]
      have p0 : 0 < 2 ^ (52 - k) := Nat.two_pow_pos _
      have a1 := Nat.mul_lt_mul_of_pos_right hk.2 p0
      have a2 := Nat.mul_le_mul_right (2 ^ (52 - k)) hk.1
      omega
    · rw [show ((k : Int) - 52).toNat = k - 52 by omega, show (52 - (k : Int)).toNat = 0 by omega]
      have e2 : 4503599627370496 * 2 ^ (k - 52) = 2 ^ k := by rw [show (4503599627370496 : Nat) = 2 ^ 52 by decide, ← Nat.pow_add, show 52 + (k - 52) = k by omega]
      have e3 : 9007199254740992 * 2 ^ (k - 52) = 2 ^ (k + 1) := by rw [show (9007199254740992 : Nat) = 2 ^ 53 by decide, ← Nat.pow_add, show 53 + (k - 52) = k + 1 by omega]
      rw [Nat.one_mul, e2, e3]
      omega
  obtain ⟨b1, b2⟩ := nr_bd (by rw [Nat.one_mul]; exact Nat.two_pow_pos _) bd.1 bd.2
  obtain ⟨c, q, e2, c1, c2, q1, q2⟩ := st64 (s := decide (i < 0)) (q := (k : Int) + 0 - 52) b1 b2 (by omega)
  rw [e2, enc64 c1 (by omega)]
  exact ⟨(q + 1075).toNat, c - 4503599627370496, rfl, by omega, by omega, by omega⟩
theorem fp_div {s t : Bool} {E F T U : Nat} (h1 : 1023 ≤ E) (h2 : E ≤ 1086) (h3 : 1023 ≤ F) (h4 : F ≤ 1086) (hT : T < 4503599627370496) (hU : U < 4503599627370496) : ∃ G V, FP.ddiv (w64 s E T) (w64 t F U) = w64 (s != t) G V ∧ 950 ≤ G ∧ G ≤ 1090 ∧ V < 4503599627370496 := by
  have e1 : FP.ddiv (w64 s E T) (w64 t F U) = UInt64.ofNat (FP.Core.encode FP.Core.b64 (FP.Core.roundRatio FP.Core.b64 (s != t) (4503599627370496 + T) (4503599627370496 + U) ((E : Int) - 1075 - ((F : Int) - 1075)))) := by
    show UInt64.ofNat (FP.Core.encode FP.Core.b64 (FP.Core.quotient FP.Core.b64 (FP.Core.decode FP.Core.b64 (w64 s E T).toNat) (FP.Core.decode FP.Core.b64 (w64 t F U).toNat))) = _
    rw [dec64 (by omega) (by omega) hT, dec64 (by omega) (by omega) hU]
    unfold FP.Core.quotient
    dsimp only
    rw [if_neg (by omega)]
  rw [e1]
  have hl := ld2 (lg52 (c := 4503599627370496 + T) (by omega) (by omega)) (lg52 (c := 4503599627370496 + U) (by omega) (by omega))
  by_cases hc : 4503599627370496 + U ≤ 4503599627370496 + T
  · rw [if_pos hc] at hl
    rw [rr64 (by omega) hl (by omega)]
    obtain ⟨b1, b2⟩ := nr_bd (A := (4503599627370496 + T) * 2 ^ ((52 : Int) - 0).toNat) (B := (4503599627370496 + U) * 2 ^ ((0 : Int) - 52).toNat) (m := 4503599627370496) (n := 9007199254740992) (by show 0 < (4503599627370496 + U) * 1; omega) (by show 4503599627370496 * ((4503599627370496 + U) * 1) ≤ (4503599627370496 + T) * 4503599627370496; omega) (by show (4503599627370496 + T) * 4503599627370496 < 9007199254740992 * ((4503599627370496 + U) * 1); omega)
    obtain ⟨c, q, e2, c1, c2, q1, q2⟩ := st64 (s := (s != t)) (q := (0 : Int) + ((E : Int) - 1075 - ((F : Int) - 1075)) - 52) b1 b2 (by omega)
    rw [e2, enc64 c1 (by omega)]
    exact ⟨(q + 1075).toNat, c - 4503599627370496, rfl, by omega, by omega, by omega⟩
  · rw [if_neg hc] at hl
    rw [rr64 (by omega) hl (by omega)]
    obtain ⟨b1, b2⟩ := nr_bd (A := (4503599627370496 + T) * 2 ^ ((52 : Int) - -1).toNat) (B := (4503599627370496 + U) * 2 ^ ((-1 : Int) - 52).toNat) (m := 4503599627370496) (n := 9007199254740992) (by show 0 < (4503599627370496 + U) * 1; omega) (by show 4503599627370496 * ((4503599627370496 + U) * 1) ≤ (4503599627370496 + T) * 9007199254740992; omega) (by show (4503599627370496 + T) * 9007199254740992 < 9007199254740992 * ((4503599627370496 + U) * 1); omega)
    obtain ⟨c, q, e2, c1, c2, q1, q2⟩ := st64 (s := (s != t)) (q := (-1 : Int) + ((E : Int) - 1075 - ((F : Int) - 1075)) - 52) b1 b2 (by omega)
    rw [e2, enc64 c1 (by omega)]
    exact ⟨(q + 1075).toNat, c - 4503599627370496, rfl, by omega, by omega, by omega⟩
theorem fp_div0 {F U : Nat} (h3 : 1023 ≤ F) (h4 : F ≤ 1086) (hU : U < 4503599627370496) : FP.ddiv 0 (w64 false F U) = 0 := by
  show UInt64.ofNat (FP.Core.encode FP.Core.b64 (FP.Core.quotient FP.Core.b64 (FP.Core.decode FP.Core.b64 (0 : UInt64).toNat) (FP.Core.decode FP.Core.b64 (w64 false F U).toNat))) = _
  rw [dec0, dec64 (by omega) (by omega) hU]
  unfold FP.Core.quotient
  dsimp only
  rw [if_neg (by omega)]
  rfl
theorem fp_d2f {s : Bool} {G V : Nat} (h1 : 950 ≤ G) (h2 : G ≤ 1090) (hV : V < 4503599627370496) : ∃ H t, FP.d2f (w64 s G V) = w32 s H t ∧ 1 ≤ H ∧ H ≤ 254 ∧ t < 8388608 := by
  have e1 : FP.d2f (w64 s G V) = UInt32.ofNat (FP.Core.encode FP.Core.b32 (FP.Core.roundRatio FP.Core.b32 s (4503599627370496 + V) 1 ((G : Int) - 1075))) := by
    unfold FP.d2f
    have hn : FP.Core.dIsNaN (w64 s G V) = false := by
      show decide (FP.Core.decode FP.Core.b64 (w64 s G V).toNat = .nan) = false
      rw [dec64 (by omega) (by omega) hV]
      rfl
    rw [hn, if_neg (by decide)]
    show UInt32.ofNat (FP.Core.encode FP.Core.b32 (FP.Core.round FP.Core.b32 (FP.Core.decode FP.Core.b64 (w64 s G V).toNat))) = _
    rw [dec64 (by omega) (by omega) hV]
    rfl
  rw [e1, rr32 (by omega) (ld1 (lg52 (c := 4503599627370496 + V) (by omega) (by omega)) (by omega)) (by omega)]
  obtain ⟨b1, b2⟩ := nr_bd (A := (4503599627370496 + V) * 2 ^ ((23 : Int) - ((52 : Nat) : Int)).toNat) (B := 1 * 2 ^ (((52 : Nat) : Int) - 23).toNat) (m := 8388608) (n := 16777216) (by decide) (by show 8388608 * (1 * 536870912) ≤ (4503599627370496 + V) * 1; omega) (by show (4503599627370496 + V) * 1 < 16777216 * (1 * 536870912); omega)
  obtain ⟨c, q, e2, c1, c2, q1, q2⟩ := st32 (s := s) (q := ((52 : Nat) : Int) + ((G : Int) - 1075) - 23) b1 b2 (by omega)
  rw [e2, enc32 c1 (by omega)]
  exact ⟨(q + 150).toNat, c - 8388608, rfl, by omega, by omega, by omega⟩
theorem fp_f2d {s : Bool} {H t : Nat} (h1 : 1 ≤ H) (h2 : H ≤ 254) (ht : t < 8388608) : FP.f2d (w32 s H t) = w64 s (H + 896) (t * 536870912) := by
  unfold FP.f2d
  have hn : FP.Core.fIsNaN (w32 s H t) = false := by
    show decide (FP.Core.decode FP.Core.b32 (w32 s H t).toNat = .nan) = false
    rw [dec32 h1 h2 ht]
    rfl
  rw [hn, if_neg (by decide)]
  show UInt64.ofNat (FP.Core.encode FP.Core.b64 (FP.Core.round FP.Core.b64 (FP.Core.decode FP.Core.b32 (w32 s H t).toNat))) = _
  rw [dec32 h1 h2 ht]
  unfold FP.Core.round
  dsimp only
  rw [rr64 (by omega) (ld1 (a := 23) ((Nat.log2_eq_iff (by omega)).mpr (by show 8388608 ≤ _ ∧ _ < 16777216; omega)) (by omega)) (by omega)]
  rw [nr_ex (c := (8388608 + t) * 536870912) (by decide) (by
    show (8388608 + t) * 536870912 = (8388608 + t) * 536870912 * (1 * 1)
    omega)]
  rw [st64e (by omega) (by omega), enc64 (by omega) (by omega)]
  rw [show (((23 : Nat) : Int) + ((H : Int) - 150) - 52 + 1075).toNat = H + 896 by omega, show (8388608 + t) * 536870912 - 4503599627370496 = t * 536870912 by omega]
/-! comparing -/
theorem cv_lt {a b : Int} (h : a < b) (op : ClassFile.CmpOp) : Op.cmpValue (some (compare a b)) op = -1 := by
  rw [Int.compare_eq_lt.mpr h]; rfl
theorem cv_gt {a b : Int} (h : b < a) (op : ClassFile.CmpOp) : Op.cmpValue (some (compare a b)) op = 1 := by
  rw [Int.compare_eq_gt.mpr h]; rfl
theorem cv_eq (a : Int) (op : ClassFile.CmpOp) : Op.cmpValue (some (compare a a)) op = 0 := by
  rw [Int.compare_eq_eq.mpr rfl]; rfl
theorem cz_0 {s : Bool} {E T : Nat} (h1 : 1 ≤ E) (h2 : E ≤ 2046) (hT : T < 4503599627370496) (op : ClassFile.CmpOp) : Op.cmpValue (FP.dcmp (w64 s E T) FP.dconst0) op = if s = true then -1 else 1 := by
  have e1 : FP.dcmp (w64 s E T) FP.dconst0 = some (compare (FP.Core.signed s (FP.Core.inUnits (4503599627370496 + T) ((E : Int) - 1075) (min ((E : Int) - 1075) (-1074)))) (FP.Core.signed false (FP.Core.inUnits 0 (-1074) (min ((E : Int) - 1075) (-1074))))) := by
    show FP.Core.order (FP.Core.decode FP.Core.b64 (w64 s E T).toNat) (FP.Core.decode FP.Core.b64 (0 : UInt64).toNat) = _
    rw [dec64 h1 h2 hT, dec0]
    rfl
  rw [e1]
  have e2 : FP.Core.signed false (FP.Core.inUnits 0 (-1074) (min ((E : Int) - 1075) (-1074))) = 0 := by
    unfold FP.Core.inUnits
    rw [Nat.zero_mul]; rfl
  rw [e2]
  have e3 : 0 < FP.Core.inUnits (4503599627370496 + T) ((E : Int) - 1075) (min ((E : Int) - 1075) (-1074)) := Nat.mul_pos (by omega) (Nat.two_pow_pos _)
  generalize FP.Core.inUnits (4503599627370496 + T) ((E : Int) - 1075) (min ((E : Int) - 1075) (-1074)) = z at e3
  cases s with
  | false => exact cv_gt (show (0 : Int) < (z : Int) by omega) op
  | true => exact cv_lt (show -(z : Int) < 0 by omega) op
theorem cz_ge {E F T : Nat} (h1 : 1 ≤ E) (h2 : E ≤ 2046) (hT : T < 4503599627370496) (hF : 1 ≤ F) (hF2 : F ≤ 2046) (op : ClassFile.CmpOp) : (F ≤ E → 0 ≤ Op.cmpValue (FP.dcmp (w64 false E T) (w64 false F 0)) op) ∧ (E < F → Op.cmpValue (FP.dcmp (w64 false E T) (w64 false F 0)) op = -1) := by
  have e1 : FP.dcmp (w64 false E T) (w64 false F 0) = some (compare ((FP.Core.inUnits (4503599627370496 + T) ((E : Int) - 1075) (min ((E : Int) - 1075) ((F : Int) - 1075)) : Nat) : Int) ((FP.Core.inUnits (4503599627370496 + 0) ((F : Int) - 1075) (min ((E : Int) - 1075) ((F : Int) - 1075)) : Nat) : Int)) := by
    show FP.Core.order (FP.Core.decode FP.Core.b64 (w64 false E T).toNat) (FP.Core.decode FP.Core.b64 (w64 false F 0).toNat) = _
    rw [dec64 h1 h2 hT, dec64 hF hF2 (by omega)]
    rfl
  rw [e1]
  unfold FP.Core.inUnits
  constructor
  · intro h
    rw [show min ((E : Int) - 1075) ((F : Int) - 1075) = (F : Int) - 1075 by omega, show ((E : Int) - 1075 - ((F : Int) - 1075)).toNat = E - F by omega, show ((F : Int) - 1075 - ((F : Int) - 1075)).toNat = 0 by omega]
    have p0 : 0 < 2 ^ (E - F) := Nat.two_pow_pos _
    have p1 : 4503599627370496 + T ≤ (4503599627370496 + T) * 2 ^ (E - F) := Nat.le_mul_of_pos_right _ p0
    generalize (4503599627370496 + T) * 2 ^ (E - F) = z at p1
    by_cases e : z = 4503599627370496
    · subst e
      rw [show (4503599627370496 + 0) * 2 ^ 0 = 4503599627370496 by decide, cv_eq]
      decide
    · rw [cv_gt (show (((4503599627370496 + 0) * 2 ^ 0 : Nat) : Int) < (z : Int) by omega)]
      decide
  · intro h
    rw [show min ((E : Int) - 1075) ((F : Int) - 1075) = (E : Int) - 1075 by omega, show ((E : Int) - 1075 - ((E : Int) - 1075)).toNat = 0 by omega, show ((F : Int) - 1075 - ((E : Int) - 1075)).toNat = (F - E - 1) + 1 by omega]
    have p0 : 0 < 2 ^ (F - E - 1) := Nat.two_pow_pos _
    refine cv_lt ?_ op
    rw [Nat.pow_succ]
    generalize 2 ^ (F - E - 1) = z at p0
    have : (4503599627370496 + 0) * 2 ≤ (4503599627370496 + 0) * (z * 2) := Nat.mul_le_mul_left _ (by omega)
    omega
theorem cz_self {s : Bool} {E T : Nat} (h1 : 1 ≤ E) (h2 : E ≤ 2046) (hT : T < 4503599627370496) (op : ClassFile.CmpOp) : Op.cmpValue (FP.dcmp (w64 s E T) (w64 s E T)) op = 0 := by
  have e1 : FP.dcmp (w64 s E T) (w64 s E T) = some (compare (FP.Core.signed s (FP.Core.inUnits (4503599627370496 + T) ((E : Int) - 1075) (min ((E : Int) - 1075) ((E : Int) - 1075)))) (FP.Core.signed s (FP.Core.inUnits (4503599627370496 + T) ((E : Int) - 1075) (min ((E : Int) - 1075) ((E : Int) - 1075))))) := by
    show FP.Core.order (FP.Core.decode FP.Core.b64 (w64 s E T).toNat) (FP.Core.decode FP.Core.b64 (w64 s E T).toNat) = _
    rw [dec64 h1 h2 hT]
    rfl
  rw [e1, cv_eq]
theorem cz_self32 {s : Bool} {E T : Nat} (h1 : 1 ≤ E) (h2 : E ≤ 254) (hT : T < 8388608) (op : ClassFile.CmpOp) : Op.cmpValue (FP.fcmp (w32 s E T) (w32 s E T)) op = 0 := by
  have e1 : FP.fcmp (w32 s E T) (w32 s E T) = some (compare (FP.Core.signed s (FP.Core.inUnits (8388608 + T) ((E : Int) - 150) (min ((E : Int) - 150) ((E : Int) - 150)))) (FP.Core.signed s (FP.Core.inUnits (8388608 + T) ((E : Int) - 150) (min ((E : Int) - 150) ((E : Int) - 150))))) := by
    show FP.Core.order (FP.Core.decode FP.Core.b32 (w32 s E T).toNat) (FP.Core.decode FP.Core.b32 (w32 s E T).toNat) = _
    rw [dec32 h1 h2 hT]
    rfl
  rw [e1, cv_eq]
theorem w_neg {E T : Nat} (h2 : E ≤ 2046) (hT : T < 4503599627370496) : FP.dneg (w64 true E T) = w64 false E T := by
  apply UInt64.toNat_inj.mp
  show (w64 true E T ^^^ 0x8000000000000000).toNat = _
  rw [UInt64.toNat_xor, w64_nat (by omega) hT, w64_nat (by omega) hT]
  show ((1 * 2048 + E) * 4503599627370496 + T) ^^^ 2 ^ 63 = (0 * 2048 + E) * 4503599627370496 + T
  rw [show (1 * 2048 + E) * 4503599627370496 + T = (E * 4503599627370496 + T) ||| 2 ^ 63 by
    have q := Nat.two_pow_add_eq_or_of_lt (i := 63) (show E * 4503599627370496 + T < 2 ^ 63 by omega) 1
    rw [Nat.mul_one] at q
    rw [Nat.or_comm, ← q]; omega]
  apply Nat.eq_of_testBit_eq
  intro i
  rw [Nat.testBit_xor, Nat.testBit_or, Nat.testBit_two_pow]
  by_cases hi : 63 = i
  · subst hi
    rw [show (0 * 2048 + E) * 4503599627370496 + T = E * 4503599627370496 + T by omega]
    rw [Nat.testBit_lt_two_pow (show E * 4503599627370496 + T < 2 ^ 63 by omega)]
    rfl
  · rw [decide_eq_false hi, show (0 * 2048 + E) * 4503599627370496 + T = E * 4503599627370496 + T by omega, Bool.or_false, Bool.xor_false]
theorem sh52a : ∀ a, a < 64 → ∀ b, b < 64 → Int64.ofNat (64 * a + b) <<< ((nI 52).toInt64 &&& 63) = Int64.ofNat ((64 * a + b) * 4503599627370496) := by decide +kernel
theorem sh52 (e : Nat) (h : e < 4096) : Int64.ofNat e <<< ((nI 52).toInt64 &&& 63) = Int64.ofNat (e * 4503599627370496) := by
  have q := sh52a (e / 64) (by omega) (e % 64) (by omega)
  rw [show 64 * (e / 64) + e % 64 = e by omega] at q
  exact q
theorem sh23 : ∀ e, e < 512 → Int64.ofNat e <<< ((nI 23).toInt64 &&& 63) = Int64.ofNat (e * 8388608) := by decide +kernel
theorem l52 : FP.l2d ((1 : Int64) <<< ((nI 52).toInt64 &&& 63)) = w64 false (1023 + 52) 0 := by decide +kernel
theorem l23 : FP.l2d ((1 : Int64) <<< ((nI 23).toInt64 &&& 63)) = w64 false (1023 + 23) 0 := by decide +kernel
