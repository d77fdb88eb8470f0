/-! doubles and floats: those that are ordinary numbers, by sign, exponent and tail -/
def w64 (s : Bool) (E T : Nat) : UInt64 := UInt64.ofNat ((s.toNat * 2048 + E) * 4503599627370496 + T)
def w32 (s : Bool) (E T : Nat) : UInt32 := UInt32.ofNat ((s.toNat * 256 + E) * 8388608 + T)
theorem w64_nat {s : Bool} {E T : Nat} (hE : E < 2048) (hT : T < 4503599627370496) : (w64 s E T).toNat = (s.toNat * 2048 + E) * 4503599627370496 + T := by
  unfold w64
  have : s.toNat ≤ 1 := by cases s <;> decide
  exact UInt64.toNat_ofNat_of_lt' (show _ < 18446744073709551616 by omega)
theorem w32_nat {s : Bool} {E T : Nat} (hE : E < 256) (hT : T < 8388608) : (w32 s E T).toNat = (s.toNat * 256 + E) * 8388608 + T := by
  unfold w32
  have : s.toNat ≤ 1 := by cases s <;> decide
  exact UInt32.toNat_ofNat_of_lt' (show _ < 4294967296 by omega)
theorem sb_1 (s : Bool) : (s.toNat % 2 == 1) = s := by cases s <;> decide
theorem dec64 {s : Bool} {E T : Nat} (h1 : 1 ≤ E) (h2 : E ≤ 2046) (hT : T < 4503599627370496) : FP.Core.decode FP.Core.b64 (w64 s E T).toNat = .fin s (4503599627370496 + T) ((E : Int) - 1075) := by
  rw [w64_nat (by omega) hT]
  have hs : s.toNat ≤ 1 := by cases s <;> decide
  have eE : FP.Core.fieldE FP.Core.b64 ((s.toNat * 2048 + E) * 4503599627370496 + T) = E := by
    show ((s.toNat * 2048 + E) * 4503599627370496 + T) / 4503599627370496 % 2048 = E
    omega
  have eT : FP.Core.fieldT FP.Core.b64 ((s.toNat * 2048 + E) * 4503599627370496 + T) = T := by
    show ((s.toNat * 2048 + E) * 4503599627370496 + T) % 4503599627370496 = T
    omega
  have eS : FP.Core.fieldS FP.Core.b64 ((s.toNat * 2048 + E) * 4503599627370496 + T) = s := by
    show (((s.toNat * 2048 + E) * 4503599627370496 + T) / 4503599627370496 / 2048 % 2 == 1) = s
    rw [show ((s.toNat * 2048 + E) * 4503599627370496 + T) / 4503599627370496 / 2048 = s.toNat by omega]
    exact sb_1 s
  unfold FP.Core.decode
  rw [eE, eT, eS, if_neg (show ¬ E = FP.Core.b64.exps - 1 from show ¬ E = 2047 by omega), if_neg (show ¬ E = 0 by omega)]
  show FP.Core.Datum.fin s (4503599627370496 + T) (-1074 + ((E : Int) - 1)) = _
  rw [show (-1074 + ((E : Int) - 1)) = (E : Int) - 1075 by omega]
theorem dec32 {s : Bool} {E T : Nat} (h1 : 1 ≤ E) (h2 : E ≤ 254) (hT : T < 8388608) : FP.Core.decode FP.Core.b32 (w32 s E T).toNat = .fin s (8388608 + T) ((E : Int) - 150) := by
  rw [w32_nat (by omega) hT]
  have hs : s.toNat ≤ 1 := by cases s <;> decide
  have eE : FP.Core.fieldE FP.Core.b32 ((s.toNat * 256 + E) * 8388608 + T) = E := by
    show ((s.toNat * 256 + E) * 8388608 + T) / 8388608 % 256 = E
    omega
  have eT : FP.Core.fieldT FP.Core.b32 ((s.toNat * 256 + E) * 8388608 + T) = T := by
    show ((s.toNat * 256 + E) * 8388608 + T) % 8388608 = T
    omega
  have eS : FP.Core.fieldS FP.Core.b32 ((s.toNat * 256 + E) * 8388608 + T) = s := by
    show (((s.toNat * 256 + E) * 8388608 + T) / 8388608 / 256 % 2 == 1) = s
    rw [show ((s.toNat * 256 + E) * 8388608 + T) / 8388608 / 256 = s.toNat by omega]
    exact sb_1 s
  unfold FP.Core.decode
  rw [eE, eT, eS, if_neg (show ¬ E = FP.Core.b32.exps - 1 from show ¬ E = 255 by omega), if_neg (show ¬ E = 0 by omega)]
  show FP.Core.Datum.fin s (8388608 + T) (-149 + ((E : Int) - 1)) = _
  rw [show (-149 + ((E : Int) - 1)) = (E : Int) - 150 by omega]
theorem enc64 {s : Bool} {c : Nat} {q : Int} (h1 : 4503599627370496 ≤ c) (hq : -1074 ≤ q) : UInt64.ofNat (FP.Core.encode FP.Core.b64 (.fin s c q)) = w64 s (q + 1075).toNat (c - 4503599627370496) := by
  unfold FP.Core.encode
  dsimp only
  rw [if_neg (show ¬ c < FP.Core.b64.tails from show ¬ c < 4503599627370496 by omega)]
  show UInt64.ofNat ((s.toNat * 2048 + ((q - -1074).toNat + 1)) * 4503599627370496 + (c - 4503599627370496)) = _
  unfold w64
  rw [show (q - -1074).toNat + 1 = (q + 1075).toNat by omega]
theorem enc32 {s : Bool} {c : Nat} {q : Int} (h1 : 8388608 ≤ c) (hq : -149 ≤ q) : UInt32.ofNat (FP.Core.encode FP.Core.b32 (.fin s c q)) = w32 s (q + 150).toNat (c - 8388608) := by
  unfold FP.Core.encode
  dsimp only
  rw [if_neg (show ¬ c < FP.Core.b32.tails from show ¬ c < 8388608 by omega)]
  show UInt32.ofNat ((s.toNat * 256 + ((q - -149).toNat + 1)) * 8388608 + (c - 8388608)) = _
  unfold w32
  rw [show (q - -149).toNat + 1 = (q + 150).toNat by omega]
/-! rounding -/
theorem nr_bd {A B m n : Nat} (hB : 0 < B) (h1 : m * B ≤ A) (h2 : A < n * B) : m ≤ FP.Core.nearest A B ∧ FP.Core.nearest A B ≤ n := by
  have a1 : m ≤ A / B := (Nat.le_div_iff_mul_le hB).mpr h1
  have a2 : A / B < n := (Nat.div_lt_iff_lt_mul hB).mpr h2
  unfold FP.Core.nearest
  split
  · omega
  · split
    · omega
    · have := Nat.mod_lt (A / B) (show 0 < 2 by decide)
      omega
theorem nr_ex {A B c : Nat} (hB : 0 < B) (h : A = c * B) : FP.Core.nearest A B = c := by
  subst h
  unfold FP.Core.nearest
  rw [Nat.mul_mod_left, if_pos (by omega), Nat.mul_div_cancel _ hB]
theorem st64 {s : Bool} {c : Nat} {q : Int} (h1 : 4503599627370496 ≤ c) (h2 : c ≤ 9007199254740992) (hq : q ≤ 970) : ∃ c' q', FP.Core.settle FP.Core.b64 s c q = .fin s c' q' ∧ 4503599627370496 ≤ c' ∧ c' < 9007199254740992 ∧ q ≤ q' ∧ q' ≤ q + 1 := by
  unfold FP.Core.settle FP.Core.bound
  by_cases h : c < 9007199254740992
  · rw [if_pos (show c < 2 ^ FP.Core.b64.p from h), if_pos (show q ≤ FP.Core.b64.qmax from show q ≤ (971 : Int) by omega)]
    exact ⟨c, q, rfl, h1, h, by omega, by omega⟩
  · rw [if_neg (show ¬ c < 2 ^ FP.Core.b64.p from h), if_pos (show q + 1 ≤ FP.Core.b64.qmax from show q + 1 ≤ (971 : Int) by omega)]
    exact ⟨4503599627370496, q + 1, rfl, by omega, by omega, by omega, by omega⟩
theorem st64e {s : Bool} {c : Nat} {q : Int} (h : c < 9007199254740992) (hq : q ≤ 971) : FP.Core.settle FP.Core.b64 s c q = .fin s c q := by
  unfold FP.Core.settle FP.Core.bound
  rw [if_pos (show c < 2 ^ FP.Core.b64.p from h), if_pos (show q ≤ FP.Core.b64.qmax from show q ≤ (971 : Int) by omega)]
theorem st32 {s : Bool} {c : Nat} {q : Int} (h1 : 8388608 ≤ c) (h2 : c ≤ 16777216) (hq : q ≤ 103) : ∃ c' q', FP.Core.settle FP.Core.b32 s c q = .fin s c' q' ∧ 8388608 ≤ c' ∧ c' < 16777216 ∧ q ≤ q' ∧ q' ≤ q + 1 := by
  unfold FP.Core.settle FP.Core.bound
  by_cases h : c < 16777216
  · rw [if_pos (show c < 2 ^ FP.Core.b32.p from h), if_pos (show q ≤ FP.Core.b32.qmax from show q ≤ (104 : Int) by omega)]
    exact ⟨c, q, rfl, h1, h, by omega, by omega⟩
  · rw [if_neg (show ¬ c < 2 ^ FP.Core.b32.p from h), if_pos (show q + 1 ≤ FP.Core.b32.qmax from show q + 1 ≤ (104 : Int) by omega)]
    exact ⟨8388608, q + 1, rfl, by omega, by omega, by omega, by omega⟩
theorem ld1 {n a : Nat} (h : n.log2 = a) (h0 : n ≠ 0) : FP.Core.leading n 1 = a := by
  have h1 := (Nat.log2_eq_iff h0).mp h
  unfold FP.Core.leading
  have e1 : Nat.log2 1 = 0 := by decide
  rw [h, e1]
  dsimp only
  rw [show ((a : Int) - ((0 : Nat) : Int)) = (a : Int) by omega, show (-(a : Int)).toNat = 0 by omega, show ((a : Int)).toNat = a by omega, if_pos (by omega)]
theorem ld2 {n m a : Nat} (hn : n.log2 = a) (hm : m.log2 = a) : FP.Core.leading n m = if m ≤ n then 0 else -1 := by
  unfold FP.Core.leading
  rw [hn, hm]
  dsimp only
  rw [show ((a : Int) - (a : Int)) = 0 by omega]
  show (if m * 1 ≤ n * 1 then (0 : Int) else 0 - 1) = _
  rw [Nat.mul_one, Nat.mul_one]
  rfl
theorem rr64 {s : Bool} {num den : Nat} {e k : Int} (h0 : num ≠ 0) (hk : FP.Core.leading num den = k) (hq : -1074 ≤ k + e - 52) : FP.Core.roundRatio FP.Core.b64 s num den e = FP.Core.settle FP.Core.b64 s (FP.Core.nearest (num * 2 ^ (52 - k).toNat) (den * 2 ^ (k - 52).toNat)) (k + e - 52) := by
  unfold FP.Core.roundRatio FP.Core.roundAt FP.Core.unitsNum FP.Core.unitsDen FP.Core.quantum
  rw [if_neg h0, hk]
  have e1 : max FP.Core.b64.qmin (k + e - ((FP.Core.b64.p : Int) - 1)) = k + e - 52 := by
    show max (-1074 : Int) (k + e - (53 - 1)) = k + e - 52
    omega
  rw [e1, show e - (k + e - 52) = 52 - k by omega, show (k + e - 52) - e = k - 52 by omega]
theorem rr32 {s : Bool} {num den : Nat} {e k : Int} (h0 : num ≠ 0) (hk : FP.Core.leading num den = k) (hq : -149 ≤ k + e - 23) : FP.Core.roundRatio FP.Core.b32 s num den e = FP.Core.settle FP.Core.b32 s (FP.Core.nearest (num * 2 ^ (23 - k).toNat) (den * 2 ^ (k - 23).toNat)) (k + e - 23) := by
  unfold FP.Core.roundRatio FP.Core.roundAt FP.Core.unitsNum FP.Core.unitsDen FP.Core.quantum
  rw [if_neg h0, hk]
  have e1 : max FP.Core.b32.qmin (k + e - ((FP.Core.b32.p : Int) - 1)) = k + e - 23 := by
    show max (-149 : Int) (k + e - (24 - 1)) = k + e - 23
    omega
  rw [e1, show e - (k + e - 23) = 23 - k by omega, show (k + e - 23) - e = k - 23 by omega]
theorem lg52 {c : Nat} (h1 : 4503599627370496 ≤ c) (h2 : c < 9007199254740992) : c.log2 = 52 := (Nat.log2_eq_iff (by omega)).mpr ⟨h1, h2⟩
theorem w2 : (4611686018427387904 : UInt64) = w64 false 1024 0 := by decide +kernel
theorem w1 : FP.dconst1 = w64 false 1023 0 := by decide +kernel
theorem fp_half {s : Bool} {E T : Nat} (h1 : 2 ≤ E) (h2 : E ≤ 2046) (hT : T < 4503599627370496) : FP.ddiv (w64 s E T) 4611686018427387904 = w64 s (E - 1) T := by
  show UInt64.ofNat (FP.Core.encode FP.Core.b64 (FP.Core.quotient FP.Core.b64 (FP.Core.decode FP.Core.b64 (w64 s E T).toNat) (FP.Core.decode FP.Core.b64 (4611686018427387904 : UInt64).toNat))) = _
  rw [w2, dec64 (by omega) h2 hT, dec64 (by omega) (by omega) (by omega)]
  unfold FP.Core.quotient
  dsimp only
  have hl : FP.Core.leading (4503599627370496 + T) (4503599627370496 + 0) = 0 := by
    rw [ld2 (lg52 (by omega) (by omega)) (lg52 (by omega) (by omega)), if_pos (by omega)]
  rw [if_neg (by omega), rr64 (by omega) hl (by omega)]
  rw [nr_ex (c := 4503599627370496 + T) (by decide) (by
    show (4503599627370496 + T) * 4503599627370496 = (4503599627370496 + T) * (4503599627370496 * 1)
    omega)]
  rw [st64e (by omega) (by omega), enc64 (by omega) (by omega)]
  rw [show ((0 : Int) + ((E : Int) - 1075 - (((1024 : Nat) : Int) - 1075)) - 52 + 1075).toNat = E - 1 by omega, show 4503599627370496 + T - 4503599627370496 = T by omega, show (s != false) = s by cases s <;> rfl]
theorem fp_mul {s : Bool} {E F T : Nat} (h1 : 1 ≤ E) (h2 : E ≤ 2046) (hF : 1 ≤ F) (hF2 : F ≤ 2046) (hT : T < 4503599627370496) (h3 : 1024 ≤ E + F) (h4 : E + F ≤ 3069) : FP.dmul (w64 s E T) (w64 false F 0) = w64 s (E + F - 1023) T := by
  show UInt64.ofNat (FP.Core.encode FP.Core.b64 (FP.Core.round FP.Core.b64 (FP.Core.exactProduct (FP.Core.decode FP.Core.b64 (w64 s E T).toNat) (FP.Core.decode FP.Core.b64 (w64 false F 0).toNat)))) = _
  rw [dec64 h1 h2 hT, dec64 hF hF2 (by omega)]
  unfold FP.Core.exactProduct
  dsimp only
  unfold FP.Core.round
  dsimp only
  have hl : FP.Core.leading ((4503599627370496 + T) * (4503599627370496 + 0)) 1 = ((104 : Nat) : Int) := by
    refine ld1 ((Nat.log2_eq_iff (by omega)).mpr ?_) (by omega)
    show 20282409603651670423947251286016 ≤ _ ∧ _ < 40564819207303340847894502572032
    omega
  rw [rr64 (by omega) hl (by omega)]
  rw [nr_ex (c := 4503599627370496 + T) (by decide) (by
    show (4503599627370496 + T) * (4503599627370496 + 0) * 1 = (4503599627370496 + T) * (1 * 4503599627370496)
    omega)]
  rw [st64e (by omega) (by omega), enc64 (by omega) (by omega)]
  rw [show (((104 : Nat) : Int) + ((E : Int) - 1075 + ((F : Int) - 1075)) - 52 + 1075).toNat = E + F - 1023 by omega, show 4503599627370496 + T - 4503599627370496 = T by omega, show (s != false) = s by cases s <;> rfl]
theorem fp_dbl {s : Bool} {E T : Nat} (h1 : 1 ≤ E) (h2 : E ≤ 2045) (hT : T < 4503599627370496) : FP.dmul (w64 s E T) 4611686018427387904 = w64 s (E + 1) T := by
  rw [w2, fp_mul h1 (by omega) (by omega) (by omega) hT (by omega) (by omega)]
  rw [show E + 1024 - 1023 = E + 1 by omega]
