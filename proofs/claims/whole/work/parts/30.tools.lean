/-! numbers and sums -/
theorem kl (n : Nat) : (OfNat.ofNat n : Int32) = nI n := rfl
theorem kc {n : Nat} (h : n < 2 ^ 31) : (nI n).toNatClampNeg = n := nI_clamp h
theorem k_add {a b : Nat} {x y : Int32} (hx : x = nI a) (hy : y = nI b) : x + y = nI (a + b) := by rw [hx, hy, nI_add]
theorem k_mul {a b : Nat} {x y : Int32} (hx : x = nI a) (hy : y = nI b) : x * y = nI (a * b) := by rw [hx, hy, pk_mul]
theorem k_lt {a b : Nat} {x y : Int32} (hx : x = nI a) (hy : y = nI b) (h : a < b) (hb : b < 2 ^ 31) : x < y := by rw [hx, hy]; exact nI_lt h hb
theorem k_nlt {a b : Nat} {x y : Int32} (hx : x = nI a) (hy : y = nI b) (h : b ≤ a) (hb : a < 2 ^ 31) : ¬ x < y := by rw [hx, hy]; exact nI_nlt h hb
theorem k_le {a b : Nat} {x y : Int32} (hx : x = nI a) (hy : y = nI b) (h : a ≤ b) (hb : b < 2 ^ 31) : x ≤ y := by rw [hx, hy]; exact nI_le h hb
theorem k_nle {a b : Nat} {x y : Int32} (hx : x = nI a) (hy : y = nI b) (h : b < a) (hb : a < 2 ^ 31) : ¬ x ≤ y := by rw [hx, hy]; exact nI_ge h hb
theorem k_eq {a b : Nat} {x y : Int32} (hx : x = nI a) (hy : y = nI b) (h : a = b) : x = y := by rw [hx, hy, h]
theorem k_ne {a b : Nat} {x y : Int32} (hx : x = nI a) (hy : y = nI b) (h : a ≠ b) (ha : a < 2 ^ 31) (hb : b < 2 ^ 31) : ¬ x = y := by rw [hx, hy, nI_eq ha hb]; exact h
theorem k_in {a n : Nat} {x : Int32} (hx : x = nI a) (h : a < n) (hn : n < 2 ^ 31) : ¬ (x < 0 ∨ n ≤ x.toNatClampNeg) := by rw [hx]; exact vp_in_nI h hn
theorem k_pos {a : Nat} {x : Int32} (hx : x = nI a) (h : a < 2 ^ 31) : ¬ x < 0 := by rw [hx]; exact nI_pos h
theorem k_0 : (0 : Int32) = nI 0 := rfl
/-- an int: a place below n, or none -/
theorem k_ix (x : Int32) (n : Nat) (hn : n < 2 ^ 31) : (x < 0 ∨ nI n ≤ x) ∨ ∃ j : Nat, j < n ∧ x = nI j := by
  rcases pk_ix x hn with h | h | h
  · exact Or.inl (Or.inl h)
  · exact Or.inl (Or.inr h)
  · exact Or.inr h
def lsum (f : Nat → Int64) : Nat → Int64
  | 0 => 0
  | n + 1 => lsum f n + f n
theorem lsum_congr {f g : Nat → Int64} {n : Nat} (h : ∀ i, i < n → f i = g i) : lsum f n = lsum g n := by
  induction n with
  | zero => rfl
  | succ n ih => rw [lsum, lsum, ih (fun i hi => h i (by omega)), h n (by omega)]
def ncnt (p : Nat → Bool) : Nat → Nat
  | 0 => 0
  | n + 1 => if p n then ncnt p n + 1 else ncnt p n
theorem ncnt_le (p : Nat → Bool) : ∀ n, ncnt p n ≤ n
  | 0 => Nat.le_refl _
  | n + 1 => by
    have := ncnt_le p n
    rw [ncnt]
    split <;> omega
theorem ncnt_congr {p q : Nat → Bool} {n : Nat} (h : ∀ i, i < n → p i = q i) : ncnt p n = ncnt q n := by
  induction n with
  | zero => rfl
  | succ n ih => rw [ncnt, ncnt, ih (fun i hi => h i (by omega)), h n (by omega)]
/-- the way up: does a's way lead to t? -/
def ib (p : Nat → Nat) : Nat → Nat → Nat → Bool
  | 0, a, t => decide (a = t)
  | f + 1, a, t => if a ≤ t then decide (a = t) else ib p f (p a) t
def zbi1 (b : Bool) : Int32 := if b = true then 1 else 0
theorem ev_r {X : zSc} {m : zMt} {pc : Nat} {ls st : List Value} {M : zM} {r r' : Option Value × zM} (h : zEv X m pc ls st M r) (e : r = r') : zEv X m pc ls st M r' := e ▸ h
/-- the same run from locals, stack and memory that are the same numbers -/
theorem ev_c {X : zSc} {m : zMt} {pc : Nat} {ls ls' st st' : List Value} {M M' : zM} {r : Option Value × zM} (h : zEv X m pc ls' st' M' r) (e1 : ls = ls') (e2 : st = st') (e3 : M = M') : zEv X m pc ls st M r := by rw [e1, e2, e3]; exact h
