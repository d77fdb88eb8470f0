section OE
variable {X : zSc} {im : Option Nat} {tl : List zS} {I J : zI} {L K : zL} {d : zD} {n : Nat → Int32}
theorem c_isRatePart0 {a : Int32} (h : a < 1 ∨ 999 < a) : zEv X mt_X10_isRatePart 0 [.int a] [] (zSH im tl, J, K) (some (.int 0), (zSH im tl, J, K)) := by
  by_cases h1 : a < 1
  · exact sg_X10_isRatePart_0_0 _ h1
  · exact sg_X10_isRatePart_0_1 _ h1 (h.resolve_left h1)
theorem m_rloop {c t : Nat} {cnt : Nat → Nat} {D : Nat → Int32} (hc : c < 4) (h20 : cnt c ≤ 20) (hd : ∀ k, k < cnt c → n (1024 + (20 * c + k)) = D (20 * c + k)) (a b : Int32) {k1 : Nat} (hk1 : k1 ≤ cnt c) (hn : ∀ i, i < k1 → ¬ D (20 * c + i) = nI t) {r : Option Value × zM} (h : zEv X mt_X11_rate 75 [.ref 39, .int (nI c), .int (nI t), .int a, .int b, .int (nI (cnt c)), .int (nI k1)] [] (zSH im tl, va_up J 40 n, K) r) : zEv X mt_X11_rate 75 [.ref 39, .int (nI c), .int (nI t), .int a, .int b, .int (nI (cnt c)), .int (nI 0)] [] (zSH im tl, va_up J 40 n, K) r := by
  have loop : ∀ f k, k + f = k1 → zEv X mt_X11_rate 75 [.ref 39, .int (nI c), .int (nI t), .int a, .int b, .int (nI (cnt c)), .int (nI k)] [] (zSH im tl, va_up J 40 n, K) r := by
    intro f
    induction f with
    | zero => intro k hk; have : k = k1 := by omega
              subst this; exact h
    | succ f ih =>
      intro k hk
      refine sg_X11_rate_75_3 _ _ _ _ _ _ (nI_ge (by omega) (by omega)) m_rateAt (sg_X11_rate_95_3 _ _ _ _ _ _ _ _ (k_in (nI_add 1024 _) (by omega) (by omega)) ?_ (by rw [nI_1]; exact ih (k + 1) (by omega)))
      rw [kx 1024 (a := 1024) rfl (by omega), va_up_self, hd k (by omega)]
      exact hn k (by omega)
  exact loop k1 0 (by omega)
theorem rr_set {cnt : Nat → Nat} {Kr D A B : Nat → Int32} (h : RR cnt Kr D A B n) {c k0 : Nat} {t x y : Nat} (hc : c < 4) (hk : k0 < cnt c) (hd : D (20 * c + k0) = nI t) (x1 : 1 ≤ x) (x2 : x ≤ 999) (y1 : 1 ≤ y) (y2 : y ≤ 999) : RR cnt Kr D (upd A (20 * c + k0) (nI x)) (upd B (20 * c + k0) (nI y)) (upd (upd (upd n (1024 + (20 * c + k0)) (nI t)) (1104 + (20 * c + k0)) (nI x)) (1184 + (20 * c + k0)) (nI y)) := by
  have h20 := (h.t c hc).1
  refine RR.mk h.t (fun e he => ?_) (fun e he k hk' => ?_) (fun e he k hk' => ?_) (fun e he k hk' => ?_) h.z
  · rw [pk_un (by omega), pk_un (by omega), pk_un (by omega)]; exact h.m e he
  · have h2 := (h.t e he).1
    refine ⟨(h.d e he k hk').1, ?_⟩
    rw [pk_un (by omega), pk_un (by omega)]
    by_cases q : 20 * e + k = 20 * c + k0
    · rw [q, pk_us, hd]
    · rw [pk_un (by omega)]; exact (h.d e he k hk').2
  · have h2 := (h.t e he).1
    rw [pk_un (j := 1104 + (20 * e + k)) (k := 1184 + (20 * c + k0)) (by omega)]
    by_cases q : 20 * e + k = 20 * c + k0
    · rw [q, pk_us, pk_us]; exact ⟨⟨x, x1, x2, rfl⟩, rfl⟩
    · rw [pk_un (f := A) q, pk_un (by omega), pk_un (by omega)]; exact h.a e he k hk'
  · have h2 := (h.t e he).1
    by_cases q : 20 * e + k = 20 * c + k0
    · rw [q, pk_us, pk_us]; exact ⟨⟨y, y1, y2, rfl⟩, rfl⟩
    · rw [pk_un (f := B) q, pk_un (by omega), pk_un (by omega), pk_un (by omega)]; exact h.b e he k hk'
theorem rr_new {cnt : Nat → Nat} {Kr D A B : Nat → Int32} (h : RR cnt Kr D A B n) {c : Nat} {t x y : Nat} (hc : c < 4) (hc0 : c ≠ 0) (hk : cnt c < 20) (t2 : t ≤ 999) (x1 : 1 ≤ x) (x2 : x ≤ 999) (y1 : 1 ≤ y) (y2 : y ≤ 999) : RR (fun e => if e = c then cnt c + 1 else cnt e) (upd Kr c (nI (cnt c + 1))) (upd D (20 * c + cnt c) (nI t)) (upd A (20 * c + cnt c) (nI x)) (upd B (20 * c + cnt c) (nI y)) (upd (upd (upd (upd n (1020 + c) (nI (cnt c + 1))) (1024 + (20 * c + cnt c)) (nI t)) (1104 + (20 * c + cnt c)) (nI x)) (1184 + (20 * c + cnt c)) (nI y)) := by
  have hlt : ∀ e k, e < 4 → k < (if e = c then cnt c + 1 else cnt e) → (20 * e + k = 20 * c + cnt c ∨ (20 * e + k ≠ 20 * c + cnt c ∧ k < cnt e)) ∧ k < 20 := by
    intro e k he hk'
    have h2 := (h.t e he).1
    by_cases q : e = c
    · subst q
      rw [if_pos rfl] at hk'
      by_cases q2 : k = cnt e
      · exact ⟨Or.inl (by omega), by omega⟩
      · exact ⟨Or.inr ⟨by omega, by omega⟩, by omega⟩
    · rw [if_neg q] at hk'
      exact ⟨Or.inr ⟨by omega, hk'⟩, by omega⟩
  refine RR.mk (fun e he => ?_) (fun e he => ?_) (fun e he k hk' => ?_) (fun e he k hk' => ?_) (fun e he k hk' => ?_) ?_
  · by_cases q : e = c
    · subst q; rw [if_pos rfl, pk_us]; exact ⟨by omega, rfl⟩
    · rw [if_neg q, pk_un q]; exact h.t e he
  · rw [pk_un (by omega), pk_un (by omega), pk_un (by omega)]
    by_cases q : e = c
    · subst q; rw [if_pos rfl, pk_us]
    · rw [if_neg q, pk_un (by omega)]; exact h.m e he
  · obtain ⟨q, q20⟩ := hlt e k he hk'
    rw [pk_un (j := 1024 + (20 * e + k)) (k := 1184 + (20 * c + cnt c)) (by omega), pk_un (j := 1024 + (20 * e + k)) (k := 1104 + (20 * c + cnt c)) (by omega)]
    rcases q with q | ⟨q, q2⟩
    · rw [q, pk_us, pk_us]; exact ⟨⟨t, t2, rfl⟩, rfl⟩
    · rw [pk_un (f := D) q, pk_un (by omega), pk_un (by omega)]; exact h.d e he k q2
  · obtain ⟨q, q20⟩ := hlt e k he hk'
    rw [pk_un (j := 1104 + (20 * e + k)) (k := 1184 + (20 * c + cnt c)) (by omega)]
    rcases q with q | ⟨q, q2⟩
    · rw [q, pk_us, pk_us]; exact ⟨⟨x, x1, x2, rfl⟩, rfl⟩
    · rw [pk_un (f := A) q, pk_un (by omega), pk_un (by omega), pk_un (by omega)]; exact h.a e he k q2
  · obtain ⟨q, q20⟩ := hlt e k he hk'
    rcases q with q | ⟨q, q2⟩
    · rw [q, pk_us, pk_us]; exact ⟨⟨y, y1, y2, rfl⟩, rfl⟩
    · rw [pk_un (f := B) q, pk_un (by omega), pk_un (by omega), pk_un (by omega), pk_un (by omega)]; exact h.b e he k q2
  · rw [if_neg (by omega)]; exact h.z
end OE
