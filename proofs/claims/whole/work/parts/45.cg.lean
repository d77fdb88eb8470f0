/-! each part looks at some places of the model's rows only -/
theorem RA.cg {nA : Nat} {p : Nat → Nat} {C P U S : Nat → Int32} {F G B : Nat → Int64} {n n' : Nat → Int32} {l l' : Nat → Int64} (h : RA nA p C P U S F G B n l) (hn : ∀ k, k = 0 ∨ (10 ≤ k ∧ k < 100) → n' k = n k) (hl : ∀ k, k < 60 ∨ (680 ≤ k ∧ k < 980) → l' k = l k) : RA nA p C P U S F G B n' l' := by
  have h30 := h.n30
  refine RA.mk h.n1 h.n30 h.c ?_ h.pp ?_ h.p0 ?_ ?_ ?_ h.so0 ?_ ?_ h.fr ?_
  · rw [hn 0 (by omega)]; exact h.m
  · intro k h1 h2; rw [hn _ (by omega)]; exact h.pm k h1 h2
  · rw [hn 10 (by omega)]; exact h.pm0
  · intro k h1; rw [hn _ (by omega)]; exact h.cu k h1
  · intro k h1 h2; rw [hn _ (by omega)]; exact h.so k h1 h2
  · intro k h1; rw [hl _ (by omega)]; exact h.fl k h1
  · intro k h1; rw [hl _ (by omega)]; exact h.ce k h1
  · intro k h1; rw [hl _ (by omega)]; exact h.bu k h1
theorem RJ.fz {nA nJ nP day : Nat} {sz fs dy : Nat → Nat} {C D Z V W A M : Nat → Int32} {n : Nat → Int32} {l : Nat → Int64} (h : RJ nA nJ nP day sz fs dy C D Z V W A M n l) {j : Nat} (hj : j < nJ) : fs j + sz j ≤ nP := by
  have mono : ∀ k j, j + k ≤ nJ → fs j ≤ fs (j + k) := by
    intro k
    induction k with
    | zero => intro j _; exact Nat.le_refl _
    | succ k ih =>
      intro j hj
      have h1 := ih j (by omega)
      have h2 := h.fS (j + k) (by omega)
      rw [show j + (k + 1) = j + k + 1 by omega]
      omega
  have h1 := mono (nJ - (j + 1)) (j + 1) (by omega)
  rw [show j + 1 + (nJ - (j + 1)) = nJ by omega, h.fE, h.fS j hj] at h1
  exact h1
theorem RJ.cg {nA nJ nP day : Nat} {sz fs dy : Nat → Nat} {C D Z V W A M : Nat → Int32} {n n' : Nat → Int32} {l l' : Nat → Int64} (h : RJ nA nJ nP day sz fs dy C D Z V W A M n l) (hn : ∀ k, k = 1 ∨ k = 2 ∨ (100 ≤ k ∧ k < 400 + nP) → n' k = n k) (hl : ∀ k, 60 ≤ k ∧ k < 60 + nP → l' k = l k) : RJ nA nJ nP day sz fs dy C D Z V W A M n' l' := by
  have h60 := h.j60
  refine RJ.mk h60 h.c ?_ ?_ h.f0 h.fS h.fE h.z h.z2 ?_ ?_ h.d ?_ ?_ ?_ ?_ ?_
  · rw [hn 1 (by omega)]; exact h.m
  · rw [hn 2 (by omega)]; exact h.mp
  · intro j hj; rw [hn _ (by omega)]; exact h.zm j hj
  · intro j hj; rw [hn _ (by omega)]; exact h.fm j hj
  · intro j hj; rw [hn _ (by omega)]; exact h.dm j hj
  · intro j hj; rw [hn _ (by omega)]; exact h.v j hj
  · intro j hj; rw [hn _ (by omega)]; exact h.w j hj
  · intro j hj i hi
    have := h.fz hj
    rw [hn _ (by omega)]; exact h.a j hj i hi
  · intro j hj i hi
    have := h.fz hj
    rw [hl _ (by omega)]; exact h.x j hj i hi
theorem RO.cg {nA nJ nP : Nat} {op : Option Nat} {B O A M : Nat → Int32} {n n' : Nat → Int32} {l l' : Nat → Int64} (h : RO nA nJ nP op B O A M n l) (hn : ∀ k, k = 3 ∨ (400 + nP ≤ k ∧ k < 410 + nP) → n' k = n k) (hl : ∀ k, 60 + nP ≤ k ∧ k < 70 + nP → l' k = l k) : RO nA nJ nP op B O A M n' l' := by
  refine RO.mk ?_ ?_ ?_ ?_
  · intro e; rw [hn 3 (by omega)]; exact h.no e
  · intro k e; rw [hn 3 (by omega)]; exact h.yes k e
  · intro k e i hi
    have := (h.yes k e).1
    rw [hn _ (by omega)]; exact h.a k e i hi
  · intro k e i hi
    have := (h.yes k e).1
    rw [hl _ (by omega)]; exact h.x k e i hi
theorem RD.cg {day cl : Nat} {B : Nat → Int32} {E : Nat → Int64} {n n' : Nat → Int32} {l l' : Nat → Int64} (h : RD day cl B E n l) (hn : ∀ k, k = 4 ∨ k = 5 → n' k = n k) (hl : ∀ k, 980 ≤ k ∧ k < 990 → l' k = l k) : RD day cl B E n' l' := by
  have h1 := h.d
  have h2 := h.c
  refine RD.mk h.d h.c h.bd ?_ h.bc ?_ ?_
  · rw [hn 4 (by omega)]; exact h.md
  · rw [hn 5 (by omega)]; exact h.mc
  · intro k hk; rw [hl _ (by omega)]; exact h.e k hk
theorem RC.cg {nC : Nat} {C W H : Nat → Int32} {n n' : Nat → Int32} (h : RC nC C W H n) (hn : ∀ k, k = 6 ∨ (1264 ≤ k ∧ k < 1280) → n' k = n k) : RC nC C W H n' := by
  have h1 := h.n3
  refine RC.mk h.n3 h.c ?_ ?_ ?_
  · rw [hn 6 (by omega)]; exact h.m
  · intro k hk; rw [hn _ (by omega)]; exact h.w k hk
  · intro k hk; rw [hn _ (by omega)]; exact h.h k hk
theorem RR.cg {cnt : Nat → Nat} {K D A B : Nat → Int32} {n n' : Nat → Int32} (h : RR cnt K D A B n) (hn : ∀ k, 1020 ≤ k ∧ k < 1264 → n' k = n k) : RR cnt K D A B n' := by
  refine RR.mk h.t ?_ ?_ ?_ ?_ h.z
  · intro c hc; rw [hn _ (by omega)]; exact h.m c hc
  · intro c hc k hk
    have := (h.t c hc).1
    rw [hn _ (by omega)]; exact h.d c hc k hk
  · intro c hc k hk
    have := (h.t c hc).1
    rw [hn _ (by omega)]; exact h.a c hc k hk
  · intro c hc k hk
    have := (h.t c hc).1
    rw [hn _ (by omega)]; exact h.b c hc k hk
