/-! the relation of the class's rows to the model's rows, by parts; every part names its rows, so that what is not touched stays by reduction -/
def RA (nA : Nat) (p : Nat → Nat) (C P U S : Nat → Int32) (F G B : Nat → Int64) (n : Nat → Int32) (l : Nat → Int64) : Prop := (1 ≤ nA) ∧ (nA ≤ 30) ∧ (C 0 = nI nA) ∧ (n 0 = nI nA) ∧ (∀ k, 1 ≤ k → k < nA → p k < k ∧ P k = nI (p k)) ∧ (∀ k, 1 ≤ k → k < nA → n (10 + k) = nI (p k)) ∧ (P 0 = -5) ∧ (n 10 = -1) ∧ (∀ k, k < nA → n (40 + k) = U k) ∧ (∀ k, 1 ≤ k → k < nA → n (70 + k) = S k) ∧ (S 0 = -5) ∧ (∀ k, k < nA → l k = F k) ∧ (∀ k, k < nA → l (30 + k) = G k) ∧ (∀ k, nA ≤ k → k < 30 → F k = -9223372036854775808 ∧ G k = 9223372036854775807) ∧ (∀ k, k < 300 → l (680 + k) = B k)
theorem RA.n1 {nA : Nat} {p : Nat → Nat} {C P U S : Nat → Int32} {F G B : Nat → Int64} {n : Nat → Int32} {l : Nat → Int64} (h : RA nA p C P U S F G B n l) : 1 ≤ nA := h.1
theorem RA.n30 {nA : Nat} {p : Nat → Nat} {C P U S : Nat → Int32} {F G B : Nat → Int64} {n : Nat → Int32} {l : Nat → Int64} (h : RA nA p C P U S F G B n l) : nA ≤ 30 := h.2.1
theorem RA.c {nA : Nat} {p : Nat → Nat} {C P U S : Nat → Int32} {F G B : Nat → Int64} {n : Nat → Int32} {l : Nat → Int64} (h : RA nA p C P U S F G B n l) : C 0 = nI nA := h.2.2.1
theorem RA.m {nA : Nat} {p : Nat → Nat} {C P U S : Nat → Int32} {F G B : Nat → Int64} {n : Nat → Int32} {l : Nat → Int64} (h : RA nA p C P U S F G B n l) : n 0 = nI nA := h.2.2.2.1
theorem RA.pp {nA : Nat} {p : Nat → Nat} {C P U S : Nat → Int32} {F G B : Nat → Int64} {n : Nat → Int32} {l : Nat → Int64} (h : RA nA p C P U S F G B n l) : ∀ k, 1 ≤ k → k < nA → p k < k ∧ P k = nI (p k) := h.2.2.2.2.1
theorem RA.pm {nA : Nat} {p : Nat → Nat} {C P U S : Nat → Int32} {F G B : Nat → Int64} {n : Nat → Int32} {l : Nat → Int64} (h : RA nA p C P U S F G B n l) : ∀ k, 1 ≤ k → k < nA → n (10 + k) = nI (p k) := h.2.2.2.2.2.1
theorem RA.p0 {nA : Nat} {p : Nat → Nat} {C P U S : Nat → Int32} {F G B : Nat → Int64} {n : Nat → Int32} {l : Nat → Int64} (h : RA nA p C P U S F G B n l) : P 0 = -5 := h.2.2.2.2.2.2.1
theorem RA.pm0 {nA : Nat} {p : Nat → Nat} {C P U S : Nat → Int32} {F G B : Nat → Int64} {n : Nat → Int32} {l : Nat → Int64} (h : RA nA p C P U S F G B n l) : n 10 = -1 := h.2.2.2.2.2.2.2.1
theorem RA.cu {nA : Nat} {p : Nat → Nat} {C P U S : Nat → Int32} {F G B : Nat → Int64} {n : Nat → Int32} {l : Nat → Int64} (h : RA nA p C P U S F G B n l) : ∀ k, k < nA → n (40 + k) = U k := h.2.2.2.2.2.2.2.2.1
theorem RA.so {nA : Nat} {p : Nat → Nat} {C P U S : Nat → Int32} {F G B : Nat → Int64} {n : Nat → Int32} {l : Nat → Int64} (h : RA nA p C P U S F G B n l) : ∀ k, 1 ≤ k → k < nA → n (70 + k) = S k := h.2.2.2.2.2.2.2.2.2.1
theorem RA.so0 {nA : Nat} {p : Nat → Nat} {C P U S : Nat → Int32} {F G B : Nat → Int64} {n : Nat → Int32} {l : Nat → Int64} (h : RA nA p C P U S F G B n l) : S 0 = -5 := h.2.2.2.2.2.2.2.2.2.2.1
theorem RA.fl {nA : Nat} {p : Nat → Nat} {C P U S : Nat → Int32} {F G B : Nat → Int64} {n : Nat → Int32} {l : Nat → Int64} (h : RA nA p C P U S F G B n l) : ∀ k, k < nA → l k = F k := h.2.2.2.2.2.2.2.2.2.2.2.1
theorem RA.ce {nA : Nat} {p : Nat → Nat} {C P U S : Nat → Int32} {F G B : Nat → Int64} {n : Nat → Int32} {l : Nat → Int64} (h : RA nA p C P U S F G B n l) : ∀ k, k < nA → l (30 + k) = G k := h.2.2.2.2.2.2.2.2.2.2.2.2.1
theorem RA.fr {nA : Nat} {p : Nat → Nat} {C P U S : Nat → Int32} {F G B : Nat → Int64} {n : Nat → Int32} {l : Nat → Int64} (h : RA nA p C P U S F G B n l) : ∀ k, nA ≤ k → k < 30 → F k = -9223372036854775808 ∧ G k = 9223372036854775807 := h.2.2.2.2.2.2.2.2.2.2.2.2.2.1
theorem RA.bu {nA : Nat} {p : Nat → Nat} {C P U S : Nat → Int32} {F G B : Nat → Int64} {n : Nat → Int32} {l : Nat → Int64} (h : RA nA p C P U S F G B n l) : ∀ k, k < 300 → l (680 + k) = B k := h.2.2.2.2.2.2.2.2.2.2.2.2.2.2
def RJ (nA nJ nP day : Nat) (sz fs dy : Nat → Nat) (C D Z V W A M : Nat → Int32) (n : Nat → Int32) (l : Nat → Int64) : Prop := (nJ ≤ 60) ∧ (C 0 = nI nJ) ∧ (n 1 = nI nJ) ∧ (n 2 = nI nP) ∧ (fs 0 = 0) ∧ (∀ j, j < nJ → fs (j + 1) = fs j + sz j) ∧ (fs nJ = nP) ∧ (∀ j, j < nJ → Z j = nI (sz j) ∧ sz j ≤ 10) ∧ (∀ j, j < nJ → 2 ≤ sz j) ∧ (∀ j, j < nJ → n (220 + j) = nI (sz j)) ∧ (∀ j, j < nJ → n (160 + j) = nI (fs j)) ∧ (∀ j, j < nJ → D j = nI (dy j) ∧ dy j ≤ day) ∧ (∀ j, j < nJ → n (100 + j) = D j) ∧ (∀ j, j < nJ → (V j = -5 ∧ n (280 + j) = -1) ∨ ∃ k, k < nJ ∧ V j = nI k ∧ n (280 + j) = nI k) ∧ (∀ j, j < nJ → (W j = -5 ∧ n (340 + j) = -1) ∨ ∃ k, k < nJ ∧ W j = nI k ∧ n (340 + j) = nI k) ∧ (∀ j, j < nJ → ∀ i, i < sz j → (∃ a, a < nA ∧ A (10 * j + i) = nI a) ∧ n (400 + (fs j + i)) = A (10 * j + i)) ∧ (∀ j, j < nJ → ∀ i, i < sz j → (-1000000 ≤ (M (10 * j + i)).toInt ∧ (M (10 * j + i)).toInt ≤ 1000000) ∧ l (60 + (fs j + i)) = (M (10 * j + i)).toInt64)
theorem RJ.j60 {nA nJ nP day : Nat} {sz fs dy : Nat → Nat} {C D Z V W A M : Nat → Int32} {n : Nat → Int32} {l : Nat → Int64} (h : RJ nA nJ nP day sz fs dy C D Z V W A M n l) : nJ ≤ 60 := h.1
theorem RJ.c {nA nJ nP day : Nat} {sz fs dy : Nat → Nat} {C D Z V W A M : Nat → Int32} {n : Nat → Int32} {l : Nat → Int64} (h : RJ nA nJ nP day sz fs dy C D Z V W A M n l) : C 0 = nI nJ := h.2.1
theorem RJ.m {nA nJ nP day : Nat} {sz fs dy : Nat → Nat} {C D Z V W A M : Nat → Int32} {n : Nat → Int32} {l : Nat → Int64} (h : RJ nA nJ nP day sz fs dy C D Z V W A M n l) : n 1 = nI nJ := h.2.2.1
theorem RJ.mp {nA nJ nP day : Nat} {sz fs dy : Nat → Nat} {C D Z V W A M : Nat → Int32} {n : Nat → Int32} {l : Nat → Int64} (h : RJ nA nJ nP day sz fs dy C D Z V W A M n l) : n 2 = nI nP := h.2.2.2.1
theorem RJ.f0 {nA nJ nP day : Nat} {sz fs dy : Nat → Nat} {C D Z V W A M : Nat → Int32} {n : Nat → Int32} {l : Nat → Int64} (h : RJ nA nJ nP day sz fs dy C D Z V W A M n l) : fs 0 = 0 := h.2.2.2.2.1
theorem RJ.fS {nA nJ nP day : Nat} {sz fs dy : Nat → Nat} {C D Z V W A M : Nat → Int32} {n : Nat → Int32} {l : Nat → Int64} (h : RJ nA nJ nP day sz fs dy C D Z V W A M n l) : ∀ j, j < nJ → fs (j + 1) = fs j + sz j := h.2.2.2.2.2.1
theorem RJ.fE {nA nJ nP day : Nat} {sz fs dy : Nat → Nat} {C D Z V W A M : Nat → Int32} {n : Nat → Int32} {l : Nat → Int64} (h : RJ nA nJ nP day sz fs dy C D Z V W A M n l) : fs nJ = nP := h.2.2.2.2.2.2.1
theorem RJ.z {nA nJ nP day : Nat} {sz fs dy : Nat → Nat} {C D Z V W A M : Nat → Int32} {n : Nat → Int32} {l : Nat → Int64} (h : RJ nA nJ nP day sz fs dy C D Z V W A M n l) : ∀ j, j < nJ → Z j = nI (sz j) ∧ sz j ≤ 10 := h.2.2.2.2.2.2.2.1
theorem RJ.z2 {nA nJ nP day : Nat} {sz fs dy : Nat → Nat} {C D Z V W A M : Nat → Int32} {n : Nat → Int32} {l : Nat → Int64} (h : RJ nA nJ nP day sz fs dy C D Z V W A M n l) : ∀ j, j < nJ → 2 ≤ sz j := h.2.2.2.2.2.2.2.2.1
theorem RJ.zm {nA nJ nP day : Nat} {sz fs dy : Nat → Nat} {C D Z V W A M : Nat → Int32} {n : Nat → Int32} {l : Nat → Int64} (h : RJ nA nJ nP day sz fs dy C D Z V W A M n l) : ∀ j, j < nJ → n (220 + j) = nI (sz j) := h.2.2.2.2.2.2.2.2.2.1
theorem RJ.fm {nA nJ nP day : Nat} {sz fs dy : Nat → Nat} {C D Z V W A M : Nat → Int32} {n : Nat → Int32} {l : Nat → Int64} (h : RJ nA nJ nP day sz fs dy C D Z V W A M n l) : ∀ j, j < nJ → n (160 + j) = nI (fs j) := h.2.2.2.2.2.2.2.2.2.2.1
theorem RJ.d {nA nJ nP day : Nat} {sz fs dy : Nat → Nat} {C D Z V W A M : Nat → Int32} {n : Nat → Int32} {l : Nat → Int64} (h : RJ nA nJ nP day sz fs dy C D Z V W A M n l) : ∀ j, j < nJ → D j = nI (dy j) ∧ dy j ≤ day := h.2.2.2.2.2.2.2.2.2.2.2.1
theorem RJ.dm {nA nJ nP day : Nat} {sz fs dy : Nat → Nat} {C D Z V W A M : Nat → Int32} {n : Nat → Int32} {l : Nat → Int64} (h : RJ nA nJ nP day sz fs dy C D Z V W A M n l) : ∀ j, j < nJ → n (100 + j) = D j := h.2.2.2.2.2.2.2.2.2.2.2.2.1
theorem RJ.v {nA nJ nP day : Nat} {sz fs dy : Nat → Nat} {C D Z V W A M : Nat → Int32} {n : Nat → Int32} {l : Nat → Int64} (h : RJ nA nJ nP day sz fs dy C D Z V W A M n l) : ∀ j, j < nJ → (V j = -5 ∧ n (280 + j) = -1) ∨ ∃ k, k < nJ ∧ V j = nI k ∧ n (280 + j) = nI k := h.2.2.2.2.2.2.2.2.2.2.2.2.2.1
theorem RJ.w {nA nJ nP day : Nat} {sz fs dy : Nat → Nat} {C D Z V W A M : Nat → Int32} {n : Nat → Int32} {l : Nat → Int64} (h : RJ nA nJ nP day sz fs dy C D Z V W A M n l) : ∀ j, j < nJ → (W j = -5 ∧ n (340 + j) = -1) ∨ ∃ k, k < nJ ∧ W j = nI k ∧ n (340 + j) = nI k := h.2.2.2.2.2.2.2.2.2.2.2.2.2.2.1
theorem RJ.a {nA nJ nP day : Nat} {sz fs dy : Nat → Nat} {C D Z V W A M : Nat → Int32} {n : Nat → Int32} {l : Nat → Int64} (h : RJ nA nJ nP day sz fs dy C D Z V W A M n l) : ∀ j, j < nJ → ∀ i, i < sz j → (∃ a, a < nA ∧ A (10 * j + i) = nI a) ∧ n (400 + (fs j + i)) = A (10 * j + i) := h.2.2.2.2.2.2.2.2.2.2.2.2.2.2.2.1
theorem RJ.x {nA nJ nP day : Nat} {sz fs dy : Nat → Nat} {C D Z V W A M : Nat → Int32} {n : Nat → Int32} {l : Nat → Int64} (h : RJ nA nJ nP day sz fs dy C D Z V W A M n l) : ∀ j, j < nJ → ∀ i, i < sz j → (-1000000 ≤ (M (10 * j + i)).toInt ∧ (M (10 * j + i)).toInt ≤ 1000000) ∧ l (60 + (fs j + i)) = (M (10 * j + i)).toInt64 := h.2.2.2.2.2.2.2.2.2.2.2.2.2.2.2.2
/-- the open journal: none, or one of so many postings -/
def RO (nA nJ nP : Nat) (op : Option Nat) (B O A M : Nat → Int32) (n : Nat → Int32) (l : Nat → Int64) : Prop := (op = none → B 5 = 0 ∧ n 3 = -1) ∧ (∀ k, op = some k → k ≤ 10 ∧ nJ < 60 ∧ B 5 = 1 ∧ O 0 = nI k ∧ n 3 = nI k) ∧ (∀ k, op = some k → ∀ i, i < k → (∃ a, a < nA ∧ A i = nI a) ∧ n (400 + (nP + i)) = A i) ∧ (∀ k, op = some k → ∀ i, i < k → (-1000000 ≤ (M i).toInt ∧ (M i).toInt ≤ 1000000) ∧ l (60 + (nP + i)) = (M i).toInt64)
theorem RO.no {nA nJ nP : Nat} {op : Option Nat} {B O A M : Nat → Int32} {n : Nat → Int32} {l : Nat → Int64} (h : RO nA nJ nP op B O A M n l) : op = none → B 5 = 0 ∧ n 3 = -1 := h.1
theorem RO.yes {nA nJ nP : Nat} {op : Option Nat} {B O A M : Nat → Int32} {n : Nat → Int32} {l : Nat → Int64} (h : RO nA nJ nP op B O A M n l) : ∀ k, op = some k → k ≤ 10 ∧ nJ < 60 ∧ B 5 = 1 ∧ O 0 = nI k ∧ n 3 = nI k := h.2.1
theorem RO.a {nA nJ nP : Nat} {op : Option Nat} {B O A M : Nat → Int32} {n : Nat → Int32} {l : Nat → Int64} (h : RO nA nJ nP op B O A M n l) : ∀ k, op = some k → ∀ i, i < k → (∃ a, a < nA ∧ A i = nI a) ∧ n (400 + (nP + i)) = A i := h.2.2.1
theorem RO.x {nA nJ nP : Nat} {op : Option Nat} {B O A M : Nat → Int32} {n : Nat → Int32} {l : Nat → Int64} (h : RO nA nJ nP op B O A M n l) : ∀ k, op = some k → ∀ i, i < k → (-1000000 ≤ (M i).toInt ∧ (M i).toInt ≤ 1000000) ∧ l (60 + (nP + i)) = (M i).toInt64 := h.2.2.2
def RD (day cl : Nat) (B : Nat → Int32) (E : Nat → Int64) (n : Nat → Int32) (l : Nat → Int64) : Prop := (day ≤ 999) ∧ (100 * cl ≤ day) ∧ (B 6 = nI day) ∧ (n 4 = nI day) ∧ (B 7 = nI cl) ∧ (n 5 = nI cl) ∧ (∀ k, k < cl → l (980 + k) = E k)
theorem RD.d {day cl : Nat} {B : Nat → Int32} {E : Nat → Int64} {n : Nat → Int32} {l : Nat → Int64} (h : RD day cl B E n l) : day ≤ 999 := h.1
theorem RD.c {day cl : Nat} {B : Nat → Int32} {E : Nat → Int64} {n : Nat → Int32} {l : Nat → Int64} (h : RD day cl B E n l) : 100 * cl ≤ day := h.2.1
theorem RD.bd {day cl : Nat} {B : Nat → Int32} {E : Nat → Int64} {n : Nat → Int32} {l : Nat → Int64} (h : RD day cl B E n l) : B 6 = nI day := h.2.2.1
theorem RD.md {day cl : Nat} {B : Nat → Int32} {E : Nat → Int64} {n : Nat → Int32} {l : Nat → Int64} (h : RD day cl B E n l) : n 4 = nI day := h.2.2.2.1
theorem RD.bc {day cl : Nat} {B : Nat → Int32} {E : Nat → Int64} {n : Nat → Int32} {l : Nat → Int64} (h : RD day cl B E n l) : B 7 = nI cl := h.2.2.2.2.1
theorem RD.mc {day cl : Nat} {B : Nat → Int32} {E : Nat → Int64} {n : Nat → Int32} {l : Nat → Int64} (h : RD day cl B E n l) : n 5 = nI cl := h.2.2.2.2.2.1
theorem RD.e {day cl : Nat} {B : Nat → Int32} {E : Nat → Int64} {n : Nat → Int32} {l : Nat → Int64} (h : RD day cl B E n l) : ∀ k, k < cl → l (980 + k) = E k := h.2.2.2.2.2.2
def RC (nC : Nat) (C W H : Nat → Int32) (n : Nat → Int32) : Prop := (nC ≤ 3) ∧ (C 0 = nI nC) ∧ (n 6 = nI nC) ∧ (∀ i, i < nC → n (1264 + i) = W i) ∧ (∀ i, i < nC → n (1270 + i) = H i)
theorem RC.n3 {nC : Nat} {C W H : Nat → Int32} {n : Nat → Int32} (h : RC nC C W H n) : nC ≤ 3 := h.1
theorem RC.c {nC : Nat} {C W H : Nat → Int32} {n : Nat → Int32} (h : RC nC C W H n) : C 0 = nI nC := h.2.1
theorem RC.m {nC : Nat} {C W H : Nat → Int32} {n : Nat → Int32} (h : RC nC C W H n) : n 6 = nI nC := h.2.2.1
theorem RC.w {nC : Nat} {C W H : Nat → Int32} {n : Nat → Int32} (h : RC nC C W H n) : ∀ i, i < nC → n (1264 + i) = W i := h.2.2.2.1
theorem RC.h {nC : Nat} {C W H : Nat → Int32} {n : Nat → Int32} (h : RC nC C W H n) : ∀ i, i < nC → n (1270 + i) = H i := h.2.2.2.2
def RR (cnt : Nat → Nat) (K D A B : Nat → Int32) (n : Nat → Int32) : Prop := (∀ c, c < 4 → cnt c ≤ 20 ∧ K c = nI (cnt c)) ∧ (∀ c, c < 4 → n (1020 + c) = nI (cnt c)) ∧ (∀ c, c < 4 → ∀ k, k < cnt c → (∃ x, x ≤ 999 ∧ D (20 * c + k) = nI x) ∧ n (1024 + (20 * c + k)) = D (20 * c + k)) ∧ (∀ c, c < 4 → ∀ k, k < cnt c → (∃ x, 1 ≤ x ∧ x ≤ 999 ∧ A (20 * c + k) = nI x) ∧ n (1104 + (20 * c + k)) = A (20 * c + k)) ∧ (∀ c, c < 4 → ∀ k, k < cnt c → (∃ x, 1 ≤ x ∧ x ≤ 999 ∧ B (20 * c + k) = nI x) ∧ n (1184 + (20 * c + k)) = B (20 * c + k))
theorem RR.t {cnt : Nat → Nat} {K D A B : Nat → Int32} {n : Nat → Int32} (h : RR cnt K D A B n) : ∀ c, c < 4 → cnt c ≤ 20 ∧ K c = nI (cnt c) := h.1
theorem RR.m {cnt : Nat → Nat} {K D A B : Nat → Int32} {n : Nat → Int32} (h : RR cnt K D A B n) : ∀ c, c < 4 → n (1020 + c) = nI (cnt c) := h.2.1
theorem RR.d {cnt : Nat → Nat} {K D A B : Nat → Int32} {n : Nat → Int32} (h : RR cnt K D A B n) : ∀ c, c < 4 → ∀ k, k < cnt c → (∃ x, x ≤ 999 ∧ D (20 * c + k) = nI x) ∧ n (1024 + (20 * c + k)) = D (20 * c + k) := h.2.2.1
theorem RR.a {cnt : Nat → Nat} {K D A B : Nat → Int32} {n : Nat → Int32} (h : RR cnt K D A B n) : ∀ c, c < 4 → ∀ k, k < cnt c → (∃ x, 1 ≤ x ∧ x ≤ 999 ∧ A (20 * c + k) = nI x) ∧ n (1104 + (20 * c + k)) = A (20 * c + k) := h.2.2.2.1
theorem RR.b {cnt : Nat → Nat} {K D A B : Nat → Int32} {n : Nat → Int32} (h : RR cnt K D A B n) : ∀ c, c < 4 → ∀ k, k < cnt c → (∃ x, 1 ≤ x ∧ x ≤ 999 ∧ B (20 * c + k) = nI x) ∧ n (1184 + (20 * c + k)) = B (20 * c + k) := h.2.2.2.2
abbrev zD : Type := (Nat) × (Nat) × (Nat) × (Nat) × (Nat) × (Nat) × (Nat → Nat) × (Nat → Nat) × (Nat → Nat) × (Nat → Nat) × (Nat → Nat) × (Option Nat)
abbrev zD.nA (d : zD) : Nat := d.1
abbrev zD.nJ (d : zD) : Nat := d.2.1
abbrev zD.nP (d : zD) : Nat := d.2.2.1
abbrev zD.day (d : zD) : Nat := d.2.2.2.1
abbrev zD.cl (d : zD) : Nat := d.2.2.2.2.1
abbrev zD.nC (d : zD) : Nat := d.2.2.2.2.2.1
abbrev zD.p (d : zD) : Nat → Nat := d.2.2.2.2.2.2.1
abbrev zD.sz (d : zD) : Nat → Nat := d.2.2.2.2.2.2.2.1
abbrev zD.fs (d : zD) : Nat → Nat := d.2.2.2.2.2.2.2.2.1
abbrev zD.dy (d : zD) : Nat → Nat := d.2.2.2.2.2.2.2.2.2.1
abbrev zD.cnt (d : zD) : Nat → Nat := d.2.2.2.2.2.2.2.2.2.2.1
abbrev zD.op (d : zD) : Option Nat := d.2.2.2.2.2.2.2.2.2.2.2
/-- all that an image holds: the Book's rows of the class and the rows n, l of the model -/
def RB (d : zD) (B C P U S J Jd Jz Jv Jw Ja Jm Rc Rd Ra Rb Cc Cw Ch Oz Oa Om : Nat → Int32) (F G T E : Nat → Int64) (n : Nat → Int32) (l : Nat → Int64) : Prop := (RA d.nA d.p C P U S F G T n l) ∧ (RJ d.nA d.nJ d.nP d.day d.sz d.fs d.dy J Jd Jz Jv Jw Ja Jm n l) ∧ (RO d.nA d.nJ d.nP d.op B Oz Oa Om n l) ∧ (RD d.day d.cl B E n l) ∧ (RC d.nC Cc Cw Ch n) ∧ (RR d.cnt Rc Rd Ra Rb n)
theorem RB.ra {d : zD} {B C P U S J Jd Jz Jv Jw Ja Jm Rc Rd Ra Rb Cc Cw Ch Oz Oa Om : Nat → Int32} {F G T E : Nat → Int64} {n : Nat → Int32} {l : Nat → Int64} (h : RB d B C P U S J Jd Jz Jv Jw Ja Jm Rc Rd Ra Rb Cc Cw Ch Oz Oa Om F G T E n l) : RA d.nA d.p C P U S F G T n l := h.1
theorem RB.rj {d : zD} {B C P U S J Jd Jz Jv Jw Ja Jm Rc Rd Ra Rb Cc Cw Ch Oz Oa Om : Nat → Int32} {F G T E : Nat → Int64} {n : Nat → Int32} {l : Nat → Int64} (h : RB d B C P U S J Jd Jz Jv Jw Ja Jm Rc Rd Ra Rb Cc Cw Ch Oz Oa Om F G T E n l) : RJ d.nA d.nJ d.nP d.day d.sz d.fs d.dy J Jd Jz Jv Jw Ja Jm n l := h.2.1
theorem RB.ro {d : zD} {B C P U S J Jd Jz Jv Jw Ja Jm Rc Rd Ra Rb Cc Cw Ch Oz Oa Om : Nat → Int32} {F G T E : Nat → Int64} {n : Nat → Int32} {l : Nat → Int64} (h : RB d B C P U S J Jd Jz Jv Jw Ja Jm Rc Rd Ra Rb Cc Cw Ch Oz Oa Om F G T E n l) : RO d.nA d.nJ d.nP d.op B Oz Oa Om n l := h.2.2.1
theorem RB.rd {d : zD} {B C P U S J Jd Jz Jv Jw Ja Jm Rc Rd Ra Rb Cc Cw Ch Oz Oa Om : Nat → Int32} {F G T E : Nat → Int64} {n : Nat → Int32} {l : Nat → Int64} (h : RB d B C P U S J Jd Jz Jv Jw Ja Jm Rc Rd Ra Rb Cc Cw Ch Oz Oa Om F G T E n l) : RD d.day d.cl B E n l := h.2.2.2.1
theorem RB.rc {d : zD} {B C P U S J Jd Jz Jv Jw Ja Jm Rc Rd Ra Rb Cc Cw Ch Oz Oa Om : Nat → Int32} {F G T E : Nat → Int64} {n : Nat → Int32} {l : Nat → Int64} (h : RB d B C P U S J Jd Jz Jv Jw Ja Jm Rc Rd Ra Rb Cc Cw Ch Oz Oa Om F G T E n l) : RC d.nC Cc Cw Ch n := h.2.2.2.2.1
theorem RB.rr {d : zD} {B C P U S J Jd Jz Jv Jw Ja Jm Rc Rd Ra Rb Cc Cw Ch Oz Oa Om : Nat → Int32} {F G T E : Nat → Int64} {n : Nat → Int32} {l : Nat → Int64} (h : RB d B C P U S J Jd Jz Jv Jw Ja Jm Rc Rd Ra Rb Cc Cw Ch Oz Oa Om F G T E n l) : RR d.cnt Rc Rd Ra Rb n := h.2.2.2.2.2
/-- the tape, the paper, the lists -/
def RT (tn : Nat) (T B : Nat → Int32) (X t : Nat → Int32) : Prop := (tn ≤ 90) ∧ (T 0 = nI tn) ∧ (X 9 = nI tn) ∧ (∀ k, k < tn → (∃ x, 1 ≤ x ∧ x ≤ 127 ∧ B k = nI x) ∧ t k = B k)
theorem RT.t90 {tn : Nat} {T B : Nat → Int32} {X t : Nat → Int32} (h : RT tn T B X t) : tn ≤ 90 := h.1
theorem RT.c {tn : Nat} {T B : Nat → Int32} {X t : Nat → Int32} (h : RT tn T B X t) : T 0 = nI tn := h.2.1
theorem RT.m {tn : Nat} {T B : Nat → Int32} {X t : Nat → Int32} (h : RT tn T B X t) : X 9 = nI tn := h.2.2.1
theorem RT.b {tn : Nat} {T B : Nat → Int32} {X t : Nat → Int32} (h : RT tn T B X t) : ∀ k, k < tn → (∃ x, 1 ≤ x ∧ x ≤ 127 ∧ B k = nI x) ∧ t k = B k := h.2.2.2
def RP (pn : Nat) (T B : Nat → Int32) (X t : Nat → Int32) : Prop := (pn ≤ 125) ∧ (T 0 = nI pn) ∧ (X 17 = nI pn) ∧ (∀ k, k < pn → t k = B k)
theorem RP.p125 {pn : Nat} {T B : Nat → Int32} {X t : Nat → Int32} (h : RP pn T B X t) : pn ≤ 125 := h.1
theorem RP.c {pn : Nat} {T B : Nat → Int32} {X t : Nat → Int32} (h : RP pn T B X t) : T 0 = nI pn := h.2.1
theorem RP.m {pn : Nat} {T B : Nat → Int32} {X t : Nat → Int32} (h : RP pn T B X t) : X 17 = nI pn := h.2.2.1
theorem RP.b {pn : Nat} {T B : Nat → Int32} {X t : Nat → Int32} (h : RP pn T B X t) : ∀ k, k < pn → t k = B k := h.2.2.2
def RL (S H Z : Nat → Int32) (P Q : Nat → Int64) : Prop := (∀ i, i < 4 → (S i = -5 ∧ H i = 0) ∨ ∃ k, k ≤ 40 ∧ S i = nI k ∧ H i = 1 ∧ Z i = nI k ∧ ∀ x, x < k → Q (40 * i + x) = P (40 * i + x))
theorem RL.s {S H Z : Nat → Int32} {P Q : Nat → Int64} (h : RL S H Z P Q) : ∀ i, i < 4 → (S i = -5 ∧ H i = 0) ∨ ∃ k, k ≤ 40 ∧ S i = nI k ∧ H i = 1 ∧ Z i = nI k ∧ ∀ x, x < k → Q (40 * i + x) = P (40 * i + x) := h
def rBook (d : zD) (I : zI) (L : zL) (J : zI) (K : zL) : Prop := RB d (I 1) (I 2) (I 3) (I 4) (I 5) (I 9) (I 10) (I 11) (I 12) (I 13) (I 14) (I 15) (I 17) (I 18) (I 19) (I 20) (I 21) (I 22) (I 23) (I 24) (I 25) (I 26) (L 6) (L 7) (L 8) (L 27) (J 40) (K 41)
def rKept (d : zD) (I : zI) (L : zL) : Prop := RB d (I 51) (I 52) (I 53) (I 54) (I 55) (I 59) (I 60) (I 61) (I 62) (I 63) (I 64) (I 65) (I 67) (I 68) (I 69) (I 70) (I 71) (I 72) (I 73) (I 74) (I 75) (I 76) (L 56) (L 57) (L 58) (L 77) (I 42) (L 43)
abbrev rA (d : zD) (I : zI) (L : zL) (J : zI) (K : zL) : Prop := RA d.nA d.p (I 2) (I 3) (I 4) (I 5) (L 6) (L 7) (L 8) (J 40) (K 41)
abbrev rJ (d : zD) (I : zI) (J : zI) (K : zL) : Prop := RJ d.nA d.nJ d.nP d.day d.sz d.fs d.dy (I 9) (I 10) (I 11) (I 12) (I 13) (I 14) (I 15) (J 40) (K 41)
/-- all beside the book -/
def rRest (im : Option Nat) (tl : List zS) (I : zI) (L : zL) : Prop := (∃ tn, RT tn (I 31) (I 32) (I 39) (I 44)) ∧ (∃ pn, RP pn (I 33) (I 34) (I 39) (I 47)) ∧ (RL (I 36) (I 48) (I 49) (L 37) (L 50)) ∧ ((im = none ∧ tl = [] ∧ I 39 3 = 0) ∨ (im = some 51 ∧ tl = zTL ∧ I 39 3 = 1 ∧ ∃ d, rKept d I L))
theorem rRest.t {im : Option Nat} {tl : List zS} {I : zI} {L : zL} (h : rRest im tl I L) : ∃ tn, RT tn (I 31) (I 32) (I 39) (I 44) := h.1
theorem rRest.p {im : Option Nat} {tl : List zS} {I : zI} {L : zL} (h : rRest im tl I L) : ∃ pn, RP pn (I 33) (I 34) (I 39) (I 47) := h.2.1
theorem rRest.l {im : Option Nat} {tl : List zS} {I : zI} {L : zL} (h : rRest im tl I L) : RL (I 36) (I 48) (I 49) (L 37) (L 50) := h.2.2.1
theorem rRest.i {im : Option Nat} {tl : List zS} {I : zI} {L : zL} (h : rRest im tl I L) : (im = none ∧ tl = [] ∧ I 39 3 = 0) ∨ (im = some 51 ∧ tl = zTL ∧ I 39 3 = 1 ∧ ∃ d, rKept d I L) := h.2.2.2
def rAll (d : zD) (im : Option Nat) (tl : List zS) (I : zI) (L : zL) : Prop := rBook d I L I L ∧ rRest im tl I L
/-- a call of the class and then the same of the model: the same int, and all is related again -/
def zOpI (X : zSc) (im : Option Nat) (tl : List zS) (I : zI) (L : zL) (mc mm : zMt) (lc lm : List Value) : Prop := ∃ (v : Int32) (I1 : zI) (L1 : zL) (I2 : zI) (L2 : zL) (d : zD), zEv X mc 0 lc [] (zSH im tl, I, L) (some (.int v), (zSH im tl, I1, L1)) ∧ zEv X mm 0 lm [] (zSH im tl, I1, L1) (some (.int v), (zSH im tl, I2, L2)) ∧ rAll d im tl I2 L2
def zOpL (X : zSc) (im : Option Nat) (tl : List zS) (I : zI) (L : zL) (mc mm : zMt) (lc lm : List Value) : Prop := ∃ (v : Int64) (I1 : zI) (L1 : zL) (I2 : zI) (L2 : zL) (d : zD), zEv X mc 0 lc [] (zSH im tl, I, L) (some (.long v), (zSH im tl, I1, L1)) ∧ zEv X mm 0 lm [] (zSH im tl, I1, L1) (some (.long v), (zSH im tl, I2, L2)) ∧ rAll d im tl I2 L2
theorem kx (x : Int32) {a k : Nat} (hx : x = nI a) (h : a + k < 2 ^ 31) : (x + nI k).toNatClampNeg = a + k := by rw [hx, nI_add, kc h]
theorem zb1 (b : Bool) : zbi1 b = 0 ∨ zbi1 b = 1 := by cases b <;> decide
theorem nI_sub1 {n : Nat} (h : 1 ≤ n) : nI n - 1 = nI (n - 1) := by
  obtain ⟨m, rfl⟩ : ∃ m, n = m + 1 := ⟨n - 1, by omega⟩
  rw [nI_pred, Nat.add_sub_cancel]
