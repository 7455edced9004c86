/-! what both hold: the state of THE TABLE and of all else, apart from how it lies in the heap -/
/-- an image: counts (0 lines, 1 chips, 2 notes, 3 seen, 4 events, 5 book), numbers (0 the table, 4 i + j; 1 the vector), rows of three -/
abbrev Co := (Nat → Nat) × (Nat → Nat → Int64) × (Nat → Nat → Nat → Int32)
abbrev Co.n (c : Co) : Nat := c.1 0
abbrev Co.m (c : Co) (k : Nat) : Nat := c.1 k
abbrev Co.E (c : Co) : Nat → Int64 := c.2.1 0
abbrev Co.V (c : Co) : Nat → Int64 := c.2.1 1
abbrev Co.r (c : Co) (k : Nat) : Nat → Nat → Int32 := c.2.2 k
/-- all: an image, the one that was taken, the text, tapes (sort and one, length, items) -/
abbrev St := Co × Option Co × (Nat × (Nat → Int32)) × (Nat → Nat) × (Nat → Nat) × (Nat → Nat → Int64)
abbrev St.c (s : St) : Co := s.1
abbrev St.im (s : St) : Option Co := s.2.1
abbrev St.tm (s : St) : Nat := s.2.2.1.1
abbrev St.tx (s : St) : Nat → Int32 := s.2.2.1.2
abbrev St.ts (s : St) : Nat → Nat := s.2.2.2.1
abbrev St.th (s : St) : Nat → Nat := s.2.2.2.2.1
abbrev St.ti (s : St) : Nat → Nat → Int64 := s.2.2.2.2.2
/-- rows in the class -/
def RR (τ : Nat → Int32) (A : Nat → Nat → Int32) (o m : Nat) (f : Nat → Nat → Int32) : Prop := (τ (100 * o + 2) = nI m) ∧ (∀ k w, k < m → w < 3 → A (o + 1) (3 * k + w) = f k w)
theorem RR.h {τ : Nat → Int32} {A : Nat → Nat → Int32} {o m : Nat} {f : Nat → Nat → Int32} (h : RR τ A o m f) : τ (100 * o + 2) = nI m := h.1
theorem RR.r {τ : Nat → Int32} {A : Nat → Nat → Int32} {o m : Nat} {f : Nat → Nat → Int32} (h : RR τ A o m f) : ∀ k w, k < m → w < 3 → A (o + 1) (3 * k + w) = f k w := h.2
theorem RR.mk {τ : Nat → Int32} {A : Nat → Nat → Int32} {o m : Nat} {f : Nat → Nat → Int32} (x0 : τ (100 * o + 2) = nI m) (x1 : ∀ k w, k < m → w < 3 → A (o + 1) (3 * k + w) = f k w) : RR τ A o m f := ⟨x0, x1⟩
/-- a scene of the class, p = 0 or 15 -/
def RS (p : Nat) (c : Co) (τ : Nat → Int32) (A : Nat → Nat → Int32) (B : Nat → Nat → Int64) : Prop := (τ (100 * (p + 3) + 2) = nI c.n) ∧ (∀ i j, i < c.n → j < c.n → B (p + 4) (4 * i + j) = c.E (4 * i + j)) ∧ (∀ i, i < 4 → B (p + 8) i = c.V i) ∧ (RR τ A (p + 6) (c.m 1) (c.r 1)) ∧ (RR τ A (p + 9) (c.m 2) (c.r 2)) ∧ (RR τ A (p + 11) (c.m 3) (c.r 3)) ∧ (RR τ A (p + 13) (c.m 4) (c.r 4)) ∧ (RR τ A (p + 15) (c.m 5) (c.r 5))
theorem RS.n {p : Nat} {c : Co} {τ : Nat → Int32} {A : Nat → Nat → Int32} {B : Nat → Nat → Int64} (h : RS p c τ A B) : τ (100 * (p + 3) + 2) = nI c.n := h.1
theorem RS.E {p : Nat} {c : Co} {τ : Nat → Int32} {A : Nat → Nat → Int32} {B : Nat → Nat → Int64} (h : RS p c τ A B) : ∀ i j, i < c.n → j < c.n → B (p + 4) (4 * i + j) = c.E (4 * i + j) := h.2.1
theorem RS.V {p : Nat} {c : Co} {τ : Nat → Int32} {A : Nat → Nat → Int32} {B : Nat → Nat → Int64} (h : RS p c τ A B) : ∀ i, i < 4 → B (p + 8) i = c.V i := h.2.2.1
theorem RS.chip {p : Nat} {c : Co} {τ : Nat → Int32} {A : Nat → Nat → Int32} {B : Nat → Nat → Int64} (h : RS p c τ A B) : RR τ A (p + 6) (c.m 1) (c.r 1) := h.2.2.2.1
theorem RS.note {p : Nat} {c : Co} {τ : Nat → Int32} {A : Nat → Nat → Int32} {B : Nat → Nat → Int64} (h : RS p c τ A B) : RR τ A (p + 9) (c.m 2) (c.r 2) := h.2.2.2.2.1
theorem RS.seen {p : Nat} {c : Co} {τ : Nat → Int32} {A : Nat → Nat → Int32} {B : Nat → Nat → Int64} (h : RS p c τ A B) : RR τ A (p + 11) (c.m 3) (c.r 3) := h.2.2.2.2.2.1
theorem RS.event {p : Nat} {c : Co} {τ : Nat → Int32} {A : Nat → Nat → Int32} {B : Nat → Nat → Int64} (h : RS p c τ A B) : RR τ A (p + 13) (c.m 4) (c.r 4) := h.2.2.2.2.2.2.1
theorem RS.book {p : Nat} {c : Co} {τ : Nat → Int32} {A : Nat → Nat → Int32} {B : Nat → Nat → Int64} (h : RS p c τ A B) : RR τ A (p + 15) (c.m 5) (c.r 5) := h.2.2.2.2.2.2.2
theorem RS.mk {p : Nat} {c : Co} {τ : Nat → Int32} {A : Nat → Nat → Int32} {B : Nat → Nat → Int64} (x0 : τ (100 * (p + 3) + 2) = nI c.n) (x1 : ∀ i j, i < c.n → j < c.n → B (p + 4) (4 * i + j) = c.E (4 * i + j)) (x2 : ∀ i, i < 4 → B (p + 8) i = c.V i) (x3 : RR τ A (p + 6) (c.m 1) (c.r 1)) (x4 : RR τ A (p + 9) (c.m 2) (c.r 2)) (x5 : RR τ A (p + 11) (c.m 3) (c.r 3)) (x6 : RR τ A (p + 13) (c.m 4) (c.r 4)) (x7 : RR τ A (p + 15) (c.m 5) (c.r 5)) : RS p c τ A B := ⟨x0, x1, x2, x3, x4, x5, x6, x7⟩
def RX (s : St) (τ : Nat → Int32) (A : Nat → Nat → Int32) (B : Nat → Nat → Int64) : Prop := (RS 0 s.c τ A B) ∧ (s.im = none → τ 102 = nI 0) ∧ (∀ c, s.im = some c → τ 102 = nI 1 ∧ RS 15 c τ A B) ∧ (τ 3802 = nI s.tm) ∧ (∀ k, k < s.tm → A 39 k = s.tx k) ∧ (∀ t, t < 6 → τ (100 * (46 + 2 * t) + 1) = sI (s.ts t)) ∧ (∀ t, t < 6 → τ (100 * (46 + 2 * t) + 2) = nI (s.th t)) ∧ (∀ t j, t < 6 → j < 60 → B (47 + 2 * t) j = s.ti t j)
theorem RX.now {s : St} {τ : Nat → Int32} {A : Nat → Nat → Int32} {B : Nat → Nat → Int64} (h : RX s τ A B) : RS 0 s.c τ A B := h.1
theorem RX.im0 {s : St} {τ : Nat → Int32} {A : Nat → Nat → Int32} {B : Nat → Nat → Int64} (h : RX s τ A B) : s.im = none → τ 102 = nI 0 := h.2.1
theorem RX.im1 {s : St} {τ : Nat → Int32} {A : Nat → Nat → Int32} {B : Nat → Nat → Int64} (h : RX s τ A B) : ∀ c, s.im = some c → τ 102 = nI 1 ∧ RS 15 c τ A B := h.2.2.1
theorem RX.th {s : St} {τ : Nat → Int32} {A : Nat → Nat → Int32} {B : Nat → Nat → Int64} (h : RX s τ A B) : τ 3802 = nI s.tm := h.2.2.2.1
theorem RX.tx {s : St} {τ : Nat → Int32} {A : Nat → Nat → Int32} {B : Nat → Nat → Int64} (h : RX s τ A B) : ∀ k, k < s.tm → A 39 k = s.tx k := h.2.2.2.2.1
theorem RX.ts {s : St} {τ : Nat → Int32} {A : Nat → Nat → Int32} {B : Nat → Nat → Int64} (h : RX s τ A B) : ∀ t, t < 6 → τ (100 * (46 + 2 * t) + 1) = sI (s.ts t) := h.2.2.2.2.2.1
theorem RX.tl {s : St} {τ : Nat → Int32} {A : Nat → Nat → Int32} {B : Nat → Nat → Int64} (h : RX s τ A B) : ∀ t, t < 6 → τ (100 * (46 + 2 * t) + 2) = nI (s.th t) := h.2.2.2.2.2.2.1
theorem RX.ti {s : St} {τ : Nat → Int32} {A : Nat → Nat → Int32} {B : Nat → Nat → Int64} (h : RX s τ A B) : ∀ t j, t < 6 → j < 60 → B (47 + 2 * t) j = s.ti t j := h.2.2.2.2.2.2.2
theorem RX.mk {s : St} {τ : Nat → Int32} {A : Nat → Nat → Int32} {B : Nat → Nat → Int64} (x0 : RS 0 s.c τ A B) (x1 : s.im = none → τ 102 = nI 0) (x2 : ∀ c, s.im = some c → τ 102 = nI 1 ∧ RS 15 c τ A B) (x3 : τ 3802 = nI s.tm) (x4 : ∀ k, k < s.tm → A 39 k = s.tx k) (x5 : ∀ t, t < 6 → τ (100 * (46 + 2 * t) + 1) = sI (s.ts t)) (x6 : ∀ t, t < 6 → τ (100 * (46 + 2 * t) + 2) = nI (s.th t)) (x7 : ∀ t j, t < 6 → j < 60 → B (47 + 2 * t) j = s.ti t j) : RX s τ A B := ⟨x0, x1, x2, x3, x4, x5, x6, x7⟩
/-- the reference -/
def RM (s : St) (τ : Nat → Int32) (A : Nat → Nat → Int32) (B : Nat → Nat → Int64) : Prop := (τ 5800 = nI s.c.n) ∧ (∀ i j, i < s.c.n → j < s.c.n → (A 59 (4 * i + j)).toInt64 = s.c.E (4 * i + j)) ∧ (∀ i, i < 4 → (A 60 i).toInt64 = s.c.V i) ∧ (τ 5808 = nI (s.c.m 1)) ∧ (∀ k, k < (s.c.m 1) → A 65 k = (s.c.r 1) k 0 ∧ A 66 k = (s.c.r 1) k 1 ∧ A 67 k = (s.c.r 1) k 2) ∧ (τ 5805 = nI (s.c.m 2)) ∧ (∀ k, k < (s.c.m 2) → A 62 k = nI 100 * (s.c.r 2) k 0 + (s.c.r 2) k 1) ∧ (τ 5826 = nI (s.c.m 3)) ∧ (∀ k, k < (s.c.m 3) → A 75 k = (s.c.r 3) k 0 ∧ A 76 k = (s.c.r 3) k 1 ∧ A 77 k = (s.c.r 3) k 2) ∧ (τ 5829 = nI (s.c.m 4)) ∧ (∀ k, k < (s.c.m 4) → A 78 k = (s.c.r 4) k 0 ∧ A 79 k = (s.c.r 4) k 1) ∧ (τ 5832 = nI (s.c.m 5)) ∧ (∀ k, k < (s.c.m 5) → A 80 k = (s.c.r 5) k 0 ∧ A 81 k = (s.c.r 5) k 1) ∧ (τ 5815 = nI s.tm) ∧ (∀ k, k < s.tm → A 70 k = s.tx k) ∧ (∀ t, t < 6 → A 82 t = nI (s.ts t)) ∧ (∀ t, t < 6 → A 83 t = nI (s.th t)) ∧ (∀ t j, t < 6 → j < 60 → B 84 (60 * t + j) = s.ti t j) ∧ (s.im = none → τ 5837 = nI 0) ∧ (∀ c, s.im = some c → τ 5837 = nI c.n ∧ (∀ i j, i < c.n → j < c.n → (A 86 (4 * i + j)).toInt64 = c.E (4 * i + j)) ∧ (∀ i, i < 4 → (A 87 i).toInt64 = c.V i) ∧ (τ 5845 = nI (c.m 1) ∧ ∀ k w, k < (c.m 1) → w < 3 → A 88 (3 * k + w) = (c.r 1) k w) ∧ (τ 5846 = nI (c.m 2) ∧ ∀ k, k < (c.m 2) → A 89 k = nI 100 * (c.r 2) k 0 + (c.r 2) k 1) ∧ (τ 5847 = nI (c.m 3) ∧ ∀ k w, k < (c.m 3) → w < 3 → A 90 (3 * k + w) = (c.r 3) k w) ∧ (τ 5848 = nI (c.m 4) ∧ ∀ k w, k < (c.m 4) → w < 2 → A 91 (2 * k + w) = (c.r 4) k w) ∧ (τ 5849 = nI (c.m 5) ∧ ∀ k w, k < (c.m 5) → w < 2 → A 92 (2 * k + w) = (c.r 5) k w))
theorem RM.n {s : St} {τ : Nat → Int32} {A : Nat → Nat → Int32} {B : Nat → Nat → Int64} (h : RM s τ A B) : τ 5800 = nI s.c.n := h.1
theorem RM.E {s : St} {τ : Nat → Int32} {A : Nat → Nat → Int32} {B : Nat → Nat → Int64} (h : RM s τ A B) : ∀ i j, i < s.c.n → j < s.c.n → (A 59 (4 * i + j)).toInt64 = s.c.E (4 * i + j) := h.2.1
theorem RM.V {s : St} {τ : Nat → Int32} {A : Nat → Nat → Int32} {B : Nat → Nat → Int64} (h : RM s τ A B) : ∀ i, i < 4 → (A 60 i).toInt64 = s.c.V i := h.2.2.1
theorem RM.cm {s : St} {τ : Nat → Int32} {A : Nat → Nat → Int32} {B : Nat → Nat → Int64} (h : RM s τ A B) : τ 5808 = nI (s.c.m 1) := h.2.2.2.1
theorem RM.ck {s : St} {τ : Nat → Int32} {A : Nat → Nat → Int32} {B : Nat → Nat → Int64} (h : RM s τ A B) : ∀ k, k < (s.c.m 1) → A 65 k = (s.c.r 1) k 0 ∧ A 66 k = (s.c.r 1) k 1 ∧ A 67 k = (s.c.r 1) k 2 := h.2.2.2.2.1
theorem RM.nm {s : St} {τ : Nat → Int32} {A : Nat → Nat → Int32} {B : Nat → Nat → Int64} (h : RM s τ A B) : τ 5805 = nI (s.c.m 2) := h.2.2.2.2.2.1
theorem RM.nt {s : St} {τ : Nat → Int32} {A : Nat → Nat → Int32} {B : Nat → Nat → Int64} (h : RM s τ A B) : ∀ k, k < (s.c.m 2) → A 62 k = nI 100 * (s.c.r 2) k 0 + (s.c.r 2) k 1 := h.2.2.2.2.2.2.1
theorem RM.sm {s : St} {τ : Nat → Int32} {A : Nat → Nat → Int32} {B : Nat → Nat → Int64} (h : RM s τ A B) : τ 5826 = nI (s.c.m 3) := h.2.2.2.2.2.2.2.1
theorem RM.se {s : St} {τ : Nat → Int32} {A : Nat → Nat → Int32} {B : Nat → Nat → Int64} (h : RM s τ A B) : ∀ k, k < (s.c.m 3) → A 75 k = (s.c.r 3) k 0 ∧ A 76 k = (s.c.r 3) k 1 ∧ A 77 k = (s.c.r 3) k 2 := h.2.2.2.2.2.2.2.2.1
theorem RM.em {s : St} {τ : Nat → Int32} {A : Nat → Nat → Int32} {B : Nat → Nat → Int64} (h : RM s τ A B) : τ 5829 = nI (s.c.m 4) := h.2.2.2.2.2.2.2.2.2.1
theorem RM.ev {s : St} {τ : Nat → Int32} {A : Nat → Nat → Int32} {B : Nat → Nat → Int64} (h : RM s τ A B) : ∀ k, k < (s.c.m 4) → A 78 k = (s.c.r 4) k 0 ∧ A 79 k = (s.c.r 4) k 1 := h.2.2.2.2.2.2.2.2.2.2.1
theorem RM.bm {s : St} {τ : Nat → Int32} {A : Nat → Nat → Int32} {B : Nat → Nat → Int64} (h : RM s τ A B) : τ 5832 = nI (s.c.m 5) := h.2.2.2.2.2.2.2.2.2.2.2.1
theorem RM.bk {s : St} {τ : Nat → Int32} {A : Nat → Nat → Int32} {B : Nat → Nat → Int64} (h : RM s τ A B) : ∀ k, k < (s.c.m 5) → A 80 k = (s.c.r 5) k 0 ∧ A 81 k = (s.c.r 5) k 1 := h.2.2.2.2.2.2.2.2.2.2.2.2.1
theorem RM.tm {s : St} {τ : Nat → Int32} {A : Nat → Nat → Int32} {B : Nat → Nat → Int64} (h : RM s τ A B) : τ 5815 = nI s.tm := h.2.2.2.2.2.2.2.2.2.2.2.2.2.1
theorem RM.tx {s : St} {τ : Nat → Int32} {A : Nat → Nat → Int32} {B : Nat → Nat → Int64} (h : RM s τ A B) : ∀ k, k < s.tm → A 70 k = s.tx k := h.2.2.2.2.2.2.2.2.2.2.2.2.2.2.1
theorem RM.ts {s : St} {τ : Nat → Int32} {A : Nat → Nat → Int32} {B : Nat → Nat → Int64} (h : RM s τ A B) : ∀ t, t < 6 → A 82 t = nI (s.ts t) := h.2.2.2.2.2.2.2.2.2.2.2.2.2.2.2.1
theorem RM.tl {s : St} {τ : Nat → Int32} {A : Nat → Nat → Int32} {B : Nat → Nat → Int64} (h : RM s τ A B) : ∀ t, t < 6 → A 83 t = nI (s.th t) := h.2.2.2.2.2.2.2.2.2.2.2.2.2.2.2.2.1
theorem RM.ti {s : St} {τ : Nat → Int32} {A : Nat → Nat → Int32} {B : Nat → Nat → Int64} (h : RM s τ A B) : ∀ t j, t < 6 → j < 60 → B 84 (60 * t + j) = s.ti t j := h.2.2.2.2.2.2.2.2.2.2.2.2.2.2.2.2.2.1
theorem RM.im0 {s : St} {τ : Nat → Int32} {A : Nat → Nat → Int32} {B : Nat → Nat → Int64} (h : RM s τ A B) : s.im = none → τ 5837 = nI 0 := h.2.2.2.2.2.2.2.2.2.2.2.2.2.2.2.2.2.2.1
theorem RM.im1 {s : St} {τ : Nat → Int32} {A : Nat → Nat → Int32} {B : Nat → Nat → Int64} (h : RM s τ A B) : ∀ c, s.im = some c → τ 5837 = nI c.n ∧ (∀ i j, i < c.n → j < c.n → (A 86 (4 * i + j)).toInt64 = c.E (4 * i + j)) ∧ (∀ i, i < 4 → (A 87 i).toInt64 = c.V i) ∧ (τ 5845 = nI (c.m 1) ∧ ∀ k w, k < (c.m 1) → w < 3 → A 88 (3 * k + w) = (c.r 1) k w) ∧ (τ 5846 = nI (c.m 2) ∧ ∀ k, k < (c.m 2) → A 89 k = nI 100 * (c.r 2) k 0 + (c.r 2) k 1) ∧ (τ 5847 = nI (c.m 3) ∧ ∀ k w, k < (c.m 3) → w < 3 → A 90 (3 * k + w) = (c.r 3) k w) ∧ (τ 5848 = nI (c.m 4) ∧ ∀ k w, k < (c.m 4) → w < 2 → A 91 (2 * k + w) = (c.r 4) k w) ∧ (τ 5849 = nI (c.m 5) ∧ ∀ k w, k < (c.m 5) → w < 2 → A 92 (2 * k + w) = (c.r 5) k w) := h.2.2.2.2.2.2.2.2.2.2.2.2.2.2.2.2.2.2.2
theorem RM.mk {s : St} {τ : Nat → Int32} {A : Nat → Nat → Int32} {B : Nat → Nat → Int64} (x0 : τ 5800 = nI s.c.n) (x1 : ∀ i j, i < s.c.n → j < s.c.n → (A 59 (4 * i + j)).toInt64 = s.c.E (4 * i + j)) (x2 : ∀ i, i < 4 → (A 60 i).toInt64 = s.c.V i) (x3 : τ 5808 = nI (s.c.m 1)) (x4 : ∀ k, k < (s.c.m 1) → A 65 k = (s.c.r 1) k 0 ∧ A 66 k = (s.c.r 1) k 1 ∧ A 67 k = (s.c.r 1) k 2) (x5 : τ 5805 = nI (s.c.m 2)) (x6 : ∀ k, k < (s.c.m 2) → A 62 k = nI 100 * (s.c.r 2) k 0 + (s.c.r 2) k 1) (x7 : τ 5826 = nI (s.c.m 3)) (x8 : ∀ k, k < (s.c.m 3) → A 75 k = (s.c.r 3) k 0 ∧ A 76 k = (s.c.r 3) k 1 ∧ A 77 k = (s.c.r 3) k 2) (x9 : τ 5829 = nI (s.c.m 4)) (x10 : ∀ k, k < (s.c.m 4) → A 78 k = (s.c.r 4) k 0 ∧ A 79 k = (s.c.r 4) k 1) (x11 : τ 5832 = nI (s.c.m 5)) (x12 : ∀ k, k < (s.c.m 5) → A 80 k = (s.c.r 5) k 0 ∧ A 81 k = (s.c.r 5) k 1) (x13 : τ 5815 = nI s.tm) (x14 : ∀ k, k < s.tm → A 70 k = s.tx k) (x15 : ∀ t, t < 6 → A 82 t = nI (s.ts t)) (x16 : ∀ t, t < 6 → A 83 t = nI (s.th t)) (x17 : ∀ t j, t < 6 → j < 60 → B 84 (60 * t + j) = s.ti t j) (x18 : s.im = none → τ 5837 = nI 0) (x19 : ∀ c, s.im = some c → τ 5837 = nI c.n ∧ (∀ i j, i < c.n → j < c.n → (A 86 (4 * i + j)).toInt64 = c.E (4 * i + j)) ∧ (∀ i, i < 4 → (A 87 i).toInt64 = c.V i) ∧ (τ 5845 = nI (c.m 1) ∧ ∀ k w, k < (c.m 1) → w < 3 → A 88 (3 * k + w) = (c.r 1) k w) ∧ (τ 5846 = nI (c.m 2) ∧ ∀ k, k < (c.m 2) → A 89 k = nI 100 * (c.r 2) k 0 + (c.r 2) k 1) ∧ (τ 5847 = nI (c.m 3) ∧ ∀ k w, k < (c.m 3) → w < 3 → A 90 (3 * k + w) = (c.r 3) k w) ∧ (τ 5848 = nI (c.m 4) ∧ ∀ k w, k < (c.m 4) → w < 2 → A 91 (2 * k + w) = (c.r 4) k w) ∧ (τ 5849 = nI (c.m 5) ∧ ∀ k w, k < (c.m 5) → w < 2 → A 92 (2 * k + w) = (c.r 5) k w)) : RM s τ A B := ⟨x0, x1, x2, x3, x4, x5, x6, x7, x8, x9, x10, x11, x12, x13, x14, x15, x16, x17, x18, x19⟩
def bd (x : Int64) (b : Int) : Prop := -b ≤ x.toInt ∧ x.toInt ≤ b
/-- what is always so -/
def IC (c : Co) : Prop := (2 ≤ c.n) ∧ (c.n ≤ 4) ∧ (∀ i j, i < c.n → j < c.n → bd (c.E (4 * i + j)) 99) ∧ (∀ i, i < 4 → bd (c.V i) 9) ∧ (∀ i, c.n ≤ i → i < 4 → c.V i = 0) ∧ ((c.m 1) ≤ 12) ∧ (∀ k, k < (c.m 1) → ∃ a i v : Nat, (c.r 1) k 0 = nI a ∧ (c.r 1) k 1 = nI i ∧ (c.r 1) k 2 = nI v ∧ a < 3 ∧ (if a = 2 then i < c.n else i + 1 < c.n) ∧ 1 ≤ v ∧ v ≤ 9) ∧ ((c.m 2) ≤ 69) ∧ (∀ k, k < (c.m 2) → ∃ R C : Nat, (c.r 2) k 0 = nI R ∧ (c.r 2) k 1 = nI C ∧ 1 ≤ R ∧ R < 2 ^ c.n ∧ 1 ≤ C ∧ C < 2 ^ c.n ∧ pop4 R = pop4 C) ∧ (∀ k l, k < l → l < (c.m 2) → ¬ ((c.r 2) k 0 = (c.r 2) l 0 ∧ (c.r 2) k 1 = (c.r 2) l 1)) ∧ ((c.m 3) ≤ 4) ∧ (∀ k, k < (c.m 3) → ∃ R C : Nat, (c.r 3) k 0 = nI R ∧ (c.r 3) k 1 = nI C ∧ R < 16 ∧ C < 16) ∧ ((c.m 4) ≤ 8) ∧ (∀ k, k < (c.m 4) → ∃ a : Nat, (c.r 4) k 0 = nI a ∧ a < 4 ∧ (a < 2 → ∃ i j, i < 4 ∧ j < 4 ∧ (c.r 4) k 1 = nI (10 * i + j)) ∧ (a = 2 → ∃ r, r < 3 ∧ (c.r 4) k 1 = nI r)) ∧ ((c.m 5) ≤ 8) ∧ (∀ k, k < (c.m 5) → ∃ i j, i < 4 ∧ j < 4 ∧ (c.r 5) k 0 = nI (10 * i + j))
theorem IC.n2 {c : Co} (h : IC c) : 2 ≤ c.n := h.1
theorem IC.n4 {c : Co} (h : IC c) : c.n ≤ 4 := h.2.1
theorem IC.E {c : Co} (h : IC c) : ∀ i j, i < c.n → j < c.n → bd (c.E (4 * i + j)) 99 := h.2.2.1
theorem IC.V {c : Co} (h : IC c) : ∀ i, i < 4 → bd (c.V i) 9 := h.2.2.2.1
theorem IC.V0 {c : Co} (h : IC c) : ∀ i, c.n ≤ i → i < 4 → c.V i = 0 := h.2.2.2.2.1
theorem IC.cm {c : Co} (h : IC c) : (c.m 1) ≤ 12 := h.2.2.2.2.2.1
theorem IC.ck {c : Co} (h : IC c) : ∀ k, k < (c.m 1) → ∃ a i v : Nat, (c.r 1) k 0 = nI a ∧ (c.r 1) k 1 = nI i ∧ (c.r 1) k 2 = nI v ∧ a < 3 ∧ (if a = 2 then i < c.n else i + 1 < c.n) ∧ 1 ≤ v ∧ v ≤ 9 := h.2.2.2.2.2.2.1
theorem IC.nm {c : Co} (h : IC c) : (c.m 2) ≤ 69 := h.2.2.2.2.2.2.2.1
theorem IC.nt {c : Co} (h : IC c) : ∀ k, k < (c.m 2) → ∃ R C : Nat, (c.r 2) k 0 = nI R ∧ (c.r 2) k 1 = nI C ∧ 1 ≤ R ∧ R < 2 ^ c.n ∧ 1 ≤ C ∧ C < 2 ^ c.n ∧ pop4 R = pop4 C := h.2.2.2.2.2.2.2.2.1
theorem IC.nd {c : Co} (h : IC c) : ∀ k l, k < l → l < (c.m 2) → ¬ ((c.r 2) k 0 = (c.r 2) l 0 ∧ (c.r 2) k 1 = (c.r 2) l 1) := h.2.2.2.2.2.2.2.2.2.1
theorem IC.sm {c : Co} (h : IC c) : (c.m 3) ≤ 4 := h.2.2.2.2.2.2.2.2.2.2.1
theorem IC.se {c : Co} (h : IC c) : ∀ k, k < (c.m 3) → ∃ R C : Nat, (c.r 3) k 0 = nI R ∧ (c.r 3) k 1 = nI C ∧ R < 16 ∧ C < 16 := h.2.2.2.2.2.2.2.2.2.2.2.1
theorem IC.em {c : Co} (h : IC c) : (c.m 4) ≤ 8 := h.2.2.2.2.2.2.2.2.2.2.2.2.1
theorem IC.ev {c : Co} (h : IC c) : ∀ k, k < (c.m 4) → ∃ a : Nat, (c.r 4) k 0 = nI a ∧ a < 4 ∧ (a < 2 → ∃ i j, i < 4 ∧ j < 4 ∧ (c.r 4) k 1 = nI (10 * i + j)) ∧ (a = 2 → ∃ r, r < 3 ∧ (c.r 4) k 1 = nI r) := h.2.2.2.2.2.2.2.2.2.2.2.2.2.1
theorem IC.bm {c : Co} (h : IC c) : (c.m 5) ≤ 8 := h.2.2.2.2.2.2.2.2.2.2.2.2.2.2.1
theorem IC.bk {c : Co} (h : IC c) : ∀ k, k < (c.m 5) → ∃ i j, i < 4 ∧ j < 4 ∧ (c.r 5) k 0 = nI (10 * i + j) := h.2.2.2.2.2.2.2.2.2.2.2.2.2.2.2
theorem IC.mk {c : Co} (x0 : 2 ≤ c.n) (x1 : c.n ≤ 4) (x2 : ∀ i j, i < c.n → j < c.n → bd (c.E (4 * i + j)) 99) (x3 : ∀ i, i < 4 → bd (c.V i) 9) (x4 : ∀ i, c.n ≤ i → i < 4 → c.V i = 0) (x5 : (c.m 1) ≤ 12) (x6 : ∀ k, k < (c.m 1) → ∃ a i v : Nat, (c.r 1) k 0 = nI a ∧ (c.r 1) k 1 = nI i ∧ (c.r 1) k 2 = nI v ∧ a < 3 ∧ (if a = 2 then i < c.n else i + 1 < c.n) ∧ 1 ≤ v ∧ v ≤ 9) (x7 : (c.m 2) ≤ 69) (x8 : ∀ k, k < (c.m 2) → ∃ R C : Nat, (c.r 2) k 0 = nI R ∧ (c.r 2) k 1 = nI C ∧ 1 ≤ R ∧ R < 2 ^ c.n ∧ 1 ≤ C ∧ C < 2 ^ c.n ∧ pop4 R = pop4 C) (x9 : ∀ k l, k < l → l < (c.m 2) → ¬ ((c.r 2) k 0 = (c.r 2) l 0 ∧ (c.r 2) k 1 = (c.r 2) l 1)) (x10 : (c.m 3) ≤ 4) (x11 : ∀ k, k < (c.m 3) → ∃ R C : Nat, (c.r 3) k 0 = nI R ∧ (c.r 3) k 1 = nI C ∧ R < 16 ∧ C < 16) (x12 : (c.m 4) ≤ 8) (x13 : ∀ k, k < (c.m 4) → ∃ a : Nat, (c.r 4) k 0 = nI a ∧ a < 4 ∧ (a < 2 → ∃ i j, i < 4 ∧ j < 4 ∧ (c.r 4) k 1 = nI (10 * i + j)) ∧ (a = 2 → ∃ r, r < 3 ∧ (c.r 4) k 1 = nI r)) (x14 : (c.m 5) ≤ 8) (x15 : ∀ k, k < (c.m 5) → ∃ i j, i < 4 ∧ j < 4 ∧ (c.r 5) k 0 = nI (10 * i + j)) : IC c := ⟨x0, x1, x2, x3, x4, x5, x6, x7, x8, x9, x10, x11, x12, x13, x14, x15⟩
def IV (s : St) : Prop := (IC s.c) ∧ (∀ c, s.im = some c → IC c) ∧ (s.tm ≤ 100) ∧ (∀ t, t < 6 → s.ts t ≤ 5 ∧ s.th t ≤ 60 ∧ (s.ts t = 0 → s.th t = 0))
theorem IV.c {s : St} (h : IV s) : IC s.c := h.1
theorem IV.im {s : St} (h : IV s) : ∀ c, s.im = some c → IC c := h.2.1
theorem IV.tm {s : St} (h : IV s) : s.tm ≤ 100 := h.2.2.1
theorem IV.ts {s : St} (h : IV s) : ∀ t, t < 6 → s.ts t ≤ 5 ∧ s.th t ≤ 60 ∧ (s.ts t = 0 → s.th t = 0) := h.2.2.2
theorem IV.mk {s : St} (x0 : IC s.c) (x1 : ∀ c, s.im = some c → IC c) (x2 : s.tm ≤ 100) (x3 : ∀ t, t < 6 → s.ts t ≤ 5 ∧ s.th t ≤ 60 ∧ (s.ts t = 0 → s.th t = 0)) : IV s := ⟨x0, x1, x2, x3⟩
def FX (τ : Nat → Int32) (A : Nat → Nat → Int32) (B : Nat → Nat → Int64) (τ' : Nat → Int32) (A' : Nat → Nat → Int32) (B' : Nat → Nat → Int64) : Prop := (∀ k, 5800 ≤ k → τ' k = τ k) ∧ (∀ k, 58 ≤ k → A' k = A k) ∧ (∀ k, 58 ≤ k → B' k = B k)
theorem FX.t {τ : Nat → Int32} {A : Nat → Nat → Int32} {B : Nat → Nat → Int64} {τ' : Nat → Int32} {A' : Nat → Nat → Int32} {B' : Nat → Nat → Int64} (h : FX τ A B τ' A' B') : ∀ k, 5800 ≤ k → τ' k = τ k := h.1
theorem FX.a {τ : Nat → Int32} {A : Nat → Nat → Int32} {B : Nat → Nat → Int64} {τ' : Nat → Int32} {A' : Nat → Nat → Int32} {B' : Nat → Nat → Int64} (h : FX τ A B τ' A' B') : ∀ k, 58 ≤ k → A' k = A k := h.2.1
theorem FX.b {τ : Nat → Int32} {A : Nat → Nat → Int32} {B : Nat → Nat → Int64} {τ' : Nat → Int32} {A' : Nat → Nat → Int32} {B' : Nat → Nat → Int64} (h : FX τ A B τ' A' B') : ∀ k, 58 ≤ k → B' k = B k := h.2.2
theorem FX.mk {τ : Nat → Int32} {A : Nat → Nat → Int32} {B : Nat → Nat → Int64} {τ' : Nat → Int32} {A' : Nat → Nat → Int32} {B' : Nat → Nat → Int64} (x0 : ∀ k, 5800 ≤ k → τ' k = τ k) (x1 : ∀ k, 58 ≤ k → A' k = A k) (x2 : ∀ k, 58 ≤ k → B' k = B k) : FX τ A B τ' A' B' := ⟨x0, x1, x2⟩
def FM (τ : Nat → Int32) (A : Nat → Nat → Int32) (B : Nat → Nat → Int64) (τ' : Nat → Int32) (A' : Nat → Nat → Int32) (B' : Nat → Nat → Int64) : Prop := (∀ k, k < 5800 → τ' k = τ k) ∧ (∀ k, k < 58 → A' k = A k) ∧ (∀ k, k < 58 → B' k = B k)
theorem FM.t {τ : Nat → Int32} {A : Nat → Nat → Int32} {B : Nat → Nat → Int64} {τ' : Nat → Int32} {A' : Nat → Nat → Int32} {B' : Nat → Nat → Int64} (h : FM τ A B τ' A' B') : ∀ k, k < 5800 → τ' k = τ k := h.1
theorem FM.a {τ : Nat → Int32} {A : Nat → Nat → Int32} {B : Nat → Nat → Int64} {τ' : Nat → Int32} {A' : Nat → Nat → Int32} {B' : Nat → Nat → Int64} (h : FM τ A B τ' A' B') : ∀ k, k < 58 → A' k = A k := h.2.1
theorem FM.b {τ : Nat → Int32} {A : Nat → Nat → Int32} {B : Nat → Nat → Int64} {τ' : Nat → Int32} {A' : Nat → Nat → Int32} {B' : Nat → Nat → Int64} (h : FM τ A B τ' A' B') : ∀ k, k < 58 → B' k = B k := h.2.2
theorem FM.mk {τ : Nat → Int32} {A : Nat → Nat → Int32} {B : Nat → Nat → Int64} {τ' : Nat → Int32} {A' : Nat → Nat → Int32} {B' : Nat → Nat → Int64} (x0 : ∀ k, k < 5800 → τ' k = τ k) (x1 : ∀ k, k < 58 → A' k = A k) (x2 : ∀ k, k < 58 → B' k = B k) : FM τ A B τ' A' B' := ⟨x0, x1, x2⟩
section FR
variable {τ τ' τ'' : Nat → Int32} {A A' A'' : Nat → Nat → Int32} {B B' B'' : Nat → Nat → Int64}
theorem FX.refl : FX τ A B τ A B := ⟨fun _ _ => rfl, fun _ _ => rfl, fun _ _ => rfl⟩
theorem FX.trans (h : FX τ A B τ' A' B') (g : FX τ' A' B' τ'' A'' B'') : FX τ A B τ'' A'' B'' := ⟨fun k hk => (g.t k hk).trans (h.t k hk), fun k hk => (g.a k hk).trans (h.a k hk), fun k hk => (g.b k hk).trans (h.b k hk)⟩
theorem FX.ut {k : Nat} {x : Int32} (hk : k < 5800) (h : FX τ A B τ' A' B') : FX τ A B (up τ' k x) A' B' := ⟨fun l hl => by rw [up_n (by omega), h.t l hl], h.a, h.b⟩
theorem FX.ua {k : Nat} {x : Nat → Int32} (hk : k < 58) (h : FX τ A B τ' A' B') : FX τ A B τ' (up A' k x) B' := ⟨h.t, fun l hl => by rw [up_n (by omega), h.a l hl], h.b⟩
theorem FX.ub {k : Nat} {x : Nat → Int64} (hk : k < 58) (h : FX τ A B τ' A' B') : FX τ A B τ' A' (up B' k x) := ⟨h.t, h.a, fun l hl => by rw [up_n (by omega), h.b l hl]⟩
theorem FM.refl : FM τ A B τ A B := ⟨fun _ _ => rfl, fun _ _ => rfl, fun _ _ => rfl⟩
theorem FM.trans (h : FM τ A B τ' A' B') (g : FM τ' A' B' τ'' A'' B'') : FM τ A B τ'' A'' B'' := ⟨fun k hk => (g.t k hk).trans (h.t k hk), fun k hk => (g.a k hk).trans (h.a k hk), fun k hk => (g.b k hk).trans (h.b k hk)⟩
theorem FM.ut {k : Nat} {x : Int32} (hk : 5800 ≤ k) (h : FM τ A B τ' A' B') : FM τ A B (up τ' k x) A' B' := ⟨fun l hl => by rw [up_n (by omega), h.t l hl], h.a, h.b⟩
theorem FM.ua {k : Nat} {x : Nat → Int32} (hk : 58 ≤ k) (h : FM τ A B τ' A' B') : FM τ A B τ' (up A' k x) B' := ⟨h.t, fun l hl => by rw [up_n (by omega), h.a l hl], h.b⟩
theorem FM.ub {k : Nat} {x : Nat → Int64} (hk : 58 ≤ k) (h : FM τ A B τ' A' B') : FM τ A B τ' A' (up B' k x) := ⟨h.t, h.a, fun l hl => by rw [up_n (by omega), h.b l hl]⟩
theorem RR.fm {o m : Nat} {f : Nat → Nat → Int32} (r : RR τ A o m f) (h : FM τ A B τ' A' B') (ho : o < 57) : RR τ' A' o m f := ⟨by rw [h.t _ (by omega), r.h], fun k w hk hw => by rw [h.a _ (by omega), r.r k w hk hw]⟩
theorem RS.fm {p : Nat} {c : Co} (r : RS p c τ A B) (h : FM τ A B τ' A' B') (hp : p ≤ 15) : RS p c τ' A' B' :=
  ⟨by rw [h.t _ (by omega), r.n], fun i j hi hj => by rw [h.b _ (by omega), r.E i j hi hj], fun i hi => by rw [h.b _ (by omega), r.V i hi], r.chip.fm h (by omega), r.note.fm h (by omega), r.seen.fm h (by omega), r.event.fm h (by omega), r.book.fm h (by omega)⟩
theorem RX.fm {s : St} (r : RX s τ A B) (h : FM τ A B τ' A' B') : RX s τ' A' B' :=
  ⟨r.now.fm h (by omega), fun e => by rw [h.t _ (by omega), r.im0 e], fun c e => ⟨by rw [h.t _ (by omega), (r.im1 c e).1], (r.im1 c e).2.fm h (by omega)⟩, by rw [h.t _ (by omega), r.th], fun k hk => by rw [h.a _ (by omega), r.tx k hk], fun t ht => by rw [h.t _ (by omega), r.ts t ht], fun t ht => by rw [h.t _ (by omega), r.tl t ht], fun t j ht hj => by rw [h.b _ (by omega), r.ti t j ht hj]⟩
theorem RM.fx {s : St} (r : RM s τ A B) (h : FX τ A B τ' A' B') : RM s τ' A' B' := by
  have ht := h.t
  have ha := h.a
  have hb := h.b
  refine RM.mk ?_ ?_ ?_ ?_ ?_ ?_ ?_ ?_ ?_ ?_ ?_ ?_ ?_ ?_ ?_ ?_ ?_ ?_ ?_ ?_
  all_goals simp only [ht _ (show 5800 ≤ 5800 by decide), ht _ (show 5800 ≤ 5808 by decide), ht _ (show 5800 ≤ 5805 by decide), ht _ (show 5800 ≤ 5826 by decide), ht _ (show 5800 ≤ 5829 by decide), ht _ (show 5800 ≤ 5832 by decide), ht _ (show 5800 ≤ 5815 by decide), ht _ (show 5800 ≤ 5837 by decide), ht _ (show 5800 ≤ 5845 by decide), ht _ (show 5800 ≤ 5846 by decide), ht _ (show 5800 ≤ 5847 by decide), ht _ (show 5800 ≤ 5848 by decide), ht _ (show 5800 ≤ 5849 by decide), ha _ (show 58 ≤ 59 by decide), ha _ (show 58 ≤ 60 by decide), ha _ (show 58 ≤ 62 by decide), ha _ (show 58 ≤ 65 by decide), ha _ (show 58 ≤ 66 by decide), ha _ (show 58 ≤ 67 by decide), ha _ (show 58 ≤ 70 by decide), ha _ (show 58 ≤ 75 by decide), ha _ (show 58 ≤ 76 by decide), ha _ (show 58 ≤ 77 by decide), ha _ (show 58 ≤ 78 by decide), ha _ (show 58 ≤ 79 by decide), ha _ (show 58 ≤ 80 by decide), ha _ (show 58 ≤ 81 by decide), ha _ (show 58 ≤ 82 by decide), ha _ (show 58 ≤ 83 by decide), ha _ (show 58 ≤ 86 by decide), ha _ (show 58 ≤ 87 by decide), ha _ (show 58 ≤ 88 by decide), ha _ (show 58 ≤ 89 by decide), ha _ (show 58 ≤ 90 by decide), ha _ (show 58 ≤ 91 by decide), ha _ (show 58 ≤ 92 by decide), hb _ (show 58 ≤ 84 by decide)]
  · exact r.n
  · exact r.E
  · exact r.V
  · exact r.cm
  · exact r.ck
  · exact r.nm
  · exact r.nt
  · exact r.sm
  · exact r.se
  · exact r.em
  · exact r.ev
  · exact r.bm
  · exact r.bk
  · exact r.tm
  · exact r.tx
  · exact r.ts
  · exact r.tl
  · exact r.ti
  · exact r.im0
  · exact r.im1
end FR
