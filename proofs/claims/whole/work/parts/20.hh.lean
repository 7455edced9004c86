/-! the heap behind the two constructors: S the script, τ the numbers in objects (100 times the place, and the field's), A the rows of ints, B the rows of longs -/
def mkI (n : Nat) (f : Nat → Int32) : List Value := (List.range n).map (fun j => .int (f j))
def mkJ (n : Nat) (f : Nat → Int64) : List Value := (List.range n).map (fun j => .long (f j))
theorem mkI_len (n : Nat) (f : Nat → Int32) : (mkI n f).length = n := by simp [mkI]
theorem mkJ_len (n : Nat) (f : Nat → Int64) : (mkJ n f).length = n := by simp [mkJ]
theorem mkI_nth {n j : Nat} (f : Nat → Int32) (h : j < n) : nth (mkI n f) j = some (.int (f j)) := by
  rw [nth_eq]; simp [mkI, List.getElem?_range h]
theorem mkJ_nth {n j : Nat} (f : Nat → Int64) (h : j < n) : nth (mkJ n f) j = some (.long (f j)) := by
  rw [nth_eq]; simp [mkJ, List.getElem?_range h]
def up {α : Type} (f : Nat → α) (k : Nat) (x : α) : Nat → α := fun j => if j = k then x else f j
theorem up_s {α : Type} (f : Nat → α) (k : Nat) (x : α) : up f k x k = x := if_pos rfl
theorem up_n {α : Type} {f : Nat → α} {k j : Nat} {x : α} (h : j ≠ k) : up f k x j = f j := if_neg h
theorem up_up {α : Type} (f : Nat → α) (k : Nat) (x y : α) : up (up f k x) k y = up f k y := by
  funext j
  unfold up
  by_cases h : j = k
  · rw [if_pos h, if_pos h]
  · rw [if_neg h, if_neg h, if_neg h]
theorem up_id {α : Type} (f : Nat → α) (k : Nat) : up f k (f k) = f := by
  funext j
  unfold up
  by_cases h : j = k
  · rw [if_pos h, h]
  · rw [if_neg h]
theorem up_comm {α : Type} (f : Nat → α) {k l : Nat} (x y : α) (hkl : k ≠ l) : up (up f k x) l y = up (up f l y) k x := by
  funext j
  unfold up
  by_cases h : j = k
  · subst h; rw [if_pos rfl, if_neg hkl, if_pos rfl]
  · by_cases h2 : j = l
    · rw [if_pos h2, if_neg h, if_pos h2]
    · rw [if_neg h2, if_neg h, if_neg h, if_neg h2]
theorem mkI_set {n j : Nat} (f : Nat → Int32) (x : Int32) (h : j < n) : setV (mkI n f) j (.int x) = mkI n (up f j x) := by
  rw [setV_eq]
  apply List.ext_getElem?
  intro k
  rw [List.getElem?_set, mkI_len]
  by_cases hk : j = k
  · subst hk
    rw [if_pos rfl, if_pos h, ← nth_eq, mkI_nth _ h, up_s]
  · rw [if_neg hk]
    by_cases hn : k < n
    · rw [← nth_eq, ← nth_eq, mkI_nth _ hn, mkI_nth _ hn, up_n (Ne.symm hk)]
    · rw [List.getElem?_eq_none (by rw [mkI_len]; omega), List.getElem?_eq_none (by rw [mkI_len]; omega)]
theorem mkJ_set {n j : Nat} (f : Nat → Int64) (x : Int64) (h : j < n) : setV (mkJ n f) j (.long x) = mkJ n (up f j x) := by
  rw [setV_eq]
  apply List.ext_getElem?
  intro k
  rw [List.getElem?_set, mkJ_len]
  by_cases hk : j = k
  · subst hk
    rw [if_pos rfl, if_pos h, ← nth_eq, mkJ_nth _ h, up_s]
  · rw [if_neg hk]
    by_cases hn : k < n
    · rw [← nth_eq, ← nth_eq, mkJ_nth _ hn, mkJ_nth _ hn, up_n (Ne.symm hk)]
    · rw [List.getElem?_eq_none (by rw [mkJ_len]; omega), List.getElem?_eq_none (by rw [mkJ_len]; omega)]
def HH (S : Cl) (τ : Nat → Int32) (A : Nat → Nat → Int32) (B : Nat → Nat → Int64) : Hp := [S, (6, [.ref 2, .ref 17, .int (τ 102), .ref 32, .ref 35, .ref 38, .ref 42, .ref 43, .ref 44, .ref 45]), (2, [.ref 3, .ref 6, .ref 8, .ref 9, .ref 11, .ref 13, .ref 15]), (0, [.ref 4, .ref 5, .int (τ 302)]), (101, mkJ 16 (B 4)), (101, mkJ 16 (B 5)), (1, [.ref 7, .int (nI 12), .int (τ 602)]), (100, mkI 36 (A 7)), (101, mkJ 4 (B 8)), (1, [.ref 10, .int (nI 69), .int (τ 902)]), (100, mkI 207 (A 10)), (1, [.ref 12, .int (nI 4), .int (τ 1102)]), (100, mkI 12 (A 12)), (1, [.ref 14, .int (nI 8), .int (τ 1302)]), (100, mkI 24 (A 14)), (1, [.ref 16, .int (nI 8), .int (τ 1502)]), (100, mkI 24 (A 16)), (2, [.ref 18, .ref 21, .ref 23, .ref 24, .ref 26, .ref 28, .ref 30]), (0, [.ref 19, .ref 20, .int (τ 1802)]), (101, mkJ 16 (B 19)), (101, mkJ 16 (B 20)), (1, [.ref 22, .int (nI 12), .int (τ 2102)]), (100, mkI 36 (A 22)), (101, mkJ 4 (B 23)), (1, [.ref 25, .int (nI 69), .int (τ 2402)]), (100, mkI 207 (A 25)), (1, [.ref 27, .int (nI 4), .int (τ 2602)]), (100, mkI 12 (A 27)), (1, [.ref 29, .int (nI 8), .int (τ 2802)]), (100, mkI 24 (A 29)), (1, [.ref 31, .int (nI 8), .int (τ 3002)]), (100, mkI 24 (A 31)), (0, [.ref 33, .ref 34, .int (τ 3202)]), (101, mkJ 16 (B 33)), (101, mkJ 16 (B 34)), (3, [.ref 36, .ref 37, .int (τ 3502)]), (101, mkJ 16 (B 36)), (101, mkJ 16 (B 37)), (5, [.ref 39, .ref 40, .int (τ 3802), .int (τ 3803), .int (τ 3804)]), (100, mkI 100 (A 39)), (1, [.ref 41, .int (nI 12), .int (τ 4002)]), (100, mkI 36 (A 41)), (102, [.ref 46, .ref 48, .ref 50, .ref 52, .ref 54, .ref 56]), (101, mkJ 16 (B 43)), (101, mkJ 36 (B 44)), (101, mkJ 4 (B 45)), (4, [.ref 47, .int (τ 4601), .int (τ 4602)]), (101, mkJ 60 (B 47)), (4, [.ref 49, .int (τ 4801), .int (τ 4802)]), (101, mkJ 60 (B 49)), (4, [.ref 51, .int (τ 5001), .int (τ 5002)]), (101, mkJ 60 (B 51)), (4, [.ref 53, .int (τ 5201), .int (τ 5202)]), (101, mkJ 60 (B 53)), (4, [.ref 55, .int (τ 5401), .int (τ 5402)]), (101, mkJ 60 (B 55)), (4, [.ref 57, .int (τ 5601), .int (τ 5602)]), (101, mkJ 60 (B 57)), (7, [.int (τ 5800), .ref 59, .ref 60, .ref 61, .ref 62, .int (τ 5805), .ref 63, .ref 64, .int (τ 5808), .ref 65, .ref 66, .ref 67, .ref 68, .ref 69, .ref 70, .int (τ 5815), .int (τ 5816), .int (τ 5817), .ref 71, .ref 72, .ref 73, .ref 74, .int (τ 5822), .ref 75, .ref 76, .ref 77, .int (τ 5826), .ref 78, .ref 79, .int (τ 5829), .ref 80, .ref 81, .int (τ 5832), .ref 82, .ref 83, .ref 84, .ref 85, .int (τ 5837), .ref 86, .ref 87, .ref 88, .ref 89, .ref 90, .ref 91, .ref 92, .int (τ 5845), .int (τ 5846), .int (τ 5847), .int (τ 5848), .int (τ 5849)]), (100, mkI 16 (A 59)), (100, mkI 4 (A 60)), (100, mkI 16 (A 61)), (100, mkI 70 (A 62)), (101, mkJ 4 (B 63)), (101, mkJ 70 (B 64)), (100, mkI 12 (A 65)), (100, mkI 12 (A 66)), (100, mkI 12 (A 67)), (101, mkJ 16 (B 68)), (101, mkJ 16 (B 69)), (100, mkI 100 (A 70)), (100, mkI 12 (A 71)), (100, mkI 12 (A 72)), (100, mkI 12 (A 73)), (100, mkI 12 (A 74)), (100, mkI 4 (A 75)), (100, mkI 4 (A 76)), (100, mkI 4 (A 77)), (100, mkI 8 (A 78)), (100, mkI 8 (A 79)), (100, mkI 8 (A 80)), (100, mkI 8 (A 81)), (100, mkI 6 (A 82)), (100, mkI 6 (A 83)), (101, mkJ 360 (B 84)), (101, mkJ 60 (B 85)), (100, mkI 16 (A 86)), (100, mkI 4 (A 87)), (100, mkI 36 (A 88)), (100, mkI 70 (A 89)), (100, mkI 12 (A 90)), (100, mkI 16 (A 91)), (100, mkI 16 (A 92))]
def tabI : List (Nat × Nat) := [(7, 36), (10, 207), (12, 12), (14, 24), (16, 24), (22, 36), (25, 207), (27, 12), (29, 24), (31, 24), (39, 100), (41, 36), (59, 16), (60, 4), (61, 16), (62, 70), (65, 12), (66, 12), (67, 12), (70, 100), (71, 12), (72, 12), (73, 12), (74, 12), (75, 4), (76, 4), (77, 4), (78, 8), (79, 8), (80, 8), (81, 8), (82, 6), (83, 6), (86, 16), (87, 4), (88, 36), (89, 70), (90, 12), (91, 16), (92, 16)]
def tabJ : List (Nat × Nat) := [(4, 16), (5, 16), (8, 4), (19, 16), (20, 16), (23, 4), (33, 16), (34, 16), (36, 16), (37, 16), (43, 16), (44, 36), (45, 4), (47, 60), (49, 60), (51, 60), (53, 60), (55, 60), (57, 60), (63, 4), (64, 70), (68, 16), (69, 16), (84, 360), (85, 60)]
def lkp : List (Nat × Nat) → Nat → Option Nat
  | [], _ => none
  | (k, v) :: l, a => bif Nat.beq k a then some v else lkp l a
def lenI (a : Nat) : Nat := match lkp tabI a with
  | some n => n
  | none => 0
def lenJ (a : Nat) : Nat := match lkp tabJ a with
  | some n => n
  | none => 0
theorem lkp_mem {a : Nat} : ∀ {l : List (Nat × Nat)}, (lkp l a).isSome = true → a ∈ l.map (fun q => q.1)
  | [], h => by cases h
  | (k, v) :: l, h => by
    unfold lkp at h
    cases hb : Nat.beq k a with
    | true =>
      have := Nat.eq_of_beq_eq_true hb
      subst this
      exact List.mem_cons_self
    | false =>
      rw [hb] at h
      exact List.mem_cons_of_mem _ (lkp_mem h)
set_option maxRecDepth 10000 in
theorem rdI (S : Cl) (τ : Nat → Int32) (A : Nat → Nat → Int32) (B : Nat → Nat → Int64) {a : Nat} (h : (lkp tabI a).isSome = true) : nth (HH S τ A B) a = some (100, mkI (lenI a) (A a)) := by
  have hm := lkp_mem h
  simp only [tabI, List.map_cons, List.map_nil, List.mem_cons, List.not_mem_nil, or_false] at hm
  rcases hm with rfl | rfl | rfl | rfl | rfl | rfl | rfl | rfl | rfl | rfl | rfl | rfl | rfl | rfl | rfl | rfl | rfl | rfl | rfl | rfl | rfl | rfl | rfl | rfl | rfl | rfl | rfl | rfl | rfl | rfl | rfl | rfl | rfl | rfl | rfl | rfl | rfl | rfl | rfl | rfl <;> first | rfl | (intro f; rfl)
set_option maxRecDepth 10000 in
theorem rdJ (S : Cl) (τ : Nat → Int32) (A : Nat → Nat → Int32) (B : Nat → Nat → Int64) {a : Nat} (h : (lkp tabJ a).isSome = true) : nth (HH S τ A B) a = some (101, mkJ (lenJ a) (B a)) := by
  have hm := lkp_mem h
  simp only [tabJ, List.map_cons, List.map_nil, List.mem_cons, List.not_mem_nil, or_false] at hm
  rcases hm with rfl | rfl | rfl | rfl | rfl | rfl | rfl | rfl | rfl | rfl | rfl | rfl | rfl | rfl | rfl | rfl | rfl | rfl | rfl | rfl | rfl | rfl | rfl | rfl | rfl <;> first | rfl | (intro f; rfl)
set_option maxRecDepth 10000 in
theorem wrI (S : Cl) (τ : Nat → Int32) (A : Nat → Nat → Int32) (B : Nat → Nat → Int64) {a : Nat} (h : (lkp tabI a).isSome = true) : ∀ f : Nat → Int32, setH (HH S τ A B) a (100, mkI (lenI a) f) = HH S τ (up A a f) B := by
  have hm := lkp_mem h
  simp only [tabI, List.map_cons, List.map_nil, List.mem_cons, List.not_mem_nil, or_false] at hm
  rcases hm with rfl | rfl | rfl | rfl | rfl | rfl | rfl | rfl | rfl | rfl | rfl | rfl | rfl | rfl | rfl | rfl | rfl | rfl | rfl | rfl | rfl | rfl | rfl | rfl | rfl | rfl | rfl | rfl | rfl | rfl | rfl | rfl | rfl | rfl | rfl | rfl | rfl | rfl | rfl | rfl <;> first | rfl | (intro f; rfl)
set_option maxRecDepth 10000 in
theorem wrJ (S : Cl) (τ : Nat → Int32) (A : Nat → Nat → Int32) (B : Nat → Nat → Int64) {a : Nat} (h : (lkp tabJ a).isSome = true) : ∀ f : Nat → Int64, setH (HH S τ A B) a (101, mkJ (lenJ a) f) = HH S τ A (up B a f) := by
  have hm := lkp_mem h
  simp only [tabJ, List.map_cons, List.map_nil, List.mem_cons, List.not_mem_nil, or_false] at hm
  rcases hm with rfl | rfl | rfl | rfl | rfl | rfl | rfl | rfl | rfl | rfl | rfl | rfl | rfl | rfl | rfl | rfl | rfl | rfl | rfl | rfl | rfl | rfl | rfl | rfl | rfl <;> first | rfl | (intro f; rfl)
def tabF : List (Nat × Nat × Nat) := [(1, 6, 2), (3, 0, 2), (6, 1, 2), (9, 1, 2), (11, 1, 2), (13, 1, 2), (15, 1, 2), (18, 0, 2), (21, 1, 2), (24, 1, 2), (26, 1, 2), (28, 1, 2), (30, 1, 2), (32, 0, 2), (35, 3, 2), (38, 5, 2), (38, 5, 3), (38, 5, 4), (40, 1, 2), (46, 4, 1), (46, 4, 2), (48, 4, 1), (48, 4, 2), (50, 4, 1), (50, 4, 2), (52, 4, 1), (52, 4, 2), (54, 4, 1), (54, 4, 2), (56, 4, 1), (56, 4, 2), (58, 7, 0), (58, 7, 5), (58, 7, 8), (58, 7, 15), (58, 7, 16), (58, 7, 17), (58, 7, 22), (58, 7, 26), (58, 7, 29), (58, 7, 32), (58, 7, 37), (58, 7, 45), (58, 7, 46), (58, 7, 47), (58, 7, 48), (58, 7, 49)]
theorem wf_102 (S : Cl) (τ : Nat → Int32) (A : Nat → Nat → Int32) (B : Nat → Nat → Int64) (x : Int32) : setH (HH S τ A B) 1 (6, setV [.ref 2, .ref 17, .int (τ 102), .ref 32, .ref 35, .ref 38, .ref 42, .ref 43, .ref 44, .ref 45] 2 (.int x)) = HH S (up τ 102 x) A B := rfl
theorem wf_302 (S : Cl) (τ : Nat → Int32) (A : Nat → Nat → Int32) (B : Nat → Nat → Int64) (x : Int32) : setH (HH S τ A B) 3 (0, setV [.ref 4, .ref 5, .int (τ 302)] 2 (.int x)) = HH S (up τ 302 x) A B := rfl
theorem wf_602 (S : Cl) (τ : Nat → Int32) (A : Nat → Nat → Int32) (B : Nat → Nat → Int64) (x : Int32) : setH (HH S τ A B) 6 (1, setV [.ref 7, .int (nI 12), .int (τ 602)] 2 (.int x)) = HH S (up τ 602 x) A B := rfl
theorem wf_902 (S : Cl) (τ : Nat → Int32) (A : Nat → Nat → Int32) (B : Nat → Nat → Int64) (x : Int32) : setH (HH S τ A B) 9 (1, setV [.ref 10, .int (nI 69), .int (τ 902)] 2 (.int x)) = HH S (up τ 902 x) A B := rfl
theorem wf_1102 (S : Cl) (τ : Nat → Int32) (A : Nat → Nat → Int32) (B : Nat → Nat → Int64) (x : Int32) : setH (HH S τ A B) 11 (1, setV [.ref 12, .int (nI 4), .int (τ 1102)] 2 (.int x)) = HH S (up τ 1102 x) A B := rfl
theorem wf_1302 (S : Cl) (τ : Nat → Int32) (A : Nat → Nat → Int32) (B : Nat → Nat → Int64) (x : Int32) : setH (HH S τ A B) 13 (1, setV [.ref 14, .int (nI 8), .int (τ 1302)] 2 (.int x)) = HH S (up τ 1302 x) A B := rfl
theorem wf_1502 (S : Cl) (τ : Nat → Int32) (A : Nat → Nat → Int32) (B : Nat → Nat → Int64) (x : Int32) : setH (HH S τ A B) 15 (1, setV [.ref 16, .int (nI 8), .int (τ 1502)] 2 (.int x)) = HH S (up τ 1502 x) A B := rfl
theorem wf_1802 (S : Cl) (τ : Nat → Int32) (A : Nat → Nat → Int32) (B : Nat → Nat → Int64) (x : Int32) : setH (HH S τ A B) 18 (0, setV [.ref 19, .ref 20, .int (τ 1802)] 2 (.int x)) = HH S (up τ 1802 x) A B := rfl
theorem wf_2102 (S : Cl) (τ : Nat → Int32) (A : Nat → Nat → Int32) (B : Nat → Nat → Int64) (x : Int32) : setH (HH S τ A B) 21 (1, setV [.ref 22, .int (nI 12), .int (τ 2102)] 2 (.int x)) = HH S (up τ 2102 x) A B := rfl
theorem wf_2402 (S : Cl) (τ : Nat → Int32) (A : Nat → Nat → Int32) (B : Nat → Nat → Int64) (x : Int32) : setH (HH S τ A B) 24 (1, setV [.ref 25, .int (nI 69), .int (τ 2402)] 2 (.int x)) = HH S (up τ 2402 x) A B := rfl
theorem wf_2602 (S : Cl) (τ : Nat → Int32) (A : Nat → Nat → Int32) (B : Nat → Nat → Int64) (x : Int32) : setH (HH S τ A B) 26 (1, setV [.ref 27, .int (nI 4), .int (τ 2602)] 2 (.int x)) = HH S (up τ 2602 x) A B := rfl
theorem wf_2802 (S : Cl) (τ : Nat → Int32) (A : Nat → Nat → Int32) (B : Nat → Nat → Int64) (x : Int32) : setH (HH S τ A B) 28 (1, setV [.ref 29, .int (nI 8), .int (τ 2802)] 2 (.int x)) = HH S (up τ 2802 x) A B := rfl
theorem wf_3002 (S : Cl) (τ : Nat → Int32) (A : Nat → Nat → Int32) (B : Nat → Nat → Int64) (x : Int32) : setH (HH S τ A B) 30 (1, setV [.ref 31, .int (nI 8), .int (τ 3002)] 2 (.int x)) = HH S (up τ 3002 x) A B := rfl
theorem wf_3202 (S : Cl) (τ : Nat → Int32) (A : Nat → Nat → Int32) (B : Nat → Nat → Int64) (x : Int32) : setH (HH S τ A B) 32 (0, setV [.ref 33, .ref 34, .int (τ 3202)] 2 (.int x)) = HH S (up τ 3202 x) A B := rfl
theorem wf_3502 (S : Cl) (τ : Nat → Int32) (A : Nat → Nat → Int32) (B : Nat → Nat → Int64) (x : Int32) : setH (HH S τ A B) 35 (3, setV [.ref 36, .ref 37, .int (τ 3502)] 2 (.int x)) = HH S (up τ 3502 x) A B := rfl
theorem wf_3802 (S : Cl) (τ : Nat → Int32) (A : Nat → Nat → Int32) (B : Nat → Nat → Int64) (x : Int32) : setH (HH S τ A B) 38 (5, setV [.ref 39, .ref 40, .int (τ 3802), .int (τ 3803), .int (τ 3804)] 2 (.int x)) = HH S (up τ 3802 x) A B := rfl
theorem wf_3803 (S : Cl) (τ : Nat → Int32) (A : Nat → Nat → Int32) (B : Nat → Nat → Int64) (x : Int32) : setH (HH S τ A B) 38 (5, setV [.ref 39, .ref 40, .int (τ 3802), .int (τ 3803), .int (τ 3804)] 3 (.int x)) = HH S (up τ 3803 x) A B := rfl
theorem wf_3804 (S : Cl) (τ : Nat → Int32) (A : Nat → Nat → Int32) (B : Nat → Nat → Int64) (x : Int32) : setH (HH S τ A B) 38 (5, setV [.ref 39, .ref 40, .int (τ 3802), .int (τ 3803), .int (τ 3804)] 4 (.int x)) = HH S (up τ 3804 x) A B := rfl
theorem wf_4002 (S : Cl) (τ : Nat → Int32) (A : Nat → Nat → Int32) (B : Nat → Nat → Int64) (x : Int32) : setH (HH S τ A B) 40 (1, setV [.ref 41, .int (nI 12), .int (τ 4002)] 2 (.int x)) = HH S (up τ 4002 x) A B := rfl
theorem wf_4601 (S : Cl) (τ : Nat → Int32) (A : Nat → Nat → Int32) (B : Nat → Nat → Int64) (x : Int32) : setH (HH S τ A B) 46 (4, setV [.ref 47, .int (τ 4601), .int (τ 4602)] 1 (.int x)) = HH S (up τ 4601 x) A B := rfl
theorem wf_4602 (S : Cl) (τ : Nat → Int32) (A : Nat → Nat → Int32) (B : Nat → Nat → Int64) (x : Int32) : setH (HH S τ A B) 46 (4, setV [.ref 47, .int (τ 4601), .int (τ 4602)] 2 (.int x)) = HH S (up τ 4602 x) A B := rfl
theorem wf_4801 (S : Cl) (τ : Nat → Int32) (A : Nat → Nat → Int32) (B : Nat → Nat → Int64) (x : Int32) : setH (HH S τ A B) 48 (4, setV [.ref 49, .int (τ 4801), .int (τ 4802)] 1 (.int x)) = HH S (up τ 4801 x) A B := rfl
theorem wf_4802 (S : Cl) (τ : Nat → Int32) (A : Nat → Nat → Int32) (B : Nat → Nat → Int64) (x : Int32) : setH (HH S τ A B) 48 (4, setV [.ref 49, .int (τ 4801), .int (τ 4802)] 2 (.int x)) = HH S (up τ 4802 x) A B := rfl
theorem wf_5001 (S : Cl) (τ : Nat → Int32) (A : Nat → Nat → Int32) (B : Nat → Nat → Int64) (x : Int32) : setH (HH S τ A B) 50 (4, setV [.ref 51, .int (τ 5001), .int (τ 5002)] 1 (.int x)) = HH S (up τ 5001 x) A B := rfl
theorem wf_5002 (S : Cl) (τ : Nat → Int32) (A : Nat → Nat → Int32) (B : Nat → Nat → Int64) (x : Int32) : setH (HH S τ A B) 50 (4, setV [.ref 51, .int (τ 5001), .int (τ 5002)] 2 (.int x)) = HH S (up τ 5002 x) A B := rfl
theorem wf_5201 (S : Cl) (τ : Nat → Int32) (A : Nat → Nat → Int32) (B : Nat → Nat → Int64) (x : Int32) : setH (HH S τ A B) 52 (4, setV [.ref 53, .int (τ 5201), .int (τ 5202)] 1 (.int x)) = HH S (up τ 5201 x) A B := rfl
theorem wf_5202 (S : Cl) (τ : Nat → Int32) (A : Nat → Nat → Int32) (B : Nat → Nat → Int64) (x : Int32) : setH (HH S τ A B) 52 (4, setV [.ref 53, .int (τ 5201), .int (τ 5202)] 2 (.int x)) = HH S (up τ 5202 x) A B := rfl
theorem wf_5401 (S : Cl) (τ : Nat → Int32) (A : Nat → Nat → Int32) (B : Nat → Nat → Int64) (x : Int32) : setH (HH S τ A B) 54 (4, setV [.ref 55, .int (τ 5401), .int (τ 5402)] 1 (.int x)) = HH S (up τ 5401 x) A B := rfl
theorem wf_5402 (S : Cl) (τ : Nat → Int32) (A : Nat → Nat → Int32) (B : Nat → Nat → Int64) (x : Int32) : setH (HH S τ A B) 54 (4, setV [.ref 55, .int (τ 5401), .int (τ 5402)] 2 (.int x)) = HH S (up τ 5402 x) A B := rfl
theorem wf_5601 (S : Cl) (τ : Nat → Int32) (A : Nat → Nat → Int32) (B : Nat → Nat → Int64) (x : Int32) : setH (HH S τ A B) 56 (4, setV [.ref 57, .int (τ 5601), .int (τ 5602)] 1 (.int x)) = HH S (up τ 5601 x) A B := rfl
theorem wf_5602 (S : Cl) (τ : Nat → Int32) (A : Nat → Nat → Int32) (B : Nat → Nat → Int64) (x : Int32) : setH (HH S τ A B) 56 (4, setV [.ref 57, .int (τ 5601), .int (τ 5602)] 2 (.int x)) = HH S (up τ 5602 x) A B := rfl
theorem wf_5800 (S : Cl) (τ : Nat → Int32) (A : Nat → Nat → Int32) (B : Nat → Nat → Int64) (x : Int32) : setH (HH S τ A B) 58 (7, setV [.int (τ 5800), .ref 59, .ref 60, .ref 61, .ref 62, .int (τ 5805), .ref 63, .ref 64, .int (τ 5808), .ref 65, .ref 66, .ref 67, .ref 68, .ref 69, .ref 70, .int (τ 5815), .int (τ 5816), .int (τ 5817), .ref 71, .ref 72, .ref 73, .ref 74, .int (τ 5822), .ref 75, .ref 76, .ref 77, .int (τ 5826), .ref 78, .ref 79, .int (τ 5829), .ref 80, .ref 81, .int (τ 5832), .ref 82, .ref 83, .ref 84, .ref 85, .int (τ 5837), .ref 86, .ref 87, .ref 88, .ref 89, .ref 90, .ref 91, .ref 92, .int (τ 5845), .int (τ 5846), .int (τ 5847), .int (τ 5848), .int (τ 5849)] 0 (.int x)) = HH S (up τ 5800 x) A B := rfl
theorem wf_5805 (S : Cl) (τ : Nat → Int32) (A : Nat → Nat → Int32) (B : Nat → Nat → Int64) (x : Int32) : setH (HH S τ A B) 58 (7, setV [.int (τ 5800), .ref 59, .ref 60, .ref 61, .ref 62, .int (τ 5805), .ref 63, .ref 64, .int (τ 5808), .ref 65, .ref 66, .ref 67, .ref 68, .ref 69, .ref 70, .int (τ 5815), .int (τ 5816), .int (τ 5817), .ref 71, .ref 72, .ref 73, .ref 74, .int (τ 5822), .ref 75, .ref 76, .ref 77, .int (τ 5826), .ref 78, .ref 79, .int (τ 5829), .ref 80, .ref 81, .int (τ 5832), .ref 82, .ref 83, .ref 84, .ref 85, .int (τ 5837), .ref 86, .ref 87, .ref 88, .ref 89, .ref 90, .ref 91, .ref 92, .int (τ 5845), .int (τ 5846), .int (τ 5847), .int (τ 5848), .int (τ 5849)] 5 (.int x)) = HH S (up τ 5805 x) A B := rfl
theorem wf_5808 (S : Cl) (τ : Nat → Int32) (A : Nat → Nat → Int32) (B : Nat → Nat → Int64) (x : Int32) : setH (HH S τ A B) 58 (7, setV [.int (τ 5800), .ref 59, .ref 60, .ref 61, .ref 62, .int (τ 5805), .ref 63, .ref 64, .int (τ 5808), .ref 65, .ref 66, .ref 67, .ref 68, .ref 69, .ref 70, .int (τ 5815), .int (τ 5816), .int (τ 5817), .ref 71, .ref 72, .ref 73, .ref 74, .int (τ 5822), .ref 75, .ref 76, .ref 77, .int (τ 5826), .ref 78, .ref 79, .int (τ 5829), .ref 80, .ref 81, .int (τ 5832), .ref 82, .ref 83, .ref 84, .ref 85, .int (τ 5837), .ref 86, .ref 87, .ref 88, .ref 89, .ref 90, .ref 91, .ref 92, .int (τ 5845), .int (τ 5846), .int (τ 5847), .int (τ 5848), .int (τ 5849)] 8 (.int x)) = HH S (up τ 5808 x) A B := rfl
theorem wf_5815 (S : Cl) (τ : Nat → Int32) (A : Nat → Nat → Int32) (B : Nat → Nat → Int64) (x : Int32) : setH (HH S τ A B) 58 (7, setV [.int (τ 5800), .ref 59, .ref 60, .ref 61, .ref 62, .int (τ 5805), .ref 63, .ref 64, .int (τ 5808), .ref 65, .ref 66, .ref 67, .ref 68, .ref 69, .ref 70, .int (τ 5815), .int (τ 5816), .int (τ 5817), .ref 71, .ref 72, .ref 73, .ref 74, .int (τ 5822), .ref 75, .ref 76, .ref 77, .int (τ 5826), .ref 78, .ref 79, .int (τ 5829), .ref 80, .ref 81, .int (τ 5832), .ref 82, .ref 83, .ref 84, .ref 85, .int (τ 5837), .ref 86, .ref 87, .ref 88, .ref 89, .ref 90, .ref 91, .ref 92, .int (τ 5845), .int (τ 5846), .int (τ 5847), .int (τ 5848), .int (τ 5849)] 15 (.int x)) = HH S (up τ 5815 x) A B := rfl
theorem wf_5816 (S : Cl) (τ : Nat → Int32) (A : Nat → Nat → Int32) (B : Nat → Nat → Int64) (x : Int32) : setH (HH S τ A B) 58 (7, setV [.int (τ 5800), .ref 59, .ref 60, .ref 61, .ref 62, .int (τ 5805), .ref 63, .ref 64, .int (τ 5808), .ref 65, .ref 66, .ref 67, .ref 68, .ref 69, .ref 70, .int (τ 5815), .int (τ 5816), .int (τ 5817), .ref 71, .ref 72, .ref 73, .ref 74, .int (τ 5822), .ref 75, .ref 76, .ref 77, .int (τ 5826), .ref 78, .ref 79, .int (τ 5829), .ref 80, .ref 81, .int (τ 5832), .ref 82, .ref 83, .ref 84, .ref 85, .int (τ 5837), .ref 86, .ref 87, .ref 88, .ref 89, .ref 90, .ref 91, .ref 92, .int (τ 5845), .int (τ 5846), .int (τ 5847), .int (τ 5848), .int (τ 5849)] 16 (.int x)) = HH S (up τ 5816 x) A B := rfl
theorem wf_5817 (S : Cl) (τ : Nat → Int32) (A : Nat → Nat → Int32) (B : Nat → Nat → Int64) (x : Int32) : setH (HH S τ A B) 58 (7, setV [.int (τ 5800), .ref 59, .ref 60, .ref 61, .ref 62, .int (τ 5805), .ref 63, .ref 64, .int (τ 5808), .ref 65, .ref 66, .ref 67, .ref 68, .ref 69, .ref 70, .int (τ 5815), .int (τ 5816), .int (τ 5817), .ref 71, .ref 72, .ref 73, .ref 74, .int (τ 5822), .ref 75, .ref 76, .ref 77, .int (τ 5826), .ref 78, .ref 79, .int (τ 5829), .ref 80, .ref 81, .int (τ 5832), .ref 82, .ref 83, .ref 84, .ref 85, .int (τ 5837), .ref 86, .ref 87, .ref 88, .ref 89, .ref 90, .ref 91, .ref 92, .int (τ 5845), .int (τ 5846), .int (τ 5847), .int (τ 5848), .int (τ 5849)] 17 (.int x)) = HH S (up τ 5817 x) A B := rfl
theorem wf_5822 (S : Cl) (τ : Nat → Int32) (A : Nat → Nat → Int32) (B : Nat → Nat → Int64) (x : Int32) : setH (HH S τ A B) 58 (7, setV [.int (τ 5800), .ref 59, .ref 60, .ref 61, .ref 62, .int (τ 5805), .ref 63, .ref 64, .int (τ 5808), .ref 65, .ref 66, .ref 67, .ref 68, .ref 69, .ref 70, .int (τ 5815), .int (τ 5816), .int (τ 5817), .ref 71, .ref 72, .ref 73, .ref 74, .int (τ 5822), .ref 75, .ref 76, .ref 77, .int (τ 5826), .ref 78, .ref 79, .int (τ 5829), .ref 80, .ref 81, .int (τ 5832), .ref 82, .ref 83, .ref 84, .ref 85, .int (τ 5837), .ref 86, .ref 87, .ref 88, .ref 89, .ref 90, .ref 91, .ref 92, .int (τ 5845), .int (τ 5846), .int (τ 5847), .int (τ 5848), .int (τ 5849)] 22 (.int x)) = HH S (up τ 5822 x) A B := rfl
theorem wf_5826 (S : Cl) (τ : Nat → Int32) (A : Nat → Nat → Int32) (B : Nat → Nat → Int64) (x : Int32) : setH (HH S τ A B) 58 (7, setV [.int (τ 5800), .ref 59, .ref 60, .ref 61, .ref 62, .int (τ 5805), .ref 63, .ref 64, .int (τ 5808), .ref 65, .ref 66, .ref 67, .ref 68, .ref 69, .ref 70, .int (τ 5815), .int (τ 5816), .int (τ 5817), .ref 71, .ref 72, .ref 73, .ref 74, .int (τ 5822), .ref 75, .ref 76, .ref 77, .int (τ 5826), .ref 78, .ref 79, .int (τ 5829), .ref 80, .ref 81, .int (τ 5832), .ref 82, .ref 83, .ref 84, .ref 85, .int (τ 5837), .ref 86, .ref 87, .ref 88, .ref 89, .ref 90, .ref 91, .ref 92, .int (τ 5845), .int (τ 5846), .int (τ 5847), .int (τ 5848), .int (τ 5849)] 26 (.int x)) = HH S (up τ 5826 x) A B := rfl
theorem wf_5829 (S : Cl) (τ : Nat → Int32) (A : Nat → Nat → Int32) (B : Nat → Nat → Int64) (x : Int32) : setH (HH S τ A B) 58 (7, setV [.int (τ 5800), .ref 59, .ref 60, .ref 61, .ref 62, .int (τ 5805), .ref 63, .ref 64, .int (τ 5808), .ref 65, .ref 66, .ref 67, .ref 68, .ref 69, .ref 70, .int (τ 5815), .int (τ 5816), .int (τ 5817), .ref 71, .ref 72, .ref 73, .ref 74, .int (τ 5822), .ref 75, .ref 76, .ref 77, .int (τ 5826), .ref 78, .ref 79, .int (τ 5829), .ref 80, .ref 81, .int (τ 5832), .ref 82, .ref 83, .ref 84, .ref 85, .int (τ 5837), .ref 86, .ref 87, .ref 88, .ref 89, .ref 90, .ref 91, .ref 92, .int (τ 5845), .int (τ 5846), .int (τ 5847), .int (τ 5848), .int (τ 5849)] 29 (.int x)) = HH S (up τ 5829 x) A B := rfl
theorem wf_5832 (S : Cl) (τ : Nat → Int32) (A : Nat → Nat → Int32) (B : Nat → Nat → Int64) (x : Int32) : setH (HH S τ A B) 58 (7, setV [.int (τ 5800), .ref 59, .ref 60, .ref 61, .ref 62, .int (τ 5805), .ref 63, .ref 64, .int (τ 5808), .ref 65, .ref 66, .ref 67, .ref 68, .ref 69, .ref 70, .int (τ 5815), .int (τ 5816), .int (τ 5817), .ref 71, .ref 72, .ref 73, .ref 74, .int (τ 5822), .ref 75, .ref 76, .ref 77, .int (τ 5826), .ref 78, .ref 79, .int (τ 5829), .ref 80, .ref 81, .int (τ 5832), .ref 82, .ref 83, .ref 84, .ref 85, .int (τ 5837), .ref 86, .ref 87, .ref 88, .ref 89, .ref 90, .ref 91, .ref 92, .int (τ 5845), .int (τ 5846), .int (τ 5847), .int (τ 5848), .int (τ 5849)] 32 (.int x)) = HH S (up τ 5832 x) A B := rfl
theorem wf_5837 (S : Cl) (τ : Nat → Int32) (A : Nat → Nat → Int32) (B : Nat → Nat → Int64) (x : Int32) : setH (HH S τ A B) 58 (7, setV [.int (τ 5800), .ref 59, .ref 60, .ref 61, .ref 62, .int (τ 5805), .ref 63, .ref 64, .int (τ 5808), .ref 65, .ref 66, .ref 67, .ref 68, .ref 69, .ref 70, .int (τ 5815), .int (τ 5816), .int (τ 5817), .ref 71, .ref 72, .ref 73, .ref 74, .int (τ 5822), .ref 75, .ref 76, .ref 77, .int (τ 5826), .ref 78, .ref 79, .int (τ 5829), .ref 80, .ref 81, .int (τ 5832), .ref 82, .ref 83, .ref 84, .ref 85, .int (τ 5837), .ref 86, .ref 87, .ref 88, .ref 89, .ref 90, .ref 91, .ref 92, .int (τ 5845), .int (τ 5846), .int (τ 5847), .int (τ 5848), .int (τ 5849)] 37 (.int x)) = HH S (up τ 5837 x) A B := rfl
theorem wf_5845 (S : Cl) (τ : Nat → Int32) (A : Nat → Nat → Int32) (B : Nat → Nat → Int64) (x : Int32) : setH (HH S τ A B) 58 (7, setV [.int (τ 5800), .ref 59, .ref 60, .ref 61, .ref 62, .int (τ 5805), .ref 63, .ref 64, .int (τ 5808), .ref 65, .ref 66, .ref 67, .ref 68, .ref 69, .ref 70, .int (τ 5815), .int (τ 5816), .int (τ 5817), .ref 71, .ref 72, .ref 73, .ref 74, .int (τ 5822), .ref 75, .ref 76, .ref 77, .int (τ 5826), .ref 78, .ref 79, .int (τ 5829), .ref 80, .ref 81, .int (τ 5832), .ref 82, .ref 83, .ref 84, .ref 85, .int (τ 5837), .ref 86, .ref 87, .ref 88, .ref 89, .ref 90, .ref 91, .ref 92, .int (τ 5845), .int (τ 5846), .int (τ 5847), .int (τ 5848), .int (τ 5849)] 45 (.int x)) = HH S (up τ 5845 x) A B := rfl
theorem wf_5846 (S : Cl) (τ : Nat → Int32) (A : Nat → Nat → Int32) (B : Nat → Nat → Int64) (x : Int32) : setH (HH S τ A B) 58 (7, setV [.int (τ 5800), .ref 59, .ref 60, .ref 61, .ref 62, .int (τ 5805), .ref 63, .ref 64, .int (τ 5808), .ref 65, .ref 66, .ref 67, .ref 68, .ref 69, .ref 70, .int (τ 5815), .int (τ 5816), .int (τ 5817), .ref 71, .ref 72, .ref 73, .ref 74, .int (τ 5822), .ref 75, .ref 76, .ref 77, .int (τ 5826), .ref 78, .ref 79, .int (τ 5829), .ref 80, .ref 81, .int (τ 5832), .ref 82, .ref 83, .ref 84, .ref 85, .int (τ 5837), .ref 86, .ref 87, .ref 88, .ref 89, .ref 90, .ref 91, .ref 92, .int (τ 5845), .int (τ 5846), .int (τ 5847), .int (τ 5848), .int (τ 5849)] 46 (.int x)) = HH S (up τ 5846 x) A B := rfl
theorem wf_5847 (S : Cl) (τ : Nat → Int32) (A : Nat → Nat → Int32) (B : Nat → Nat → Int64) (x : Int32) : setH (HH S τ A B) 58 (7, setV [.int (τ 5800), .ref 59, .ref 60, .ref 61, .ref 62, .int (τ 5805), .ref 63, .ref 64, .int (τ 5808), .ref 65, .ref 66, .ref 67, .ref 68, .ref 69, .ref 70, .int (τ 5815), .int (τ 5816), .int (τ 5817), .ref 71, .ref 72, .ref 73, .ref 74, .int (τ 5822), .ref 75, .ref 76, .ref 77, .int (τ 5826), .ref 78, .ref 79, .int (τ 5829), .ref 80, .ref 81, .int (τ 5832), .ref 82, .ref 83, .ref 84, .ref 85, .int (τ 5837), .ref 86, .ref 87, .ref 88, .ref 89, .ref 90, .ref 91, .ref 92, .int (τ 5845), .int (τ 5846), .int (τ 5847), .int (τ 5848), .int (τ 5849)] 47 (.int x)) = HH S (up τ 5847 x) A B := rfl
theorem wf_5848 (S : Cl) (τ : Nat → Int32) (A : Nat → Nat → Int32) (B : Nat → Nat → Int64) (x : Int32) : setH (HH S τ A B) 58 (7, setV [.int (τ 5800), .ref 59, .ref 60, .ref 61, .ref 62, .int (τ 5805), .ref 63, .ref 64, .int (τ 5808), .ref 65, .ref 66, .ref 67, .ref 68, .ref 69, .ref 70, .int (τ 5815), .int (τ 5816), .int (τ 5817), .ref 71, .ref 72, .ref 73, .ref 74, .int (τ 5822), .ref 75, .ref 76, .ref 77, .int (τ 5826), .ref 78, .ref 79, .int (τ 5829), .ref 80, .ref 81, .int (τ 5832), .ref 82, .ref 83, .ref 84, .ref 85, .int (τ 5837), .ref 86, .ref 87, .ref 88, .ref 89, .ref 90, .ref 91, .ref 92, .int (τ 5845), .int (τ 5846), .int (τ 5847), .int (τ 5848), .int (τ 5849)] 48 (.int x)) = HH S (up τ 5848 x) A B := rfl
theorem wf_5849 (S : Cl) (τ : Nat → Int32) (A : Nat → Nat → Int32) (B : Nat → Nat → Int64) (x : Int32) : setH (HH S τ A B) 58 (7, setV [.int (τ 5800), .ref 59, .ref 60, .ref 61, .ref 62, .int (τ 5805), .ref 63, .ref 64, .int (τ 5808), .ref 65, .ref 66, .ref 67, .ref 68, .ref 69, .ref 70, .int (τ 5815), .int (τ 5816), .int (τ 5817), .ref 71, .ref 72, .ref 73, .ref 74, .int (τ 5822), .ref 75, .ref 76, .ref 77, .int (τ 5826), .ref 78, .ref 79, .int (τ 5829), .ref 80, .ref 81, .int (τ 5832), .ref 82, .ref 83, .ref 84, .ref 85, .int (τ 5837), .ref 86, .ref 87, .ref 88, .ref 89, .ref 90, .ref 91, .ref 92, .int (τ 5845), .int (τ 5846), .int (τ 5847), .int (τ 5848), .int (τ 5849)] 49 (.int x)) = HH S (up τ 5849 x) A B := rfl
