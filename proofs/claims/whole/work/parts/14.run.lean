/-! a run is a run of the machine -/
theorem sgc0 : ∀ q ∈ sgg0, q.2.2.2.2.1 ≤ 2 → Cond.code q.1 q.2.1 q.2.2.1 q.2.2.2.1 ∈ zt := List.forall_mem_cons.mpr ⟨fun _ => cw0, List.forall_mem_cons.mpr ⟨fun _ => cw1, List.forall_mem_cons.mpr ⟨fun _ => cw2, List.forall_mem_cons.mpr ⟨fun _ => cw3, List.forall_mem_cons.mpr ⟨fun _ => cw4, List.forall_mem_cons.mpr ⟨fun _ => cw5, List.forall_mem_cons.mpr ⟨fun _ => cw6, List.forall_mem_cons.mpr ⟨fun _ => cw7, List.forall_mem_cons.mpr ⟨fun _ => cw8, List.forall_mem_cons.mpr ⟨fun _ => cw9, List.forall_mem_cons.mpr ⟨fun _ => cw10, List.forall_mem_cons.mpr ⟨fun _ => cw11, List.forall_mem_cons.mpr ⟨fun _ => cw12, List.forall_mem_cons.mpr ⟨fun _ => cw13, List.forall_mem_cons.mpr ⟨fun _ => cw14, List.forall_mem_cons.mpr ⟨fun _ => cw15, fun _ h => absurd h List.not_mem_nil⟩⟩⟩⟩⟩⟩⟩⟩⟩⟩⟩⟩⟩⟩⟩⟩
theorem sgc1 : ∀ q ∈ sgg1, q.2.2.2.2.1 ≤ 2 → Cond.code q.1 q.2.1 q.2.2.1 q.2.2.2.1 ∈ zt := List.forall_mem_cons.mpr ⟨fun _ => cw16, List.forall_mem_cons.mpr ⟨fun _ => cw17, List.forall_mem_cons.mpr ⟨fun _ => cw18, List.forall_mem_cons.mpr ⟨fun _ => cw19, List.forall_mem_cons.mpr ⟨fun _ => cw20, List.forall_mem_cons.mpr ⟨fun _ => cw21, List.forall_mem_cons.mpr ⟨fun _ => cw22, List.forall_mem_cons.mpr ⟨fun _ => cw23, List.forall_mem_cons.mpr ⟨fun _ => cw24, List.forall_mem_cons.mpr ⟨fun _ => cw25, List.forall_mem_cons.mpr ⟨fun _ => cw26, List.forall_mem_cons.mpr ⟨fun _ => cw27, List.forall_mem_cons.mpr ⟨fun _ => cw28, List.forall_mem_cons.mpr ⟨fun _ => cw29, List.forall_mem_cons.mpr ⟨fun _ => cw30, List.forall_mem_cons.mpr ⟨fun _ => cw31, fun _ h => absurd h List.not_mem_nil⟩⟩⟩⟩⟩⟩⟩⟩⟩⟩⟩⟩⟩⟩⟩⟩
theorem sgc2 : ∀ q ∈ sgg2, q.2.2.2.2.1 ≤ 2 → Cond.code q.1 q.2.1 q.2.2.1 q.2.2.2.1 ∈ zt := List.forall_mem_cons.mpr ⟨fun _ => cw32, List.forall_mem_cons.mpr ⟨fun _ => cw33, List.forall_mem_cons.mpr ⟨fun _ => cw34, List.forall_mem_cons.mpr ⟨fun _ => cw35, List.forall_mem_cons.mpr ⟨fun _ => cw36, List.forall_mem_cons.mpr ⟨fun _ => cw37, List.forall_mem_cons.mpr ⟨fun _ => cw38, List.forall_mem_cons.mpr ⟨fun _ => cw39, List.forall_mem_cons.mpr ⟨fun _ => cw40, List.forall_mem_cons.mpr ⟨fun _ => cw41, List.forall_mem_cons.mpr ⟨fun _ => cw42, List.forall_mem_cons.mpr ⟨fun _ => cw43, List.forall_mem_cons.mpr ⟨fun _ => cw44, List.forall_mem_cons.mpr ⟨fun _ => cw45, List.forall_mem_cons.mpr ⟨fun _ => cw46, List.forall_mem_cons.mpr ⟨fun _ => cw47, fun _ h => absurd h List.not_mem_nil⟩⟩⟩⟩⟩⟩⟩⟩⟩⟩⟩⟩⟩⟩⟩⟩
theorem sgc3 : ∀ q ∈ sgg3, q.2.2.2.2.1 ≤ 2 → Cond.code q.1 q.2.1 q.2.2.1 q.2.2.2.1 ∈ zt := List.forall_mem_cons.mpr ⟨fun _ => cw48, List.forall_mem_cons.mpr ⟨fun _ => cw49, List.forall_mem_cons.mpr ⟨fun _ => cw50, List.forall_mem_cons.mpr ⟨fun _ => cw51, List.forall_mem_cons.mpr ⟨fun _ => cw52, List.forall_mem_cons.mpr ⟨fun _ => cw53, List.forall_mem_cons.mpr ⟨fun _ => cw54, List.forall_mem_cons.mpr ⟨fun _ => cw55, List.forall_mem_cons.mpr ⟨fun _ => cw56, List.forall_mem_cons.mpr ⟨fun _ => cw57, List.forall_mem_cons.mpr ⟨fun _ => cw58, List.forall_mem_cons.mpr ⟨fun _ => cw59, List.forall_mem_cons.mpr ⟨fun _ => cw60, List.forall_mem_cons.mpr ⟨fun _ => cw61, List.forall_mem_cons.mpr ⟨fun _ => cw62, List.forall_mem_cons.mpr ⟨fun _ => cw63, fun _ h => absurd h List.not_mem_nil⟩⟩⟩⟩⟩⟩⟩⟩⟩⟩⟩⟩⟩⟩⟩⟩
theorem sgc4 : ∀ q ∈ sgg4, q.2.2.2.2.1 ≤ 2 → Cond.code q.1 q.2.1 q.2.2.1 q.2.2.2.1 ∈ zt := List.forall_mem_cons.mpr ⟨fun _ => cw64, List.forall_mem_cons.mpr ⟨fun _ => cw65, List.forall_mem_cons.mpr ⟨fun _ => cw66, List.forall_mem_cons.mpr ⟨fun _ => cw67, List.forall_mem_cons.mpr ⟨fun _ => cw68, List.forall_mem_cons.mpr ⟨fun _ => cw69, List.forall_mem_cons.mpr ⟨fun _ => cw70, List.forall_mem_cons.mpr ⟨fun _ => cw71, List.forall_mem_cons.mpr ⟨fun _ => cw72, List.forall_mem_cons.mpr ⟨fun _ => cw73, List.forall_mem_cons.mpr ⟨fun _ => cw74, List.forall_mem_cons.mpr ⟨fun _ => cw75, List.forall_mem_cons.mpr ⟨fun _ => cw76, List.forall_mem_cons.mpr ⟨fun _ => cw77, List.forall_mem_cons.mpr ⟨fun _ => cw78, List.forall_mem_cons.mpr ⟨fun _ => cw79, fun _ h => absurd h List.not_mem_nil⟩⟩⟩⟩⟩⟩⟩⟩⟩⟩⟩⟩⟩⟩⟩⟩
theorem sgc5 : ∀ q ∈ sgg5, q.2.2.2.2.1 ≤ 2 → Cond.code q.1 q.2.1 q.2.2.1 q.2.2.2.1 ∈ zt := List.forall_mem_cons.mpr ⟨fun _ => cw80, List.forall_mem_cons.mpr ⟨fun _ => cw81, List.forall_mem_cons.mpr ⟨fun _ => cw82, List.forall_mem_cons.mpr ⟨fun _ => cw83, List.forall_mem_cons.mpr ⟨fun _ => cw84, List.forall_mem_cons.mpr ⟨fun _ => cw85, List.forall_mem_cons.mpr ⟨fun _ => cw86, List.forall_mem_cons.mpr ⟨fun _ => cw87, List.forall_mem_cons.mpr ⟨fun _ => cw88, List.forall_mem_cons.mpr ⟨fun _ => cw89, List.forall_mem_cons.mpr ⟨fun _ => cw90, List.forall_mem_cons.mpr ⟨fun _ => cw91, List.forall_mem_cons.mpr ⟨fun _ => cw92, List.forall_mem_cons.mpr ⟨fun _ => cw93, List.forall_mem_cons.mpr ⟨fun _ => cw94, List.forall_mem_cons.mpr ⟨fun _ => cw95, fun _ h => absurd h List.not_mem_nil⟩⟩⟩⟩⟩⟩⟩⟩⟩⟩⟩⟩⟩⟩⟩⟩
theorem sgc6 : ∀ q ∈ sgg6, q.2.2.2.2.1 ≤ 2 → Cond.code q.1 q.2.1 q.2.2.1 q.2.2.2.1 ∈ zt := List.forall_mem_cons.mpr ⟨fun _ => cw96, List.forall_mem_cons.mpr ⟨fun _ => cw97, List.forall_mem_cons.mpr ⟨fun _ => cw98, List.forall_mem_cons.mpr ⟨fun _ => cw99, List.forall_mem_cons.mpr ⟨fun _ => cw100, List.forall_mem_cons.mpr ⟨fun _ => cw101, List.forall_mem_cons.mpr ⟨fun _ => cw102, List.forall_mem_cons.mpr ⟨fun _ => cw103, List.forall_mem_cons.mpr ⟨fun _ => cw104, List.forall_mem_cons.mpr ⟨fun _ => cw105, List.forall_mem_cons.mpr ⟨fun _ => cw106, List.forall_mem_cons.mpr ⟨fun _ => cw107, List.forall_mem_cons.mpr ⟨fun _ => cw108, List.forall_mem_cons.mpr ⟨fun _ => cw109, List.forall_mem_cons.mpr ⟨fun _ => cw110, List.forall_mem_cons.mpr ⟨fun _ => cw111, fun _ h => absurd h List.not_mem_nil⟩⟩⟩⟩⟩⟩⟩⟩⟩⟩⟩⟩⟩⟩⟩⟩
theorem sgc7 : ∀ q ∈ sgg7, q.2.2.2.2.1 ≤ 2 → Cond.code q.1 q.2.1 q.2.2.1 q.2.2.2.1 ∈ zt := List.forall_mem_cons.mpr ⟨fun _ => cw112, List.forall_mem_cons.mpr ⟨fun _ => cw113, List.forall_mem_cons.mpr ⟨fun _ => cw114, List.forall_mem_cons.mpr ⟨fun _ => cw115, List.forall_mem_cons.mpr ⟨fun _ => cw116, List.forall_mem_cons.mpr ⟨fun _ => cw117, List.forall_mem_cons.mpr ⟨fun _ => cw118, List.forall_mem_cons.mpr ⟨fun _ => cw119, List.forall_mem_cons.mpr ⟨fun _ => cw120, List.forall_mem_cons.mpr ⟨fun _ => cw121, List.forall_mem_cons.mpr ⟨fun _ => cw122, List.forall_mem_cons.mpr ⟨fun _ => cw123, List.forall_mem_cons.mpr ⟨fun _ => cw124, List.forall_mem_cons.mpr ⟨fun _ => cw125, List.forall_mem_cons.mpr ⟨fun _ => cw126, List.forall_mem_cons.mpr ⟨fun _ => cw127, fun _ h => absurd h List.not_mem_nil⟩⟩⟩⟩⟩⟩⟩⟩⟩⟩⟩⟩⟩⟩⟩⟩
theorem sgc8 : ∀ q ∈ sgg8, q.2.2.2.2.1 ≤ 2 → Cond.code q.1 q.2.1 q.2.2.1 q.2.2.2.1 ∈ zt := List.forall_mem_cons.mpr ⟨fun _ => cw128, List.forall_mem_cons.mpr ⟨fun _ => cw129, List.forall_mem_cons.mpr ⟨fun _ => cw130, List.forall_mem_cons.mpr ⟨fun _ => cw131, List.forall_mem_cons.mpr ⟨fun _ => cw132, List.forall_mem_cons.mpr ⟨fun _ => cw133, List.forall_mem_cons.mpr ⟨fun _ => cw134, List.forall_mem_cons.mpr ⟨fun _ => cw135, List.forall_mem_cons.mpr ⟨fun _ => cw136, List.forall_mem_cons.mpr ⟨fun _ => cw137, List.forall_mem_cons.mpr ⟨fun _ => cw138, List.forall_mem_cons.mpr ⟨fun _ => cw139, List.forall_mem_cons.mpr ⟨fun _ => cw140, List.forall_mem_cons.mpr ⟨fun _ => cw141, List.forall_mem_cons.mpr ⟨fun _ => cw142, List.forall_mem_cons.mpr ⟨fun _ => cw143, fun _ h => absurd h List.not_mem_nil⟩⟩⟩⟩⟩⟩⟩⟩⟩⟩⟩⟩⟩⟩⟩⟩
theorem sgc9 : ∀ q ∈ sgg9, q.2.2.2.2.1 ≤ 2 → Cond.code q.1 q.2.1 q.2.2.1 q.2.2.2.1 ∈ zt := List.forall_mem_cons.mpr ⟨fun _ => cw144, List.forall_mem_cons.mpr ⟨fun _ => cw145, List.forall_mem_cons.mpr ⟨fun _ => cw146, List.forall_mem_cons.mpr ⟨fun _ => cw147, List.forall_mem_cons.mpr ⟨fun _ => cw148, List.forall_mem_cons.mpr ⟨fun _ => cw149, List.forall_mem_cons.mpr ⟨fun _ => cw150, List.forall_mem_cons.mpr ⟨fun _ => cw151, List.forall_mem_cons.mpr ⟨fun _ => cw152, List.forall_mem_cons.mpr ⟨fun _ => cw153, List.forall_mem_cons.mpr ⟨fun _ => cw154, List.forall_mem_cons.mpr ⟨fun _ => cw155, List.forall_mem_cons.mpr ⟨fun _ => cw156, List.forall_mem_cons.mpr ⟨fun _ => cw157, List.forall_mem_cons.mpr ⟨fun _ => cw158, List.forall_mem_cons.mpr ⟨fun _ => cw159, fun _ h => absurd h List.not_mem_nil⟩⟩⟩⟩⟩⟩⟩⟩⟩⟩⟩⟩⟩⟩⟩⟩
theorem sgc10 : ∀ q ∈ sgg10, q.2.2.2.2.1 ≤ 2 → Cond.code q.1 q.2.1 q.2.2.1 q.2.2.2.1 ∈ zt := List.forall_mem_cons.mpr ⟨fun _ => cw160, List.forall_mem_cons.mpr ⟨fun _ => cw161, List.forall_mem_cons.mpr ⟨fun _ => cw162, List.forall_mem_cons.mpr ⟨fun _ => cw163, List.forall_mem_cons.mpr ⟨fun _ => cw164, List.forall_mem_cons.mpr ⟨fun _ => cw165, List.forall_mem_cons.mpr ⟨fun _ => cw166, List.forall_mem_cons.mpr ⟨fun _ => cw167, List.forall_mem_cons.mpr ⟨fun _ => cw168, List.forall_mem_cons.mpr ⟨fun _ => cw169, List.forall_mem_cons.mpr ⟨fun _ => cw170, List.forall_mem_cons.mpr ⟨fun _ => cw171, List.forall_mem_cons.mpr ⟨fun _ => cw172, List.forall_mem_cons.mpr ⟨fun _ => cw173, List.forall_mem_cons.mpr ⟨fun _ => cw174, List.forall_mem_cons.mpr ⟨fun _ => cw175, fun _ h => absurd h List.not_mem_nil⟩⟩⟩⟩⟩⟩⟩⟩⟩⟩⟩⟩⟩⟩⟩⟩
theorem sgc11 : ∀ q ∈ sgg11, q.2.2.2.2.1 ≤ 2 → Cond.code q.1 q.2.1 q.2.2.1 q.2.2.2.1 ∈ zt := List.forall_mem_cons.mpr ⟨fun _ => cw176, List.forall_mem_cons.mpr ⟨fun _ => cw177, List.forall_mem_cons.mpr ⟨fun _ => cw178, List.forall_mem_cons.mpr ⟨fun _ => cw179, List.forall_mem_cons.mpr ⟨fun _ => cw180, List.forall_mem_cons.mpr ⟨fun _ => cw181, List.forall_mem_cons.mpr ⟨fun _ => cw182, List.forall_mem_cons.mpr ⟨fun _ => cw183, List.forall_mem_cons.mpr ⟨fun _ => cw184, List.forall_mem_cons.mpr ⟨fun _ => cw185, List.forall_mem_cons.mpr ⟨fun _ => cw186, List.forall_mem_cons.mpr ⟨fun _ => cw187, List.forall_mem_cons.mpr ⟨fun _ => cw188, List.forall_mem_cons.mpr ⟨fun _ => cw189, List.forall_mem_cons.mpr ⟨fun _ => cw190, List.forall_mem_cons.mpr ⟨fun _ => cw191, fun _ h => absurd h List.not_mem_nil⟩⟩⟩⟩⟩⟩⟩⟩⟩⟩⟩⟩⟩⟩⟩⟩
theorem sgc12 : ∀ q ∈ sgg12, q.2.2.2.2.1 ≤ 2 → Cond.code q.1 q.2.1 q.2.2.1 q.2.2.2.1 ∈ zt := List.forall_mem_cons.mpr ⟨fun _ => cw192, List.forall_mem_cons.mpr ⟨fun _ => cw193, List.forall_mem_cons.mpr ⟨fun _ => cw194, List.forall_mem_cons.mpr ⟨fun _ => cw195, List.forall_mem_cons.mpr ⟨fun _ => cw196, List.forall_mem_cons.mpr ⟨fun _ => cw197, List.forall_mem_cons.mpr ⟨fun _ => cw198, List.forall_mem_cons.mpr ⟨fun _ => cw199, List.forall_mem_cons.mpr ⟨fun _ => cw200, List.forall_mem_cons.mpr ⟨fun _ => cw201, List.forall_mem_cons.mpr ⟨fun _ => cw202, List.forall_mem_cons.mpr ⟨fun _ => cw203, List.forall_mem_cons.mpr ⟨fun _ => cw204, List.forall_mem_cons.mpr ⟨fun _ => cw205, List.forall_mem_cons.mpr ⟨fun _ => cw206, List.forall_mem_cons.mpr ⟨fun _ => cw207, fun _ h => absurd h List.not_mem_nil⟩⟩⟩⟩⟩⟩⟩⟩⟩⟩⟩⟩⟩⟩⟩⟩
theorem sgc13 : ∀ q ∈ sgg13, q.2.2.2.2.1 ≤ 2 → Cond.code q.1 q.2.1 q.2.2.1 q.2.2.2.1 ∈ zt := List.forall_mem_cons.mpr ⟨fun _ => cw208, List.forall_mem_cons.mpr ⟨fun _ => cw209, List.forall_mem_cons.mpr ⟨fun _ => cw210, List.forall_mem_cons.mpr ⟨fun _ => cw211, List.forall_mem_cons.mpr ⟨fun _ => cw212, List.forall_mem_cons.mpr ⟨fun h => absurd h (by decide), fun _ h => absurd h List.not_mem_nil⟩⟩⟩⟩⟩⟩
theorem sgc_all : ∀ l ∈ sgall, ∀ q ∈ l, q.2.2.2.2.1 ≤ 2 → Cond.code q.1 q.2.1 q.2.2.1 q.2.2.2.1 ∈ zt := List.forall_mem_cons.mpr ⟨sgc0, List.forall_mem_cons.mpr ⟨sgc1, List.forall_mem_cons.mpr ⟨sgc2, List.forall_mem_cons.mpr ⟨sgc3, List.forall_mem_cons.mpr ⟨sgc4, List.forall_mem_cons.mpr ⟨sgc5, List.forall_mem_cons.mpr ⟨sgc6, List.forall_mem_cons.mpr ⟨sgc7, List.forall_mem_cons.mpr ⟨sgc8, List.forall_mem_cons.mpr ⟨sgc9, List.forall_mem_cons.mpr ⟨sgc10, List.forall_mem_cons.mpr ⟨sgc11, List.forall_mem_cons.mpr ⟨sgc12, List.forall_mem_cons.mpr ⟨sgc13, fun _ h => absurd h List.not_mem_nil⟩⟩⟩⟩⟩⟩⟩⟩⟩⟩⟩⟩⟩⟩
theorem nth_mem {α : Type} {l : List α} {k : Nat} {a : α} (h : nth l k = some a) : a ∈ l := List.mem_of_getElem? (by rw [← nth_eq]; exact h)
theorem sg_code {u : Nat} {q : MethodName × ByteArray × Nat × Option FieldType × Nat × Nat × Nat × Nat × Nat} (h : sg u = some q) (hk : q.2.2.2.2.1 ≤ 2) : Cond.code q.1 q.2.1 q.2.2.1 q.2.2.2.1 ∈ zt := by
  unfold sg at h
  split at h
  · rename_i g hg
    exact sgc_all g (nth_mem hg) q (nth_mem h) hk
  · cases h
def gt : List Cond := zt.filter goodWord
theorem gt_good {w : Cond} {ws : List Cond} (hw : w ∈ zt) (hg : goodWord w = true) (h : ∀ x ∈ ws, x ∈ gt) : GoodIn zt (w :: ws) := fun x hx => by
  rcases List.mem_cons.mp hx with rfl | hx
  · exact ⟨hw, good_of_word hg⟩
  · obtain ⟨h1, h2⟩ := List.mem_filter.mp (h x hx)
    exact ⟨h1, good_of_word h2⟩
theorem zt_odd {w : Cond} (hw : w ∈ zt) (hg : ¬ goodWord w = true) : (∃ C, w = .arrayOver (.object C)) ∨ ∃ a i x h, w = .methodLinkNest a i x h := by
  have hk := (List.mem_filter.mp hw).2
  unfold keepW at hk
  rw [Bool.or_eq_true] at hk
  rcases hk with hk | hk
  · exact absurd hk hg
  · split at hk
    · exact Or.inl ⟨_, rfl⟩
    · exact Or.inr ⟨_, _, _, _, rfl⟩
    · cases hk
/-- what the tables say beside their good words -/
def XW (U : State) : Prop := ∀ w ∈ zt, ¬ goodWord w = true → va_Nw w U
theorem XW.of {args : Array Value} {s : State} (h : ∀ w ∈ zt, w.before args s = true) : XW s := fun w hw hg => by
  rcases zt_odd hw hg with ⟨C, rfl⟩ | ⟨a, i, x, y, rfl⟩
  · exact va_AO.of (h _ hw)
  · exact va_Nw.of rfl (h _ hw)
theorem XW.use {args : Array Value} {s : State} (h : XW s) (w : Cond) (hw : w ∈ zt) (hg : ¬ goodWord w = true) : w.before args s = true := by
  have hz := h w hw hg
  rcases zt_odd hw hg with ⟨C, rfl⟩ | ⟨a, i, x, y, rfl⟩
  · exact va_AO.use hz
  · exact va_Nw.use rfl hz
theorem XW.warm {s U : State} (hW : s.WarmedH U.vm) (h : XW s) : XW U := fun w hw hg => by
  have hz := h w hw hg
  rcases zt_odd hw hg with ⟨C, rfl⟩ | ⟨a, i, x, y, rfl⟩
  · exact va_AO.moved hW.alike hz
  · exact va_Nw.warmM hW hz
theorem XW.same {s U : State} (hv : s.vm = U.vm) (h : XW s) : XW U := fun w hw hg => by
  have hz := h w hw hg
  rcases zt_odd hw hg with ⟨C, rfl⟩ | ⟨a, i, x, y, rfl⟩
  · exact va_AO.moved (by rw [hv]; exact Vm.Alike.refl U.vm) hz
  · exact va_Nw.same rfl hv hz
theorem sg_okA {u : Nat} (hu : u < 214) : sgOk u = true := by
  obtain ⟨g, i, rfl, hi⟩ : ∃ g i, u = 16 * g + i ∧ i < 16 := ⟨u / 16, u % 16, by omega, by omega⟩
  rcases (show g = 0 ∨ g = 1 ∨ g = 2 ∨ g = 3 ∨ g = 4 ∨ g = 5 ∨ g = 6 ∨ g = 7 ∨ g = 8 ∨ g = 9 ∨ g = 10 ∨ g = 11 ∨ g = 12 ∨ g = 13 by omega) with rfl | rfl | rfl | rfl | rfl | rfl | rfl | rfl | rfl | rfl | rfl | rfl | rfl | rfl
  · exact List.all_eq_true.mp sg_ok0 i (List.mem_range.mpr (by omega))
  · exact List.all_eq_true.mp sg_ok1 i (List.mem_range.mpr (by omega))
  · exact List.all_eq_true.mp sg_ok2 i (List.mem_range.mpr (by omega))
  · exact List.all_eq_true.mp sg_ok3 i (List.mem_range.mpr (by omega))
  · exact List.all_eq_true.mp sg_ok4 i (List.mem_range.mpr (by omega))
  · exact List.all_eq_true.mp sg_ok5 i (List.mem_range.mpr (by omega))
  · exact List.all_eq_true.mp sg_ok6 i (List.mem_range.mpr (by omega))
  · exact List.all_eq_true.mp sg_ok7 i (List.mem_range.mpr (by omega))
  · exact List.all_eq_true.mp sg_ok8 i (List.mem_range.mpr (by omega))
  · exact List.all_eq_true.mp sg_ok9 i (List.mem_range.mpr (by omega))
  · exact List.all_eq_true.mp sg_ok10 i (List.mem_range.mpr (by omega))
  · exact List.all_eq_true.mp sg_ok11 i (List.mem_range.mpr (by omega))
  · exact List.all_eq_true.mp sg_ok12 i (List.mem_range.mpr (by omega))
  · exact List.all_eq_true.mp sg_ok13 i (List.mem_range.mpr (by omega))
theorem codeAt_mem {u pc : Nat} {a : AI} (h : codeAt u pc = some a) : (pc, a) ∈ rowsU u := by
  have lk : ∀ (l : List (Nat × AI)), look l pc = some a → (pc, a) ∈ l := by
    intro l
    induction l with
    | nil => intro h9; cases h9
    | cons q l ih =>
      intro h9
      obtain ⟨k, x⟩ := q
      unfold look at h9
      cases hb : Nat.beq k pc with
      | true =>
        rw [hb] at h9
        simp only [cond_true, Option.some.injEq] at h9
        have := Nat.eq_of_beq_eq_true hb
        subst this
        subst h9
        exact List.mem_cons_self
      | false =>
        rw [hb] at h9
        exact List.mem_cons_of_mem _ (ih h9)
  unfold codeAt at h
  unfold rowsU
  split at h
  · rename_i g hg
    rw [hg]
    simp only
    split at h
    · rename_i c hc
      rw [hc]
      simp only
      split at h
      · rename_i l hl
        exact List.mem_flatten.mpr ⟨l, nth_mem hl, lk l h⟩
      · cases h
    · cases h
  · cases h
theorem rows_ok0 {u : Nat} (hu : u < 213) : methOk u = true := by
  obtain ⟨g, i, rfl, hi⟩ : ∃ g i, u = 8 * g + i ∧ i < 8 := ⟨u / 8, u % 8, by omega, by omega⟩
  rcases (show g = 0 ∨ g = 1 ∨ g = 2 ∨ g = 3 ∨ g = 4 ∨ g = 5 ∨ g = 6 ∨ g = 7 ∨ g = 8 ∨ g = 9 ∨ g = 10 ∨ g = 11 ∨ g = 12 ∨ g = 13 ∨ g = 14 ∨ g = 15 ∨ g = 16 ∨ g = 17 ∨ g = 18 ∨ g = 19 ∨ g = 20 ∨ g = 21 ∨ g = 22 ∨ g = 23 ∨ g = 24 ∨ g = 25 ∨ g = 26 by omega) with rfl | rfl | rfl | rfl | rfl | rfl | rfl | rfl | rfl | rfl | rfl | rfl | rfl | rfl | rfl | rfl | rfl | rfl | rfl | rfl | rfl | rfl | rfl | rfl | rfl | rfl | rfl
  · exact List.all_eq_true.mp m_ok0 i (List.mem_range.mpr (by omega))
  · exact List.all_eq_true.mp m_ok1 i (List.mem_range.mpr (by omega))
  · exact List.all_eq_true.mp m_ok2 i (List.mem_range.mpr (by omega))
  · exact List.all_eq_true.mp m_ok3 i (List.mem_range.mpr (by omega))
  · exact List.all_eq_true.mp m_ok4 i (List.mem_range.mpr (by omega))
  · exact List.all_eq_true.mp m_ok5 i (List.mem_range.mpr (by omega))
  · exact List.all_eq_true.mp m_ok6 i (List.mem_range.mpr (by omega))
  · exact List.all_eq_true.mp m_ok7 i (List.mem_range.mpr (by omega))
  · exact List.all_eq_true.mp m_ok8 i (List.mem_range.mpr (by omega))
  · exact List.all_eq_true.mp m_ok9 i (List.mem_range.mpr (by omega))
  · exact List.all_eq_true.mp m_ok10 i (List.mem_range.mpr (by omega))
  · exact List.all_eq_true.mp m_ok11 i (List.mem_range.mpr (by omega))
  · exact List.all_eq_true.mp m_ok12 i (List.mem_range.mpr (by omega))
  · exact List.all_eq_true.mp m_ok13 i (List.mem_range.mpr (by omega))
  · exact List.all_eq_true.mp m_ok14 i (List.mem_range.mpr (by omega))
  · exact List.all_eq_true.mp m_ok15 i (List.mem_range.mpr (by omega))
  · exact List.all_eq_true.mp m_ok16 i (List.mem_range.mpr (by omega))
  · exact List.all_eq_true.mp m_ok17 i (List.mem_range.mpr (by omega))
  · exact List.all_eq_true.mp m_ok18 i (List.mem_range.mpr (by omega))
  · exact List.all_eq_true.mp m_ok19 i (List.mem_range.mpr (by omega))
  · exact List.all_eq_true.mp m_ok20 i (List.mem_range.mpr (by omega))
  · exact List.all_eq_true.mp m_ok21 i (List.mem_range.mpr (by omega))
  · exact List.all_eq_true.mp m_ok22 i (List.mem_range.mpr (by omega))
  · exact List.all_eq_true.mp m_ok23 i (List.mem_range.mpr (by omega))
  · exact List.all_eq_true.mp m_ok24 i (List.mem_range.mpr (by omega))
  · exact List.all_eq_true.mp m_ok25 i (List.mem_range.mpr (by omega))
  · exact List.all_eq_true.mp m_ok26 i (List.mem_range.mpr (by omega))
theorem law_row : sg 213 = some (⟨"MinorTablesLaw", "law", "([I)Z"⟩, code, 4, some .boolean, 3, 0, 0, 0, 0) := rfl
theorem rows_ok {u pc : Nat} {a : AI} {y : MethodName} {cc : ByteArray} {mx : Nat} {rt : Option FieldType} {z : Nat × Nat × Nat × Nat × Nat} (hu : u < 214) (hs : sg u = some (y, cc, mx, rt, z)) (h : codeAt u pc = some a) : ∃ oc, cn oc = y.cls ∧ rowOk oc (y.name == "<init>") (zrOf rt) cc (pc, a) = true := by
  by_cases hl : u = 213
  · subst hl
    rw [law_row] at hs
    simp only [Option.some.injEq, Prod.mk.injEq] at hs
    obtain ⟨rfl, rfl, rfl, rfl, rfl⟩ := hs
    refine ⟨8, rfl, ?_⟩
    have hm := codeAt_mem h
    have hr : rowsU 213 = k213.flatten := rfl
    rw [hr] at hm
    obtain ⟨l, h1, h2⟩ := List.mem_flatten.mp hm
    have hn : ((⟨"MinorTablesLaw", "law", "([I)Z"⟩ : MethodName).name == "<init>") = false := by decide
    rw [hn]
    exact List.all_eq_true.mp (List.all_eq_true.mp m_law l h1) _ h2
  · have := rows_ok0 (u := u) (by omega)
    unfold methOk at this
    rw [hs] at this
    simp only [Bool.and_eq_true, decide_eq_true_eq] at this
    exact ⟨_, this.1, List.all_eq_true.mp this.2 _ (codeAt_mem h)⟩
