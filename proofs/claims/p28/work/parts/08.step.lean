/-! One step of the light machine, walked by the machine. -/
section QE
variable {X : Nat → Nat → Nat → LLoc → LStk → LMem → Prop} {C : Nat → List LV → LMem → LPost → Prop} {Q : LPost} {s : LMem} {st : LStk} {loc : LLoc}
theorem qe_no (h : qa_sem X C Q (qa_no s)) : False := h.1
theorem qe_s1I {K : Int32 → LStk → LNx} (h : qa_sem X C Q (qa_s1I s st K)) : ∃ a r, st = lI a :: r ∧ qa_sem X C Q (K a r) := by
  unfold qa_s1I at h
  split at h
  · exact ⟨_, _, rfl, h⟩
  · exact (qe_no h).elim
theorem qe_s2I {K : Int32 → Int32 → LStk → LNx} (h : qa_sem X C Q (qa_s2I s st K)) : ∃ b a r, st = lI b :: lI a :: r ∧ qa_sem X C Q (K b a r) := by
  unfold qa_s2I at h
  split at h
  · exact ⟨_, _, _, rfl, h⟩
  · exact (qe_no h).elim
theorem qe_s1L {K : Int64 → LStk → LNx} (h : qa_sem X C Q (qa_s1L s st K)) : ∃ a r, st = lL a :: r ∧ qa_sem X C Q (K a r) := by
  unfold qa_s1L at h
  split at h
  · exact ⟨_, _, rfl, h⟩
  · exact (qe_no h).elim
theorem qe_s2L {K : Int64 → Int64 → LStk → LNx} (h : qa_sem X C Q (qa_s2L s st K)) : ∃ b a r, st = lL b :: lL a :: r ∧ qa_sem X C Q (K b a r) := by
  unfold qa_s2L at h
  split at h
  · exact ⟨_, _, _, rfl, h⟩
  · exact (qe_no h).elim
theorem qe_sIL {K : Int32 → Int64 → LStk → LNx} (h : qa_sem X C Q (qa_sIL s st K)) : ∃ b a r, st = lI b :: lL a :: r ∧ qa_sem X C Q (K b a r) := by
  unfold qa_sIL at h
  split at h
  · exact ⟨_, _, _, rfl, h⟩
  · exact (qe_no h).elim
theorem qe_s1R {K : Nat → Option Nat → LStk → LNx} (h : qa_sem X C Q (qa_s1R s st K)) : ∃ k o r, st = lR k o :: r ∧ qa_sem X C Q (K k o r) := by
  unfold qa_s1R at h
  split at h
  · exact ⟨_, _, _, rfl, h⟩
  · exact (qe_no h).elim
theorem qe_sIR {K : Int32 → Nat → Option Nat → LStk → LNx} (h : qa_sem X C Q (qa_sIR s st K)) : ∃ b k o r, st = lI b :: lR k o :: r ∧ qa_sem X C Q (K b k o r) := by
  unfold qa_sIR at h
  split at h
  · exact ⟨_, _, _, _, rfl, h⟩
  · exact (qe_no h).elim
theorem qe_sLR {K : Int64 → Nat → Option Nat → LStk → LNx} (h : qa_sem X C Q (qa_sLR s st K)) : ∃ b k o r, st = lL b :: lR k o :: r ∧ qa_sem X C Q (K b k o r) := by
  unfold qa_sLR at h
  split at h
  · exact ⟨_, _, _, _, rfl, h⟩
  · exact (qe_no h).elim
theorem qe_sRR {K : Nat → Option Nat → Nat → Option Nat → LStk → LNx} (h : qa_sem X C Q (qa_sRR s st K)) : ∃ k' o' k o r, st = lR k' o' :: lR k o :: r ∧ qa_sem X C Q (K k' o' k o r) := by
  unfold qa_sRR at h
  split at h
  · exact ⟨_, _, _, _, _, rfl, h⟩
  · exact (qe_no h).elim
theorem qe_sIIR {K : Int32 → Int32 → Nat → Option Nat → LStk → LNx} (h : qa_sem X C Q (qa_sIIR s st K)) : ∃ u b k o r, st = lI u :: lI b :: lR k o :: r ∧ qa_sem X C Q (K u b k o r) := by
  unfold qa_sIIR at h
  split at h
  · exact ⟨_, _, _, _, _, rfl, h⟩
  · exact (qe_no h).elim
theorem qe_sLIR {K : Int64 → Int32 → Nat → Option Nat → LStk → LNx} (h : qa_sem X C Q (qa_sLIR s st K)) : ∃ u b k o r, st = lL u :: lI b :: lR k o :: r ∧ qa_sem X C Q (K u b k o r) := by
  unfold qa_sLIR at h
  split at h
  · exact ⟨_, _, _, _, _, rfl, h⟩
  · exact (qe_no h).elim
theorem qe_sRIR {K : Nat → Option Nat → Int32 → Nat → Option Nat → LStk → LNx} (h : qa_sem X C Q (qa_sRIR s st K)) : ∃ k' o' b k o r, st = lR k' o' :: lI b :: lR k o :: r ∧ qa_sem X C Q (K k' o' b k o r) := by
  unfold qa_sRIR at h
  split at h
  · exact ⟨_, _, _, _, _, _, rfl, h⟩
  · exact (qe_no h).elim
theorem qe_ldI {n : Nat} {K : Int32 → LNx} (h : qa_sem X C Q (qa_ldI s loc n K)) : ∃ a, qa_nth loc n = some (some (lI a)) ∧ qa_sem X C Q (K a) := by
  unfold qa_ldI at h
  split at h
  · rename_i e; exact ⟨_, e, h⟩
  · exact (qe_no h).elim
theorem qe_ldL {n : Nat} {K : Int64 → LNx} (h : qa_sem X C Q (qa_ldL s loc n K)) : ∃ a, qa_nth loc n = some (some (lL a)) ∧ qa_sem X C Q (K a) := by
  unfold qa_ldL at h
  split at h
  · rename_i e; exact ⟨_, e, h⟩
  · exact (qe_no h).elim
theorem qe_ldR {n : Nat} {K : Nat → Option Nat → LNx} (h : qa_sem X C Q (qa_ldR s loc n K)) : ∃ k o, qa_nth loc n = some (some (lR k o)) ∧ qa_sem X C Q (K k o) := by
  unfold qa_ldR at h
  split at h
  · rename_i e; exact ⟨_, _, e, h⟩
  · exact (qe_no h).elim
theorem qe_if {b : Bool} {n : LNx} (h : qa_sem X C Q (qa_if b s n)) : b = true ∧ qa_sem X C Q n := by
  cases b with
  | true => exact ⟨rfl, h⟩
  | false => exact (qe_no h).elim
theorem qe_gg {g : Option Prop} {bc bs pc : Nat} {r : LStk} (h : qa_sem X C Q (qa_gg g bc bs pc loc r s)) : qa_gd g True ∧ X bc bs pc loc r s := by
  cases g with
  | none => exact ⟨trivial, h⟩
  | some p => exact ⟨⟨h.1, trivial⟩, h.2⟩
theorem qe_gn {o : Option Nat} {A : Prop} (h : qa_gd (qa_gn o) A) : (∃ i, o = some i) ∧ A := by
  cases o with
  | none => exact h.1.elim
  | some i => exact ⟨⟨i, rfl⟩, h⟩
theorem qe_ga {g : Option Prop} {p A : Prop} (h : qa_gd (qa_ga g p) A) : qa_gd g True ∧ p ∧ A := by
  cases g with
  | none => exact ⟨trivial, h.1, h.2⟩
  | some q => exact ⟨⟨h.1.1, trivial⟩, h.1.2, h.2⟩
theorem qe_both {a b : Option Prop} {A : Prop} (h : qa_gd (qa_both a b) A) : qa_gd a True ∧ qa_gd b True ∧ A := by
  cases a with
  | none => cases b with
    | none => exact ⟨trivial, trivial, h⟩
    | some q => exact ⟨trivial, ⟨h.1, trivial⟩, h.2⟩
  | some p => cases b with
    | none => exact ⟨⟨h.1, trivial⟩, trivial, h.2⟩
    | some q => exact ⟨⟨h.1.1, trivial⟩, ⟨h.1.2, trivial⟩, h.2⟩
theorem qe_gn1 {o : Option Nat} (h : qa_gd (qa_gn o) True) : ∃ i, o = some i := (qe_gn h).1
end QE
/-- jumps: a list of pairs with keys apart -/
theorem qe_sw {K : Nat → Prop} {a : Int32} {d : Nat} : ∀ {l : List (Int32 × Nat)}, qa_nodup l = true → qa_jmp K (qa_swl a l) d → (∀ q ∈ l, a = q.1 → K q.2) ∧ ((∀ q ∈ l, a ≠ q.1) → K d)
  | [], _, h => ⟨fun q hq => (by cases hq), fun _ => h⟩
  | b :: l, hn, h => by
    obtain ⟨n1, n2⟩ := qa_and hn
    by_cases e : a = b.1
    · refine ⟨fun q hq hq2 => ?_, fun h9 => absurd e (h9 b List.mem_cons_self)⟩
      rcases List.mem_cons.mp hq with rfl | hq
      · exact h.1 e
      · have h8 := List.all_eq_true.mp n1 q hq
        rw [← e, ← hq2] at h8
        simp at h8
    · have h2 := qe_sw n2 (h.2 e)
      refine ⟨fun q hq hq2 => ?_, fun h9 => h2.2 fun q hq => h9 q (List.mem_cons_of_mem _ hq)⟩
      rcases List.mem_cons.mp hq with rfl | hq
      · exact absurd hq2 e
      · exact h2.1 q hq hq2
def qa_F (z : qa_S) (ph : Bool) (mi : Nat) (p : Program) (R : Room) (s : State) (m : MethodId) (args : Array Value) (meth : Method) (c : Code) (mc ms n0 : Nat) : Prop :=
  p.tables.exec = Jvm.exec ∧ c.code = qa_code mi ∧ c.maxLocals = qa_mL mi ∧ s.vm.findClass (qa_own (qa_ow mi)) = some m.cls ∧ (∀ w ∈ qa_W, w.before args s = true) ∧ ((qa_y mi).name = "<init>" → meth.name = "<init>") ∧
  va_K z.1 vwCl (qa_tys z) s ∧ qa_SF z s s.heap ∧ z.2.2.1 ≤ s.heap.size ∧ (ph = true → s.heap.size = z.2.2.1 + n0) ∧ mc ≤ R.cells ∧ ms ≤ R.slots ∧ 1 ≤ R.frames ∧ 64 ≤ R.locals
theorem qa_catS {z : qa_S} : ∀ (st : LStk), ((st.map (qa_val z)).map fun v => v.category).sum = qa_cat st
  | [] => rfl
  | v :: l => by
    have h1 : (qa_val z v).category = (match qa_isL v with | true => 2 | false => 1) := by
      cases hv : qa_isL v with
      | false => exact qa_cat1 hv
      | true =>
        rcases v with x | x | ⟨k, o⟩
        · cases hv
        · rfl
        · cases hv
    have ih := qa_catS (z := z) l
    simp only [List.map_cons, List.sum_cons, ih, h1, qa_cat]
    rfl
section QST
variable {p : Program} {l : Launch} {e : Env} {R : Room} {s : State} {m : MethodId} {args : Array Value} {below : List Frame} {meth : Method} {c : Code} {QF : State → Prop} {z : qa_S} {ph : Bool} {mi mc ms n0 : Nat}
/-- how many cells there can be -/
theorem qa_sizeW {H : Heap} {locs : List Loc} {cells slots : Nat} {g : JFrame} (k : H.size ≤ s.heap.size + cells → W p l e R s m args below meth c H locs cells slots QF g) : W p l e R s m args below meth c H locs cells slots QF g := by
  intro T hT Xs
  have h := Xs.same.2.2.1
  refine k ?_ T hT Xs
  rw [← hT]
  exact h
theorem qa_lower {w : LMem} {H : Heap} (hb : z.2.2.1 ≤ H.size) (hP : va_P z.1 vwCl (qa_wl z ph w) H) : z.2.2.1 + gN w ≤ H.size := by
  cases hn : gN w with
  | zero => exact hb
  | succ n =>
    have h1 : (qa_wl z ph w)[n]? = some (z.2.2.1 + n, qa_ce z ph w (qa_nm n).1 (qa_nm n).2) := by
      unfold qa_wl
      rw [List.getElem?_map, List.getElem?_range (by omega)]
      rfl
    have h2 := (hP n _ h1).lt
    have h3 : z.2.2.1 + n < H.size := h2
    omega
def qa_G (z : qa_S) (ph : Bool) (mi mc ms n0 : Nat) (p : Program) (l : Launch) (e : Env) (R : Room) (s : State) (m : MethodId) (args : Array Value) (below : List Frame) (meth : Method) (c : Code) (QF : State → Prop) (bc bs pc : Nat) (loc : LLoc) (st : LStk) (w : LMem) : Prop :=
  ∀ (H : Heap) (locs : List Loc) (cells slots : Nat) (ls : Array Slot), qa_Rel z ph w H → va_S (qa_A z) s.heap H locs → qa_lo z w (qa_mL mi) ls loc → qa_sv w st → cells + bc = mc → slots + bs = ms → n0 ≤ gN w → (ph = true → n0 + cells = gN w) → W p l e R s m args below meth c H locs cells slots QF (F0 m pc ls (st.map (qa_val z)))
end QST
