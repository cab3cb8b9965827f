/-! Calls. -/
def qa_vi (v i : Nat) : Instr := match v with | 0 => .invokestatic i | 1 => .invokevirtual i | _ => .invokespecial i
def qa_Pc (z : qa_S) (ph : Bool) (As : List LV) (w : LMem) : Array Value → State → Prop := va_Pc (As.map (qa_val z)) (fun U => va_K z.1 vwCl (qa_tys z) U ∧ qa_SF z U U.heap ∧ qa_Rel z ph w U.heap)
def qa_Qc (z : qa_S) (ph : Bool) (n0 cc : Nat) (Q : LPost) : Array Value → State → Outcome → State → Prop := fun _ st oc t =>
  (∃ (r : Option LV) (w' : LMem), Q r w' ∧ oc = .returned (r.map (qa_val z)) ∧ qa_Rel z ph w' t.heap ∧ n0 ≤ gN w' ∧ (ph = true → gN w' = n0 + cc) ∧ ∀ v, r = some v → qa_vv w' v) ∧ va_F (qa_A z) st t
theorem qa_Pc_blind {z : qa_S} {ph : Bool} {As : List LV} {w : LMem} : FrameBlind (qa_Pc z ph As w) := by
  intro a U g mk h
  obtain ⟨h0, h1, h2, h3⟩ := h
  exact ⟨h0, va_K.moved (u := U) (U := U.calling g mk a) (Vm.Alike.refl U.vm) h1, qa_SF_same (u := U) (U := U.calling g mk a) rfl rfl h2, h3⟩
theorem qa_split_e : ∀ {n : Nat} {st acc a r}, qa_split n st acc = some (a, r) → ∃ t : LStk, st = t ++ r ∧ a = t.reverse ++ acc ∧ t.length = n
  | 0, st, acc, a, r, h => by cases h; exact ⟨[], rfl, rfl, rfl⟩
  | n + 1, [], acc, a, r, h => by cases h
  | n + 1, v :: st, acc, a, r, h => by
    obtain ⟨t, h1, h2, h3⟩ := qa_split_e (n := n) (st := st) h
    exact ⟨v :: t, by rw [h1]; rfl, by rw [h2]; simp, by rw [List.length_cons, h3]⟩
theorem qa_sv_app {w : LMem} : ∀ {a b : LStk}, qa_sv w (a ++ b) → (∀ v ∈ a, qa_vv w v) ∧ qa_sv w b
  | [], _, h => ⟨fun v hv => (by cases hv), h⟩
  | u :: a, b, h => by
    obtain ⟨h1, h2⟩ := qa_sv_app (a := a) h.2
    refine ⟨fun v hv => ?_, h2⟩
    rcases List.mem_cons.mp hv with rfl | hv
    · exact h.1
    · exact h1 v hv
theorem qa_Wgood {w : Cond} (h : w ∈ qa_W) : (w.onTables && w.keeps) = true ∨ ∃ ty, w = .arrayClass ty := good_of_word (List.mem_filter.mp h).2
section QCALL
variable {p : Program} {l : Launch} {e : Env} {R : Room} {s : State} {m : MethodId} {args : Array Value} {below : List Frame} {meth : Method} {c : Code} {QF : State → Prop} {z : qa_S} {ph : Bool} {mi mc ms n0 : Nat}
variable {X : Nat → Nat → Nat → LLoc → LStk → LMem → Prop} {C : Nat → List LV → LMem → LPost → Prop} {Q : LPost}
/-- behind a call -/
theorem qa_callW {Q' : LPost} {w : LMem} {a : Array Value} {H : Heap} {locs : List Loc} {cells slots cc cs pc : Nat} {ls : Array Slot} {st0 rest : List Value}
    (hr : va_Run p l e R s m args below meth c H locs cells slots cc cs (F0 m pc ls st0) rest (qa_Qc z ph (gN w) cc Q' a) (qa_A z)) (hS : va_S (qa_A z) s.heap H locs)
    (kk : ∀ (r : Option LV) (w' : LMem) (H1 : Heap) (locs1 : List Loc), Q' r w' → qa_Rel z ph w' H1 → gN w ≤ gN w' → (ph = true → gN w' = gN w + cc) → (∀ v, r = some v → qa_vv w' v) → va_S (qa_A z) s.heap H1 locs1 →
      W p l e R s m args below meth c H1 locs1 (cells + cc) (slots + cs) QF (F0 m (pc + 3) ls ((r.map (qa_val z)).toList ++ rest))) : W p l e R s m args below meth c H locs cells slots QF (F0 m pc ls st0) := by
  intro T hT Xs
  obtain ⟨v, st₀, t, T', L, h0, X', hL, e1, e2, ⟨⟨r, w', q1, q2, q3, q4, q5, q6⟩, q7, q8⟩, st⟩ := hr T hT Xs
  cases q2
  rw [h0] at q7 q8
  obtain ⟨t2, a1, b1⟩ := kk r w' T'.heap (locs ++ L) q1 (by rw [e1]; exact q3) q4 q5 q6
    ⟨Nat.le_trans hS.1 (by rw [e1]; exact q7), fun q h1 h2 => by rw [e1, q8 q (Nat.lt_of_lt_of_le h1 hS.1) h2]; exact hS.2.1 q h1 h2, fun q hq => by
      rcases List.mem_append.mp hq with h | h
      · exact hS.2.2 q h
      · exact hL q h⟩ T' rfl X'
  exact ⟨t2, st t2 a1, b1⟩
/-- what a callee must give: its contract, in room -/
def qa_HM (z : qa_S) (ph : Bool) (l : Launch) (R : Room) (C : Nat → List LV → LMem → LPost → Prop) : Prop := ∀ (c' : Nat) (As : List LV) (w : LMem) (Q' : LPost), c' < 314 → C c' As w Q' → (∀ v ∈ As, qa_vv w v) →
  ∃ rm : Room, Met l (qa_y c') (.code (qa_y c') (qa_code c') (qa_mL c') (qa_ret c') :: qa_W) rm (qa_Pc z ph As w) (qa_Qc z ph (gN w) (qa_cst c').1 Q') (qa_cst c').1 (qa_cst c').2 (qa_A z) ∧ rm.cells = (qa_cst c').1 ∧ rm.slots = (qa_cst c').2 ∧ rm.frames + 1 ≤ R.frames ∧ 8 + (qa_mL c' + 11) + rm.locals ≤ R.locals
/-- the JDK's own, and DitchOpenLaw.reach, where they are called: from any frame of this method -/
def qa_HI (z : qa_S) (ph : Bool) (mi : Nat) (p : Program) (l : Launch) (e : Env) (R : Room) (s : State) (m : MethodId) (args : Array Value) (below : List Frame) (meth : Method) (c : Code) (C : Nat → List LV → LMem → LPost → Prop) : Prop :=
  ∀ (c' na v rk cc cs i pc : Nat) (As : List LV) (w : LMem) (Q' : LPost) (H : Heap) (locs : List Loc) (cells slots : Nat) (ls : Array Slot) (rest : LStk), 1000 ≤ c' →
    (c', na, v, rk, cc, cs) = (1005, 2, 1, 64, 0, 0) ∨ (c', na, v, rk, cc, cs) = (1006, 1, 1, 64, 0, 0) ∨ (c', na, v, rk, cc, cs) = (1007, 5, 0, 0, 1, 6) → qa_pmc (qa_ow mi) i c' v = true →
    decode (qa_code mi) pc = .ok (qa_vi v i, 3) → C c' As w Q' → (∀ v ∈ As, qa_vv w v) → As.length = na → qa_cat rest ≤ 8 →
    qa_Rel z ph w H → va_S (qa_A z) s.heap H locs → ls.size = qa_mL mi → cells + cc ≤ R.cells → slots + cs ≤ R.slots →
    va_Run p l e R s m args below meth c H locs cells slots cc cs (F0 m pc ls ((As.reverse ++ rest).map (qa_val z))) (rest.map (qa_val z)) (qa_Qc z ph (gN w) cc Q' ((As.map (qa_val z)).toArray)) (qa_A z)
theorem qa_kk_go {rt k : Nat} {K : LStk → LMem → Prop} {rest : LStk} {r : Option LV} {w' : LMem} (h : qa_kk rt k K rest r w') : ∃ st', K st' w' ∧ st'.map (qa_val z) = (r.map (qa_val z)).toList ++ rest.map (qa_val z) ∧ ((∀ v, r = some v → qa_vv w' v) → qa_sv w' rest → qa_sv w' st') := by
  unfold qa_kk at h
  split at h
  · obtain ⟨a, rfl, h⟩ := h
    exact ⟨_, h, rfl, fun _ h9 => ⟨trivial, h9⟩⟩
  · obtain ⟨a, rfl, h⟩ := h
    exact ⟨_, h, rfl, fun _ h9 => ⟨trivial, h9⟩⟩
  · obtain ⟨a, rfl, h⟩ := h
    exact ⟨_, h, rfl, fun _ h9 => ⟨trivial, h9⟩⟩
  · rcases h with ⟨rfl, h⟩ | ⟨i, rfl, h⟩
    · exact ⟨_, h, rfl, fun _ h9 => ⟨trivial, h9⟩⟩
    · exact ⟨_, h, rfl, fun h8 h9 => ⟨h8 _ rfl, h9⟩⟩
  · obtain ⟨rfl, h⟩ := h
    exact ⟨_, h, rfl, fun _ h9 => h9⟩
def qa_pmB (o i c v : Nat) (n : Bool) : List Cond := .initialized (qa_y c).cls :: .initialized (qa_y c).cls :: (match n with | true => .initialized (qa_y c).cls | false => .methodLink (qa_own o) i (qa_y c)) :: (match v with
      | 0 => [.static (qa_y c)]
      | 1 => [.instanceMethod (qa_y c), .selects (qa_y c).cls (qa_y c) (qa_y c)]
      | _ => [.instanceMethod (qa_y c)])
theorem qa_pmfB {o i c v : Nat} {n : Bool} (h : Nat.ble 1000 c = false) : qa_pmf (o, i, c, v, n) = qa_pmB o i c v n := by
  unfold qa_pmf
  split
  rename_i e
  cases e
  split
  · rename_i e2
    rw [h] at e2
    cases e2
  · rfl
/-- what the tables say of a call -/
theorem qa_runF (hNst : qa_nest s) {c' i v : Nat} (hc : c' < 1000) (hpm : qa_pmc (qa_ow mi) i c' v = true) : ∃ n9 : Bool, c' < 314 ∧ (n9 = true → va_Nw (Cond.methodLinkNest (qa_own (qa_ow mi)) i (qa_y c') "DitchOpen") s) ∧ ((qa_y c').cls ≠ "java/lang/invoke/MethodHandle" ∧ (qa_y c').cls ≠ "java/lang/invoke/VarHandle") ∧ (v = 2 → (qa_y c').name = "<init>" ∧ qa_ret c' = none) ∧ (n9 = true → v = 0 ∨ v = 2) ∧ v < 3 ∧
    Cond.code (qa_y c') (qa_code c') (qa_mL c') (qa_ret c') ∈ qa_W ∧ Cond.initialized (qa_y c').cls ∈ qa_W ∧ (n9 = false → Cond.methodLink (qa_own (qa_ow mi)) i (qa_y c') ∈ qa_W) ∧ (v = 0 → Cond.static (qa_y c') ∈ qa_W) ∧ (v ≠ 0 → Cond.instanceMethod (qa_y c') ∈ qa_W) ∧ (v = 1 → Cond.selects (qa_y c').cls (qa_y c') (qa_y c') ∈ qa_W) := by
  obtain ⟨⟨o9, i9, c9, v9, n9⟩, hq, h2⟩ := List.any_eq_true.mp hpm
  obtain ⟨e1, h2⟩ := qa_and h2
  obtain ⟨e2, h2⟩ := qa_and h2
  obtain ⟨e3, e4⟩ := qa_and h2
  have hq : (qa_ow mi, i, c', v, n9) ∈ qa_pm := by
    have g1 : o9 = qa_ow mi := qa_beq e1
    have g2 : i9 = i := qa_beq e2
    have g3 : c9 = c' := qa_beq e3
    have g4 : v9 = v := qa_beq e4
    rw [← g1, ← g2, ← g3, ← g4]
    exact hq
  obtain ⟨y1, y2, y3, y4, y5, y6, y7⟩ := qa_pmx _ hq hc
  dsimp only at y1 y2 y3 y4 y5 y6 y7
  have hw : ∀ x ∈ qa_pmf (qa_ow mi, i, c', v, n9), x ∈ qa_W := fun x hx9 => qa_mW (List.all_eq_true.mp (qa_pm9 _ hq) x hx9)
  have hb9 : Nat.ble 1000 c' = false := qa_blf (a := 999) (b := c') (by omega)
  rw [qa_pmfB hb9] at hw
  have hq2 : n9 = true → va_Nw (Cond.methodLinkNest (qa_own (qa_ow mi)) i (qa_y c') "DitchOpen") s := fun q => hNst.2.1 (qa_ow mi, i, c', v, n9) hq q
  refine ⟨n9, qa_pmx2 _ hq hc, hq2, y1, y3, y5, y6, qa_cd c' (qa_pmx2 _ hq hc), hw _ (by exact List.mem_cons_self), fun q => ?_, fun q => ?_, fun q => ?_, fun q => ?_⟩
  · subst q
    exact hw _ (by exact List.mem_cons_of_mem _ (List.mem_cons_of_mem _ List.mem_cons_self))
  · subst q
    exact hw _ (by exact List.mem_cons_of_mem _ (List.mem_cons_of_mem _ (List.mem_cons_of_mem _ List.mem_cons_self)))
  · rcases (show v = 1 ∨ v = 2 by omega) with rfl | rfl <;> exact hw _ (by exact List.mem_cons_of_mem _ (List.mem_cons_of_mem _ (List.mem_cons_of_mem _ List.mem_cons_self)))
  · subst q
    exact hw _ (by exact List.mem_cons_of_mem _ (List.mem_cons_of_mem _ (List.mem_cons_of_mem _ (List.mem_cons_of_mem _ List.mem_cons_self))))
set_option maxHeartbeats 400000 in
/-- a call of a method that the light machine goes through -/
theorem qa_run (hF : qa_F z ph mi p R s m args meth c mc ms n0) (hM : qa_HM z ph l R C) {c' na v rk i pc : Nat} {As : List LV} {w : LMem} {Q' : LPost} {H : Heap} {locs : List Loc} {cells slots : Nat} {ls : Array Slot} {rest : LStk}
    (hc : c' < 1000) (hpm : qa_pmc (qa_ow mi) i c' v = true) (hdg : decode (qa_code mi) pc = .ok (qa_vi v i, 3))
    (hna : (parseMethodDescriptor (qa_y c').desc).map (fun d => d.parameters.length + min v 1) = some na) (hrk : v ≠ 0 → rk < 60 ∧ qa_oc rk < 13 ∧ (qa_y c').cls = qa_own (qa_oc rk) ∧ ∃ b As', As = lR rk (some b) :: As')
    (h : C c' As w Q') (hv : ∀ v ∈ As, qa_vv w v) (hlen : As.length = na) (hcat : qa_cat rest ≤ 8) (hR : qa_Rel z ph w H) (hS : va_S (qa_A z) s.heap H locs) (hls : ls.size = qa_mL mi) (hcl : cells + (qa_cst c').1 ≤ R.cells) (hsl : slots + (qa_cst c').2 ≤ R.slots) :
    va_Run p l e R s m args below meth c H locs cells slots (qa_cst c').1 (qa_cst c').2 (F0 m pc ls ((As.reverse ++ rest).map (qa_val z))) (rest.map (qa_val z)) (qa_Qc z ph (gN w) (qa_cst c').1 Q' ((As.map (qa_val z)).toArray)) (qa_A z) := by
  obtain ⟨hx, hb, hml, hown, hts, hnm, hK, hSF, hb0, -, -, -, -, -⟩ := hF
  have hNst : qa_nest s := hSF.2.2.2.2.2.2
  obtain ⟨n9, hc3, hq, y1, y3, y5, y6, w1, w2, w3, w4, w5, w6⟩ := qa_runF (mi := mi) hNst hc hpm
  obtain ⟨rm, hMet, r1, r2, r3, r4⟩ := hM c' As w Q' hc3 h hv
  have hN9 : n9 = true → (Cond.methodLinkNest (qa_own (qa_ow mi)) i (qa_y c') "DitchOpen").before args s = true := fun q => va_Nw.use rfl (hq q)
  have hgood : GoodIn qa_W (.code (qa_y c') (qa_code c') (qa_mL c') (qa_ret c') :: qa_W) := fun x hx9 => by
    rcases List.mem_cons.mp hx9 with rfl | hx9
    · exact ⟨w1, qa_Wgood w1⟩
    · exact ⟨hx9, qa_Wgood hx9⟩
  have hpay := pay_in hts hgood
  have hcode := hts _ w1
  have hini := hts _ w2
  have hfix : CallFix p m c (qa_code mi) (qa_mL mi) s args qa_W (qa_own (qa_ow mi)) := ⟨hx, hb, hml, hown, hts⟩
  have hPcU : ∀ U : State, U.heap = H → s.WarmedH U.vm → qa_Pc z ph As w (As.map (qa_val z)).toArray U := fun U hU hW => ⟨rfl, va_K.moved hW.alike hK, qa_SF_moved (H := U.heap) hSF hW (fun a h1 h2 => by rw [hU]; exact hS.2.1 a h1 h2), by rw [hU]; exact hR⟩
  have hcat' : 2 * (F0 m pc ls ((As.reverse ++ rest).map (qa_val z))).monitorRoom + ((rest.map (qa_val z)).map fun v => v.category).sum ≤ 8 := lv_room (by rw [qa_catS]; exact hcat)
  rcases (show v = 0 ∨ v = 1 ∨ v = 2 by omega) with rfl | rfl | rfl
  · have hst : (F0 m pc ls ((As.reverse ++ rest).map (qa_val z))).stack = (As.map (qa_val z)).reverse ++ rest.map (qa_val z) := by simp
    have hn9 : ∀ sig, parseMethodDescriptor (qa_y c').desc = some sig → na = sig.parameters.length := fun sig h9 => by rw [h9] at hna; exact (Option.some.inj hna).symm
    have w4' := hts _ (w4 rfl)
    cases n9 with
    | true => exact va_runSN hfix hMet ⟨⟨⟨r1, r2, r3, r4, hpay, List.mem_cons_self⟩, hcode, hini, y1, hn9, hN9 rfl⟩, w4', trivial⟩ ⟨qa_Pc_blind, hPcU⟩ rfl (by rw [List.length_map]; exact hlen) hls hst hcat' hdg ⟨hcl, hsl⟩
    | false => exact va_runS hfix hMet ⟨⟨r1, r2, r3, r4, hpay, List.mem_cons_self, hcode, hini, y1, hn9, hts _ (w3 rfl)⟩, w4'⟩ ⟨qa_Pc_blind, hPcU⟩ rfl (by rw [List.length_map]; exact hlen) hls hst hcat' hdg ⟨hcl, hsl⟩
  · obtain ⟨k1, k2, k3, b, As', rfl⟩ := hrk (by omega)
    have hst : (F0 m pc ls ((((lR rk (some b)) :: As').reverse ++ rest).map (qa_val z))).stack = (As'.map (qa_val z)).reverse ++ .ref (qa_rho z rk b) :: rest.map (qa_val z) := by simp [qa_val, va_rf]
    have hn9 : ∀ sig, parseMethodDescriptor (qa_y c').desc = some sig → na - 1 = sig.parameters.length := fun sig h9 => by rw [h9] at hna; have := Option.some.inj hna; simp at this; omega
    have hl9 : (As'.map (qa_val z)).length = na - 1 := by rw [List.length_map]; simp at hlen; omega
    have hvb : qa_vd w rk b := hv (lR rk (some b)) List.mem_cons_self
    have he := qa_wl_get (z := z) (ph := ph) k1 hvb
    have hrecv : ∃ cellB : Cell, H[qa_rho z rk b]? = some cellB ∧ cellB.vm.isStatics = false ∧ s.vm.findClass (qa_y c').cls = some cellB.cls := by
      rw [k3]
      unfold qa_ce at he
      rw [qa_blt k2] at he
      exact va_recv hK hR.2.1 (qa_cl_get _ k2) he
    cases n9 with
    | true => exact absurd (y5 rfl) (by omega)
    | false => exact va_runV hfix hMet ⟨⟨r1, r2, r3, r4, hpay, List.mem_cons_self, hcode, hini, y1, hn9, hts _ (w3 rfl)⟩, hts _ (w5 (by decide)), hts _ (w6 rfl)⟩ ⟨qa_Pc_blind, hrecv, hPcU⟩ rfl hl9 hls hst hcat' hdg ⟨hcl, hsl⟩
  · obtain ⟨k1, k2, k3, b, As', rfl⟩ := hrk (by omega)
    have hst : (F0 m pc ls ((((lR rk (some b)) :: As').reverse ++ rest).map (qa_val z))).stack = (As'.map (qa_val z)).reverse ++ .ref (qa_rho z rk b) :: rest.map (qa_val z) := by simp [qa_val, va_rf]
    have hn9 : ∀ sig, parseMethodDescriptor (qa_y c').desc = some sig → na - 1 = sig.parameters.length := fun sig h9 => by rw [h9] at hna; have := Option.some.inj hna; simp at this; omega
    have hl9 : (As'.map (qa_val z)).length = na - 1 := by rw [List.length_map]; simp at hlen; omega
    have hret : qa_ret c' = none := (y3 rfl).2
    rw [hret] at hMet hpay hcode
    cases n9 with
    | true => exact va_runIN hfix hMet ⟨⟨⟨r1, r2, r3, r4, hpay, List.mem_cons_self⟩, hcode, hini, y1, hn9, hN9 rfl⟩, (y3 rfl).1, hts _ (w5 (by decide))⟩ ⟨qa_Pc_blind, hPcU⟩ rfl hl9 hls hst hcat' hdg ⟨hcl, hsl⟩
    | false => exact va_runI hfix hMet ⟨⟨r1, r2, r3, r4, hpay, List.mem_cons_self, hcode, hini, y1, hn9, hts _ (w3 rfl)⟩, (y3 rfl).1, hts _ (w5 (by decide))⟩ ⟨qa_Pc_blind, hPcU⟩ rfl hl9 hls hst hcat' hdg ⟨hcl, hsl⟩
end QCALL
