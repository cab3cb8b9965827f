/-! THE LIGHT MACHINE IS SOUND: what it comes to, the machine comes to. -/
/-- the frames that are left below the last depth -/
def qa_bs (it : Bool) : Nat := match it with | true => 1 | false => 20
def qa_rm (it : Bool) (d c : Nat) : Room := { frames := d + qa_bs it, cells := (qa_cst c).1, slots := (qa_cst c).2, locals := (d + qa_bs it) * 64 }
theorem qa_bs1 (it : Bool) : 1 ≤ qa_bs it := by cases it <;> decide
/-- the calls that are told by what they do -/
def qa_HINT (z : qa_S) (ph : Bool) (l : Launch) : Prop := ∀ (mi : Nat) (p : Program) (e : Env) (R : Room) (s : State) (m : MethodId) (args : Array Value) (below : List Frame) (meth : Method) (c : Code) (mc ms n0 : Nat), qa_F z ph mi p R s m args meth c mc ms n0 → 20 ≤ R.frames → 1280 ≤ R.locals → qa_HI z ph mi p l e R s m args below meth c qa_intr
theorem qa_mL9 : ∀ c, c < 314 → qa_mL c ≤ 45 ∧ plainName (qa_y c).cls = true ∧ qa_own (qa_ow c) = (qa_y c).cls := by decide +kernel
theorem qa_nth_app {α : Type} : ∀ (a b : List α) (i : Nat), qa_nth (a ++ b) i = if i < a.length then qa_nth a i else qa_nth b (i - a.length)
  | [], b, i => by simp
  | x :: a, b, 0 => by simp [qa_nth]
  | x :: a, b, i + 1 => by
    have := qa_nth_app a b i
    simp only [List.cons_append, qa_nth, this, List.length_cons, Nat.add_lt_add_iff_right, Nat.add_sub_add_right]
theorem qa_exp_len {z : qa_S} : ∀ As : List LV, (qa_exp As).length = (lg_sl (As.map (qa_val z))).length
  | [] => rfl
  | v :: As => by
    have ih := qa_exp_len (z := z) As
    have e : lg_sl ((v :: As).map (qa_val z)) = (if (qa_val z v).category = 2 then [Slot.val (qa_val z v), Slot.second] else [Slot.val (qa_val z v)]) ++ lg_sl (As.map (qa_val z)) := rfl
    have e2 : qa_exp (v :: As) = (match qa_isL v with | true => some v :: none :: qa_exp As | false => some v :: qa_exp As) := rfl
    rw [e, e2, List.length_append, ← ih]
    cases hv : qa_isL v with
    | true =>
      have h2 : (qa_val z v).category = 2 := by
        rcases v with x | x | ⟨k, o⟩
        · cases hv
        · rfl
        · cases hv
      rw [if_pos h2]
      simp
      omega
    | false =>
      have h1 := qa_cat1 (z := z) hv
      rw [if_neg (by omega)]
      simp
      omega
theorem qa_exp_mem {z : qa_S} : ∀ (As : List LV) (i j : Nat) (v : LV), qa_nth (qa_exp As) i = some (some v) → v ∈ As ∧ (j + i, qa_val z v) ∈ lv_args j (As.map (qa_val z))
  | [], _, _, _, h => by cases h
  | u :: As, i, j, v, h => by
    unfold qa_exp at h
    cases hu : qa_isL u with
    | true =>
      rw [hu] at h
      have h2 : (qa_val z u).category = 2 := by
        rcases u with x | x | ⟨k, o⟩
        · cases hu
        · rfl
        · cases hu
      have e : lv_args j ((u :: As).map (qa_val z)) = (j, qa_val z u) :: lv_args (j + 2) (As.map (qa_val z)) := by
        show (j, qa_val z u) :: lv_args (if (qa_val z u).category = 2 then j + 2 else j + 1) (As.map (qa_val z)) = _
        rw [if_pos h2]
      rw [e]
      match i, h with
      | 0, h => cases h; exact ⟨List.mem_cons_self, List.mem_cons_self⟩
      | 1, h => cases h
      | i + 2, h =>
        obtain ⟨g1, g2⟩ := qa_exp_mem (z := z) As i (j + 2) v h
        exact ⟨List.mem_cons_of_mem _ g1, List.mem_cons_of_mem _ (by rw [show j + (i + 2) = j + 2 + i by omega]; exact g2)⟩
    | false =>
      rw [hu] at h
      have h1 := qa_cat1 (z := z) hu
      have e : lv_args j ((u :: As).map (qa_val z)) = (j, qa_val z u) :: lv_args (j + 1) (As.map (qa_val z)) := by
        show (j, qa_val z u) :: lv_args (if (qa_val z u).category = 2 then j + 2 else j + 1) (As.map (qa_val z)) = _
        rw [if_neg (by omega)]
      rw [e]
      match i, h with
      | 0, h => cases h; exact ⟨List.mem_cons_self, List.mem_cons_self⟩
      | i + 1, h =>
        obtain ⟨g1, g2⟩ := qa_exp_mem (z := z) As i (j + 1) v h
        exact ⟨List.mem_cons_of_mem _ g1, List.mem_cons_of_mem _ (by rw [show j + (i + 1) = j + 1 + i by omega]; exact g2)⟩
theorem qa_nth_rep {n i : Nat} {v : LV} (h : qa_nth (List.replicate n (none : Option LV)) i = some (some v)) : False := by
  rw [qa_nth_get, List.getElem?_replicate] at h
  split at h <;> cases h
/-- the locals at a method's entry -/
theorem qa_lo_mk {z : qa_S} {w : LMem} {As : List LV} {n : Nat} (hv : ∀ v ∈ As, qa_vv w v) (hn : (qa_exp As).length ≤ n) : qa_lo z w n ((lg_sl (As.map (qa_val z)) ++ List.replicate (n - (lg_sl (As.map (qa_val z))).length) Slot.unset).toArray) (qa_mk As n) := by
  have hl := lv_entry (As.map (qa_val z)) (n := n) (by rw [← qa_exp_len]; exact hn)
  refine ⟨hl.1, hl.2.1, by unfold qa_mk; rw [List.length_append, List.length_replicate]; omega, fun i v h => ?_⟩
  unfold qa_mk at h
  rw [qa_nth_app] at h
  split at h
  · obtain ⟨g1, g2⟩ := qa_exp_mem (z := z) As i 0 v h
    rw [Nat.zero_add] at g2
    exact ⟨hl.2.2 _ g2, hv _ g1⟩
  · exact (qa_nth_rep h).elim
theorem qa_rt_use {X : Nat → Nat → Nat → LLoc → LStk → LMem → Prop} {C : Nat → List LV → LMem → LPost → Prop} {Q : LPost} {ph : Bool} {bc bs : Nat} {g : Option Prop} {r : Option LV} {w : LMem} (h : qa_sem X C Q (qa_rt ph bc bs g r w)) : (ph = true → bc = 0 ∧ bs = 0) ∧ qa_gd g (Q r w) := by
  cases ph with
  | false => exact ⟨fun q => (by cases q), h⟩
  | true => cases g with
    | none => exact ⟨fun _ => h.1, h.2⟩
    | some g => exact ⟨fun _ => h.1.1, h.1.2, h.2⟩
section QBODY
variable {l : Launch} {z : qa_S} {ph it : Bool}
/-- the body of a method of the light machine: it ends as the light machine says -/
def qa_B (z : qa_S) (ph it : Bool) (l : Launch) (f : Nat) : Prop := ∀ (d mi : Nat) (p : Program) (e : Env) (R : Room) (s : State) (m : MethodId) (args : Array Value) (below : List Frame) (meth : Method) (c : Code) (mc ms n0 bc bs pc : Nat) (loc : LLoc) (st : LStk) (w : LMem) (Q : LPost),
  mi < 314 → qa_F z ph mi p R s m args meth c mc ms n0 → meth.sig.returnType = qa_ret mi → meth.locks = false → d + qa_bs it ≤ R.frames → (d + qa_bs it) * 64 ≤ R.locals → qa_wy ph it f d mi bc bs pc loc st w Q →
  qa_G z ph mi mc ms n0 p l e R s m args below meth c (MQ below (qa_Qc z ph n0 mc Q) args s mc ms (qa_A z)) bc bs pc loc st w
theorem qa_met {f : Nat} (hB : qa_B z ph it l f) {d c : Nat} {As : List LV} {w : LMem} {Q : LPost} (hc : c < 314) (hv : ∀ v ∈ As, qa_vv w v) (hn : (qa_exp As).length ≤ qa_mL c) (h : qa_wy ph it f d c (qa_cst c).1 (qa_cst c).2 0 (qa_mk As (qa_mL c)) [] w Q) :
    Met l (qa_y c) (.code (qa_y c) (qa_code c) (qa_mL c) (qa_ret c) :: qa_W) (qa_rm it d c) (qa_Pc z ph As w) (qa_Qc z ph (gN w) (qa_cst c).1 Q) (qa_cst c).1 (qa_cst c).2 (qa_A z) := by
  refine Met.ofW (cc := qa_code c) (maxL := qa_mL c) (ret := qa_ret c) (qa_mL9 c hc).2.1 rfl ?_
  intro p e s m args below meth cc s₁ B hml hpc
  obtain ⟨rfl, hK, hSF, hR⟩ := hpc
  have hts := atoms_spec (ws := .code (qa_y c) (qa_code c) (qa_mL c) (qa_ret c) :: qa_W) B.pre
  have hown : s.vm.findClass (qa_own (qa_ow c)) = some m.cls := by rw [(qa_mL9 c hc).2.2]; exact findClass_of_methodNamed B.named
  have hnm : meth.name = (qa_y c).name := (name_of_methodNamed B.named B.method).1
  rw [lg_entry_eq]
  have hb0 : z.2.2.1 ≤ s.heap.size := Nat.le_trans (Nat.le_add_right _ _) hR.2.2.1
  have hF : qa_F z ph c p (headSpec (.code (qa_y c) (qa_code c) (qa_mL c) (qa_ret c) :: qa_W) (qa_rm it d c)).room s m (As.map (qa_val z)).toArray meth cc (qa_cst c).1 (qa_cst c).2 (gN w) :=
    ⟨B.exec, B.bytes, hml, hown, fun w' hw' => hts w' (List.mem_cons_of_mem _ hw'), (fun q => by rw [hnm]; exact q), hK, hSF, hb0, fun q => hR.2.2.2.1 q, Nat.le_refl _, Nat.le_refl _, Nat.le_trans (qa_bs1 it) (Nat.le_add_left _ d), by show 64 ≤ (d + qa_bs it) * 64; have := qa_bs1 it; omega⟩
  exact hB d c p e _ s m _ below meth cc _ _ (gN w) _ _ 0 _ [] w Q hc hF B.returns B.notSynchronized (Nat.le_refl _) (Nat.le_refl _) h s.heap [] 0 0 _ hR va_S.rf (qa_lo_mk hv hn) trivial (Nat.zero_add _) (Nat.zero_add _) (Nat.le_refl _) (fun _ => Nat.add_zero _)
theorem qa_B_all (hI : it = false → qa_HINT z ph l) : ∀ f, qa_B z ph it l f := by
  intro f
  induction f with
  | zero => intro d mi p e R s m args below meth c mc ms n0 bc bs pc loc st w Q hmi hF hret hlk hd1 hd2 h; exact h.elim
  | succ f ih =>
    intro d mi p e R s m args below meth c mc ms n0 bc bs pc loc st w Q hmi hF hret hlk hd1 hd2 h
    have h : (match qa_ft mi pc with
      | none => False
      | some e => qa_sem (fun bc bs pc loc st s => qa_wy ph it f d mi bc bs pc loc st s Q) (fun c args s Q' => qa_cm it (qa_wy ph it f) d c args s Q') Q (qa_ins ph mi bc bs e pc loc st w)) := h
    cases he : qa_ft mi pc with
    | none => rw [he] at h; exact h.elim
    | some ent =>
      rw [he] at h
      have hc := qa_ft_chk (by omega) he
      obtain ⟨ins, x, v, u⟩ := ent
      have h : qa_sem (fun bc bs pc loc st s => qa_wy ph it f d mi bc bs pc loc st s Q) (fun c args s Q' => qa_cm it (qa_wy ph it f) d c args s Q') Q (qa_ins ph mi bc bs (ins, x, v, u) pc loc st w) := h
      have hX : ∀ bc bs pc loc st w, qa_wy ph it f d mi bc bs pc loc st w Q → qa_G z ph mi mc ms n0 p l e R s m args below meth c (MQ below (qa_Qc z ph n0 mc Q) args s mc ms (qa_A z)) bc bs pc loc st w :=
        fun bc bs pc loc st w h9 => ih d mi p e R s m args below meth c mc ms n0 bc bs pc loc st w Q hmi hF hret hlk hd1 hd2 h9
      have hM : qa_HM z ph l R (fun c args s Q' => qa_cm it (qa_wy ph it f) d c args s Q') := by
        intro c' As w' Q' hc' h' hv
        have hb9 : Nat.ble 1000 c' = false := qa_blf (a := 999) (b := c') (by omega)
        have h' : qa_cm it (qa_wy ph it f) d c' As w' Q' := h'
        unfold qa_cm at h'
        rw [hb9] at h'
        cases hl9 : Nat.ble (qa_exp As).length (qa_mL c') with
        | false => rw [hl9] at h'; exact h'.elim
        | true =>
          rw [hl9] at h'
          cases d with
          | zero => exact h'.elim
          | succ d =>
            refine ⟨qa_rm it d c', qa_met ih hc' hv (Nat.le_of_ble_eq_true hl9) h', rfl, rfl, ?_, ?_⟩
            · show d + qa_bs it + 1 ≤ R.frames
              omega
            · have := (qa_mL9 c' hc').1
              show 8 + (qa_mL c' + 11) + (d + qa_bs it) * 64 ≤ R.locals
              omega
      have hI' : qa_HI z ph mi p l e R s m args below meth c (fun c args s Q' => qa_cm it (qa_wy ph it f) d c args s Q') := by
        intro c' na v rk cc cs i pc As w Q' H locs cells slots ls rest g1 g2 g3 g4 g5
        have g5 : qa_cm it (qa_wy ph it f) d c' As w Q' := g5
        unfold qa_cm at g5
        rw [Nat.ble_eq_true_of_le g1] at g5
        cases it with
        | true => exact g5.elim
        | false => exact hI rfl mi p e R s m args below meth c mc ms n0 hF (by have h9 : d + 20 ≤ R.frames := hd1; omega) (by have h9 : (d + 20) * 64 ≤ R.locals := hd2; omega) c' na v rk cc cs i pc As w Q' H locs cells slots ls rest g1 g2 g3 g4 g5
      cases hr : qa_isret ins with
      | false => exact qa_step hF hM hI' hc hX hr h
      | true =>
        obtain ⟨hx, hb, hml, hown, hts, hnm, hK, hSF, hb0, hsz, hmc, hms, hfr, hlo9⟩ := id hF
        intro H locs cells slots ls hR hS hL hV h1 h2 h3 h4
        refine W.widen (k := mc) (n := ms) (by omega) (by omega) ?_
        obtain ⟨hd0, hc⟩ := qa_and hc
        have hdg := of_decide_eq_true hd0
        have hend : ∀ (r : Option LV), Q r w → (ph = true → bc = 0 ∧ bs = 0) → (∀ v, r = some v → qa_vv w v) → ∀ t : State, t.heap = H → s.WarmedH t.vm → qa_Qc z ph n0 mc Q args s (.returned (r.map (qa_val z))) t :=
          fun r hq hbc hv9 t ht _ => ⟨⟨r, w, hq, rfl, by rw [ht]; exact hR, h3, fun q => by have := (hbc q).1; have := h4 q; omega, hv9⟩, hS.F ht⟩
        cases ins <;> first | (cases hr; done) | skip
        case ireturn =>
          rcases st with _ | ⟨v0, st⟩
          · exact (qe_no h).elim
          · rcases v0 with a | v0
            · rcases st with _ | ⟨v1, st⟩
              · cases hx0 : qa_get x 0 with
                | zero =>
                  have h : qa_sem (fun bc bs pc loc st s => qa_wy ph it f d mi bc bs pc loc st s Q) (fun c args s Q' => qa_cm it (qa_wy ph it f) d c args s Q') Q (match qa_get x 0 with | 0 => qa_rt ph bc bs none (some (lI a)) w | _ => qa_rt ph bc bs (some (a = 0 ∨ a = 1)) (some (lI a)) w) := h
                  rw [hx0] at h
                  obtain ⟨hbc, hq⟩ := qa_rt_use h
                  have hc : (match qa_get x 0 with | 0 => decide (qa_ret mi = some .int) | _ => decide (qa_ret mi = some .boolean)) = true := hc
                  rw [hx0] at hc
                  exact W.iret hx hb (by rw [hret]; exact of_decide_eq_true hc) (hend (some (lI a)) hq hbc (fun v hv => by cases hv; trivial)) hS.2.2 hdg hlk
                | succ n9 =>
                  have h : qa_sem (fun bc bs pc loc st s => qa_wy ph it f d mi bc bs pc loc st s Q) (fun c args s Q' => qa_cm it (qa_wy ph it f) d c args s Q') Q (match qa_get x 0 with | 0 => qa_rt ph bc bs none (some (lI a)) w | _ => qa_rt ph bc bs (some (a = 0 ∨ a = 1)) (some (lI a)) w) := h
                  rw [hx0] at h
                  obtain ⟨hbc, hq⟩ := qa_rt_use h
                  have hc : (match qa_get x 0 with | 0 => decide (qa_ret mi = some .int) | _ => decide (qa_ret mi = some .boolean)) = true := hc
                  rw [hx0] at hc
                  exact W.zret hx hb (by rw [hret]; exact of_decide_eq_true hc) (by rcases hq.1 with rfl | rfl <;> rfl) (hend (some (lI a)) hq.2 hbc (fun v hv => by cases hv; trivial)) hS.2.2 hdg hlk
              · exact (qe_no h).elim
            · exact (qe_no h).elim
        case lreturn =>
          rcases st with _ | ⟨v0, st⟩
          · exact (qe_no h).elim
          · rcases v0 with a | a | a
            · exact (qe_no h).elim
            · rcases st with _ | ⟨v1, st⟩
              · obtain ⟨hbc, hq⟩ := qa_rt_use h
                exact W.lret hx hb (by rw [hret]; exact of_decide_eq_true hc) (hend (some (lL a)) hq hbc (fun v hv => by cases hv; trivial)) hS.2.2 hdg hlk
              · exact (qe_no h).elim
            · exact (qe_no h).elim
        case areturn =>
          rcases st with _ | ⟨v0, st⟩
          · exact (qe_no h).elim
          · rcases v0 with a | a | ⟨k, o⟩
            · exact (qe_no h).elim
            · exact (qe_no h).elim
            · rcases st with _ | ⟨v1, st⟩
              · obtain ⟨hk, h⟩ := qe_if h
                obtain ⟨hbc, hq⟩ := qa_rt_use h
                obtain ⟨hc1, hc2⟩ := qa_and hc
                have hko : qa_val z (lR k o) = qa_val z (lR (qa_get x 0) o) ∧ qa_vv w (lR (qa_get x 0) o) := by
                  cases o with
                  | none => exact ⟨rfl, trivial⟩
                  | some i =>
                    have hk : k = qa_get x 0 := qa_beq (by simpa [qa_nul] using hk)
                    rw [← hk]
                    exact ⟨rfl, hV.1⟩
                have hst : (F0 m pc ls (([Sum.inr (Sum.inr (k, o))] : LStk).map (qa_val z))) = F0 m pc ls [qa_val z (lR (qa_get x 0) o)] := by
                  rw [← hko.1]
                  rfl
                rw [hst]
                exact W.aret hx hb (by rw [hret]; exact of_decide_eq_true hc2) (Or.inl ⟨_, rfl⟩) (by cases o with | none => exact Or.inl rfl | some i => exact Or.inr ⟨_, rfl⟩) (hend (some (lR (qa_get x 0) o)) hq hbc (fun v hv => by cases hv; exact hko.2)) hS.2.2 hdg hlk
              · exact (qe_no h).elim
        case return_ =>
          rcases st with _ | ⟨v0, st⟩
          · obtain ⟨hbc, hq⟩ := qa_rt_use h
            exact W.vret hx hb (by rw [hret]; exact of_decide_eq_true hc) (hend none hq hbc (fun v hv => by cases hv)) hS.2.2 hdg hlk
          · exact (qe_no h).elim
end QBODY
