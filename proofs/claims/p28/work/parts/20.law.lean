/-! The law's own frame. -/
def R_law : String := "DitchOpenLaw"
def lw_P (b : Addr) (xs : List Int32) (args : Array Value) (s : State) : Prop := args = #[.ref b] ∧ s.IntsAt b xs ∧ xs.length ≤ 3584 ∧ (Jvm.Cond.and given_1 narrow_1).before args s = true
def lw_Q (_ : Array Value) (s : State) (o : Outcome) (t : State) : Prop := o = .returned (some (.int 1)) ∧ Framed s o t [] 601024 7293034
def lw_Z (below : List Frame) (a : Array Value) (s : State) : State → Prop := fun t => ∃ o, t.status = .running ∧ Ended t below o ∧ lw_Q a s o t
/-- the law's own end, with 1 on the stack, nothing written that was there before, its room as the claim has it -/
theorem lw_ret {p : Program} {l : Launch} {e : Env} {s : State} {m : MethodId} {below : List Frame} {meth : Method} {c : Code} {b : Nat} (hx : p.tables.exec = Jvm.exec) (hb : c.code = code) (hr : meth.sig.returnType = ret) (hlocks : meth.locks = false) {pc : Nat} {H : Heap} {ls : Array Slot} (hdg : decode code pc = .ok (.ireturn, 1)) : W p l e room_1 s m #[Value.ref b] below meth c H [] 601024 7293034 (lw_Z below #[Value.ref b] s) (F0 m pc ls [.int 1]) := by
  intro T hT X
  obtain ⟨fs, hret, hrun, hended, hW, hframe⟩ := X.leave (v := some (.int 1)) (hlocks := hlocks) (fun h => by rw [hr] at h; cases h)
  have hmeth' : T.vm.method? m = some meth := X.method'
  refine ⟨T.setFrames fs, ?_, .returned (some (.int 1)), hrun, hended, rfl, ⟨_, rfl⟩, hW, hframe⟩
  jvm_step X.here [X.here.top, hx, hb, hdg, hmeth', hr, ret, narrow_b1]
  (try refine ⟨rfl, ?_⟩); (try refine ⟨rfl, ?_⟩)
  first | (intro acts; rw [hret _ acts rfl rfl rfl]) | rw [hret _ _ rfl rfl rfl]
  exact Steps.refl _
/-- what holds at the law's entry: the machine, the code, the tables' words (any of lw_tbl by 'hts w (by decide +kernel)'), the script of L ints xs at the cell b, what the Statement gives of the start (any of its parts by flat_of_before) -/
def lw_At (p : Program) (s : State) (m : MethodId) (meth : Method) (c : Code) (b L : Nat) (xs : Nat → Int32) : Prop :=
  p.tables.exec = Jvm.exec ∧ c.code = code ∧ meth.sig.returnType = ret ∧ c.maxLocals = 7 ∧ s.vm.findClass R_law = some m.cls ∧ (∀ w ∈ lw_tbl, w.before #[Value.ref b] s = true) ∧ va_X b L xs s s.heap ∧ b < s.heap.size ∧ meth.locks = false ∧ (Jvm.Cond.and given_1 narrow_1).before #[Value.ref b] s = true

theorem qa_chk_dec {mi pc : Nat} {ins : Instr} {x : List Nat} {v : Int32} {u : Int64} (h : qa_chk mi pc (ins, x, v, u) = true) : decode (qa_code mi) pc = .ok (ins, qa_il ins x) := of_decide_eq_true (qa_and h).1
section QLAW
variable {l : Launch} {z : qa_S} {p : Program} {e : Env} {R : Room} {s : State} {m : MethodId} {args : Array Value} {below : List Frame} {meth : Method} {c : Code} {QF : State → Prop} {ph : Bool} {mi mc ms n0 : Nat}
theorem qa_hM {f d : Nat} (hB : qa_B z ph ph l f) (hd1 : d + qa_bs ph ≤ R.frames) (hd2 : (d + qa_bs ph) * 64 ≤ R.locals) : qa_HM z ph l R (fun c args s Q' => qa_cm ph (qa_wq ph f) d c args s Q') := by
  intro c' As w' Q' hc' h' hv
  have hb9 : Nat.ble 1000 c' = false := qa_blf (a := 999) (b := c') (by omega)
  have h' : qa_cm ph (qa_wq ph f) d c' As w' Q' := h'
  unfold qa_cm at h'
  rw [hb9] at h'
  cases hl9 : Nat.ble (qa_exp As).length (qa_mL c') with
  | false => rw [hl9] at h'; exact h'.elim
  | true =>
    rw [hl9] at h'
    cases d with
    | zero => exact h'.elim
    | succ d =>
      refine ⟨qa_rm ph d c', qa_met hB hc' hv (Nat.le_of_ble_eq_true hl9) h', rfl, rfl, ?_, ?_⟩
      · show d + qa_bs ph + 1 ≤ R.frames
        omega
      · have := (qa_mL9 c' hc').1
        show 8 + (qa_mL c' + 11) + (d + qa_bs ph) * 64 ≤ R.locals
        omega
/-- up to the loop: the constructors -/
theorem qa_BS {K : Nat → Nat → LLoc → LStk → LMem → Prop} (hB : ∀ f, qa_B z true true l f) (hF : qa_F z true 314 p R s m args meth c mc ms n0)
    (hK : ∀ bc bs loc st w, K bc bs loc st w → qa_G z true 314 mc ms n0 p l e R s m args below meth c QF bc bs 23 loc st w) : ∀ (f d bc bs pc : Nat) (loc : LLoc) (st : LStk) (w : LMem), d + 20 ≤ R.frames → (d + 20) * 64 ≤ R.locals → qa_ws K f d bc bs pc loc st w → qa_G z true 314 mc ms n0 p l e R s m args below meth c QF bc bs pc loc st w := by
  intro f
  induction f with
  | zero => intro d bc bs pc loc st w hd1 hd2 h; exact h.elim
  | succ f ih =>
    intro d bc bs pc loc st w hd1 hd2 h
    have h : (match Nat.beq pc 23 with
      | true => K bc bs loc st w
      | false => match qa_ft 314 pc with
        | none => False
        | some e => qa_sem (fun bc bs pc loc st s => qa_ws K f d bc bs pc loc st s) (fun c args s Q' => qa_cm true (qa_wq true f) d c args s Q') (fun _ _ => False) (qa_ins true 314 bc bs e pc loc st w)) := h
    cases hp : Nat.beq pc 23 with
    | true =>
      rw [hp] at h
      have hp := qa_beq hp
      subst hp
      exact hK _ _ _ _ _ h
    | false =>
      rw [hp] at h
      dsimp only at h
      cases he : qa_ft 314 pc with
      | none => rw [he] at h; exact h.elim
      | some ent =>
        rw [he] at h
        have hc := qa_ft_chk (by omega) he
        obtain ⟨ins, x, v, u⟩ := ent
        have h : qa_sem (fun bc bs pc loc st s => qa_ws K f d bc bs pc loc st s) (fun c args s Q' => qa_cm true (qa_wq true f) d c args s Q') (fun _ _ => False) (qa_ins true 314 bc bs (ins, x, v, u) pc loc st w) := h
        have hI' : qa_HI z true 314 p l e R s m args below meth c (fun c args s Q' => qa_cm true (qa_wq true f) d c args s Q') := by
          intro c' na v rk cc cs i pc As w Q' H locs cells slots ls rest g1 g2 g3 g4 g5
          have g5 : qa_cm true (qa_wq true f) d c' As w Q' := g5
          unfold qa_cm at g5
          rw [Nat.ble_eq_true_of_le g1] at g5
          exact g5.elim
        cases hr : qa_isret ins with
        | false => exact qa_step hF (qa_hM (hB f) (by show d + 1 ≤ R.frames; omega) (by show (d + 1) * 64 ≤ R.locals; omega)) hI' hc (fun bc bs pc loc st w h9 => ih d bc bs pc loc st w hd1 hd2 h9) hr h
        | true =>
          cases ins <;> first | (cases hr; done) | skip
          case ireturn =>
            rcases st with _ | ⟨v0, st⟩
            · exact (qe_no h).elim
            · rcases v0 with a | v0
              · rcases st with _ | ⟨v1, st⟩
                · have h : qa_sem (fun bc bs pc loc st s => qa_ws K f d bc bs pc loc st s) (fun c args s Q' => qa_cm true (qa_wq true f) d c args s Q') (fun _ _ => False) (match qa_get x 0 with | 0 => qa_rt true bc bs none (some (lI a)) w | _ => qa_rt true bc bs (some (a = 0 ∨ a = 1)) (some (lI a)) w) := h
                  split at h
                  · exact (qa_rt_use h).2.elim
                  · exact (qa_rt_use h).2.2.elim
                · exact (qe_no h).elim
              · exact (qe_no h).elim
          case lreturn =>
            rcases st with _ | ⟨v0, st⟩
            · exact (qe_no h).elim
            · rcases v0 with a | a | a
              · exact (qe_no h).elim
              · rcases st with _ | ⟨v1, st⟩
                · exact (qa_rt_use h).2.elim
                · exact (qe_no h).elim
              · exact (qe_no h).elim
          case areturn =>
            rcases st with _ | ⟨v0, st⟩
            · exact (qe_no h).elim
            · rcases v0 with a | a | ⟨k, o⟩
              · exact (qe_no h).elim
              · exact (qe_no h).elim
              · rcases st with _ | ⟨v1, st⟩
                · obtain ⟨hk, h⟩ := qe_if h
                  exact (qa_rt_use h).2.elim
                · exact (qe_no h).elim
          case return_ =>
            rcases st with _ | ⟨v0, st⟩
            · exact (qa_rt_use h).2.elim
            · exact (qe_no h).elim
/-- the loop, to the law's end -/
theorem qa_BL {b : Nat} (hI : qa_HINT z false l) (hF : qa_F z false 314 p room_1 s m #[Value.ref b] meth c mc ms n0) (hret : meth.sig.returnType = ret) (hlk : meth.locks = false) (hz : z.2.2.1 = s.heap.size) (hmc : mc ≤ 601024) (hms : ms ≤ 7293034) :
    ∀ (f d bc bs pc : Nat) (loc : LLoc) (st : LStk) (w : LMem), d + 20 ≤ room_1.frames → (d + 20) * 64 ≤ room_1.locals → qa_wq false f d 314 bc bs pc loc st w (fun r _ => r = some (lI 1)) → qa_G z false 314 mc ms n0 p l e room_1 s m #[Value.ref b] below meth c (lw_Z below #[Value.ref b] s) bc bs pc loc st w := by
  intro f
  induction f with
  | zero => intro d bc bs pc loc st w hd1 hd2 h; exact h.elim
  | succ f ih =>
    intro d bc bs pc loc st w hd1 hd2 h
    have h : (match qa_ft 314 pc with
      | none => False
      | some e => qa_sem (fun bc bs pc loc st s => qa_wq false f d 314 bc bs pc loc st s (fun r _ => r = some (lI 1))) (fun c args s Q' => qa_cm false (qa_wq false f) d c args s Q') (fun r _ => r = some (lI 1)) (qa_ins false 314 bc bs e pc loc st w)) := h
    cases he : qa_ft 314 pc with
    | none => rw [he] at h; exact h.elim
    | some ent =>
      rw [he] at h
      have hc := qa_ft_chk (by omega) he
      obtain ⟨ins, x, v, u⟩ := ent
      have h : qa_sem (fun bc bs pc loc st s => qa_wq false f d 314 bc bs pc loc st s (fun r _ => r = some (lI 1))) (fun c args s Q' => qa_cm false (qa_wq false f) d c args s Q') (fun r _ => r = some (lI 1)) (qa_ins false 314 bc bs (ins, x, v, u) pc loc st w) := h
      have hI' : qa_HI z false 314 p l e room_1 s m #[Value.ref b] below meth c (fun c args s Q' => qa_cm false (qa_wq false f) d c args s Q') := by
        intro c' na v rk cc cs i pc As w Q' H locs cells slots ls rest g1 g2 g3 g4 g5
        have g5 : qa_cm false (qa_wq false f) d c' As w Q' := g5
        unfold qa_cm at g5
        rw [Nat.ble_eq_true_of_le g1] at g5
        exact hI 314 p e room_1 s m #[Value.ref b] below meth c mc ms n0 hF (by omega) (by omega) c' na v rk cc cs i pc As w Q' H locs cells slots ls rest g1 g2 g3 g4 g5
      cases hr : qa_isret ins with
      | false => exact qa_step hF (qa_hM (qa_B_all (fun _ => hI) f) hd1 hd2) hI' hc (fun bc bs pc loc st w h9 => ih d bc bs pc loc st w hd1 hd2 h9) hr h
      | true =>
        cases ins <;> first | (cases hr; done) | skip
        case ireturn =>
          rcases st with _ | ⟨v0, st⟩
          · exact (qe_no h).elim
          · rcases v0 with a | v0
            · rcases st with _ | ⟨v1, st⟩
              · have h : qa_sem (fun bc bs pc loc st s => qa_wq false f d 314 bc bs pc loc st s (fun r _ => r = some (lI 1))) (fun c args s Q' => qa_cm false (qa_wq false f) d c args s Q') (fun r _ => r = some (lI 1)) (match qa_get x 0 with | 0 => qa_rt false bc bs none (some (lI a)) w | _ => qa_rt false bc bs (some (a = 0 ∨ a = 1)) (some (lI a)) w) := h
                have ha : a = 1 := by
                  split at h
                  · have h9 := (qa_rt_use h).2
                    cases h9
                    rfl
                  · have h9 := (qa_rt_use h).2.2
                    cases h9
                    rfl
                subst ha
                obtain ⟨hx, hb, hml, hown, hts, hnm, hK, hSF, hb0, hsz, hmc9, hms9, hfr, hlo9⟩ := id hF
                have hdg := qa_chk_dec hc
                intro H locs cells slots ls hR hS hL hV h1 h2 h3 h4
                refine va_forget (fun q hq => ?_) (W.widen (k := 601024) (n := 7293034) (by omega) (by omega) (lw_ret hx hb hret hlk hdg))
                have h9 : z.2.2.1 ≤ q.base := hS.2.2 q hq
                rw [← hz]
                exact h9
              · exact (qe_no h).elim
            · exact (qe_no h).elim
        case lreturn =>
          rcases st with _ | ⟨v0, st⟩
          · exact (qe_no h).elim
          · rcases v0 with a | a | a
            · exact (qe_no h).elim
            · rcases st with _ | ⟨v1, st⟩
              · cases (qa_rt_use h).2
              · exact (qe_no h).elim
            · exact (qe_no h).elim
        case areturn =>
          rcases st with _ | ⟨v0, st⟩
          · exact (qe_no h).elim
          · rcases v0 with a | a | ⟨k, o⟩
            · exact (qe_no h).elim
            · exact (qe_no h).elim
            · rcases st with _ | ⟨v1, st⟩
              · obtain ⟨hk, h⟩ := qe_if h
                cases (qa_rt_use h).2
              · exact (qe_no h).elim
        case return_ =>
          rcases st with _ | ⟨v0, st⟩
          · cases (qa_rt_use h).2
          · exact (qe_no h).elim
end QLAW
