/-! One step. -/
theorem qa_lt_le {a b : Int32} (h : a < b) : ¬ b ≤ a := by
  rw [Int32.le_iff_toInt_le]; rw [Int32.lt_iff_toInt_lt] at h; omega
theorem qa_nlt_le {a b : Int32} (h : ¬ a < b) : b ≤ a := by
  rw [Int32.le_iff_toInt_le]; rw [Int32.lt_iff_toInt_lt] at h; omega
theorem qa_le_nlt {a b : Int32} (h : b ≤ a) : ¬ a < b := by
  rw [Int32.le_iff_toInt_le] at h; rw [Int32.lt_iff_toInt_lt]; omega
theorem qa_nle_lt {a b : Int32} (h : ¬ b ≤ a) : a < b := by
  rw [Int32.le_iff_toInt_le] at h; rw [Int32.lt_iff_toInt_lt]; omega
theorem qa_nf99 : ∀ k, k < 60 → qa_oc k = 99 → qa_nf k = 0 := by decide +kernel
theorem qa_leI_ok : ∀ k, k < 64 → Int32.ofNat (qa_len k) = qa_leI k := by decide +kernel
theorem qa_ce_I {z : qa_S} {ph : Bool} {w : LMem} {k i : Nat} (hk : k < 60) (h : qa_ea k = 0) : qa_ce z ph w k i = .inl (z.2.1 (qa_ti k), qa_len k, .inl fun j => gI w k i j) := by
  have h1 : ¬ qa_oc k < 13 := by rcases qa_oc_ea k hk with q | q | q <;> omega
  unfold qa_ce
  rw [qa_blf h1, h]
  rfl
theorem qa_ce_L {z : qa_S} {ph : Bool} {w : LMem} {k i : Nat} (hk : k < 60) (h : qa_ea k = 2) : qa_ce z ph w k i = .inl (z.2.1 (qa_ti k), qa_len k, .inr (.inl fun j => gL w k i j)) := by
  have h1 : ¬ qa_oc k < 13 := by rcases qa_oc_ea k hk with q | q | q <;> omega
  unfold qa_ce
  rw [qa_blf h1, h]
  rfl
theorem qa_ce_R {z : qa_S} {ph : Bool} {w : LMem} {k i : Nat} (hk : k < 60) (h : qa_ea k = 3) : qa_ce z ph w k i = .inl (z.2.1 (qa_ti k), qa_len k, .inr (.inr (.inr (.inr fun j => (qa_rdR ph w k i j).map (qa_rho z (qa_tk k 0)))))) := by
  have h1 : ¬ qa_oc k < 13 := by rcases qa_oc_ea k hk with q | q | q <;> omega
  unfold qa_ce
  rw [qa_blf h1, h]
  rfl
theorem qa_ce_O {z : qa_S} {ph : Bool} {w : LMem} {k i : Nat} (h : qa_oc k < 13) : qa_ce z ph w k i = .inr (qa_oc k, (List.range (qa_nf k)).map fun j => qa_val z (qa_rdV ph w k i j)) := by
  unfold qa_ce
  rw [qa_blt h]
/-- what is read out of a place is valid -/
theorem qa_vv_rdV {ph : Bool} {w : LMem} {k i j : Nat} (h : qa_ok ph w) (hk : k < 60) (ho : qa_oc k < 13) (hj : j < qa_nf k) (hv : qa_vd w k i) : qa_vv w (qa_rdV ph w k i j) := by
  unfold qa_rdV
  split
  · trivial
  · trivial
  · trivial
  · rename_i h0 h1 h2
    have h3 : 3 ≤ qa_tg k j := by
      rcases (show qa_tg k j = 0 ∨ qa_tg k j = 1 ∨ qa_tg k j = 2 ∨ 3 ≤ qa_tg k j by omega) with q | q | q | q
      · exact absurd q h0
      · exact absurd q h1
      · exact absurd q h2
      · exact q
    cases hr : qa_rdR ph w k i j with
    | none => trivial
    | some r =>
      have := h k i j r hk hv (Or.inl ⟨ho, hj, h3⟩) hr
      unfold qa_tk2 at this
      rw [qa_blt ho] at this
      exact this
theorem qa_sp0 {w : LMem} {k i : Nat} (hk : ¬ k < 60) (h64 : k ≠ 64) (hv : qa_vd w k i) : i = 0 := by
  rcases (hv.2 hk).2 with h | h
  · exact h
  · exact absurd h.1 h64
theorem qa_leN {L : Nat} (h : L ≤ 3584) : (Int32.ofNat L).toNatClampNeg = L := Int32.toNatClampNeg_ofNat_of_lt (by omega)
/-- lookupswitch -/
theorem qa_lookup {K : Nat → Prop} {a : Int32} {pc d : Nat} {dflt : Int} (hd : (pc : Int) + dflt = d) : ∀ (ps : List (Int × Int)) (l : List (Int32 × Nat)), l.length = ps.length →
    (∀ (i : Nat) (q : Int32 × Nat) (r : Int × Int), l[i]? = some q → ps[i]? = some r → q.1.toInt = r.1 ∧ (pc : Int) + r.2 = (q.2 : Nat)) → qa_jmp K (qa_swl a l) d → ∃ t : Nat, (pc : Int) + Op.lookupswitch.offset ps dflt a.toInt = t ∧ K t
  | [], [], _, _, h => ⟨d, hd, h⟩
  | [], _ :: _, hl, _, _ => by cases hl
  | _ :: _, [], hl, _, _ => by cases hl
  | (k, o) :: ps, q :: l, hl, hp, h => by
    obtain ⟨h1, h2⟩ := hp 0 q (k, o) rfl rfl
    dsimp only at h1 h2
    by_cases e : a = q.1
    · refine ⟨q.2, ?_, h.1 e⟩
      rw [Op.lookupswitch.offset_cons, if_pos (by rw [e, h1])]
      exact h2
    · obtain ⟨t, h3, h4⟩ := qa_lookup hd ps l (by simpa using hl) (fun i q r h5 h6 => hp (i + 1) q r h5 h6) (h.2 e)
      refine ⟨t, ?_, h4⟩
      rw [Op.lookupswitch.offset_cons, if_neg (fun e2 => e (Int32.toInt_inj.mp (by rw [h1, e2])))]
      exact h3
theorem qa_nth_get {α : Type} : ∀ (l : List α) (n : Nat), qa_nth l n = l[n]?
  | [], _ => by simp [qa_nth]
  | _ :: _, 0 => rfl
  | _ :: l, n + 1 => by simp [qa_nth, qa_nth_get l n]
theorem qa_oc13 {k j : Nat} (hk : k < 60) (hj : j < qa_nf k) : qa_oc k < 13 := by
  rcases qa_oc_ea k hk with q | q | q
  · exact q.1
  · omega
  · exact absurd hj (by rw [qa_nf99 k hk q.1]; omega)
theorem qa_nble {n c : Nat} (h : Nat.ble n c = false) : c < n := Nat.not_le.mp fun q => by rw [Nat.ble_eq_true_of_le q] at h; cases h
def qa_isret (ins : Instr) : Bool := match ins with | .ireturn => true | .lreturn => true | .areturn => true | .return_ => true | _ => false
section QSTEP
variable {p : Program} {l : Launch} {e : Env} {R : Room} {s : State} {m : MethodId} {args : Array Value} {below : List Frame} {meth : Method} {c : Code} {QF : State → Prop} {z : qa_S} {ph : Bool} {mi mc ms n0 : Nat}
variable {X : Nat → Nat → Nat → LLoc → LStk → LMem → Prop} {C : Nat → List LV → LMem → LPost → Prop} {Q : LPost}
theorem qa_aldA {cc : ByteArray} {D : va_G} {cl : List vw_C} {tys : List (ClassId × FieldType)} {ws : va_W} {H : Heap} {locs : List Loc} {cells slots pc a : Nat} {ls : Array Slot} {rest : List Value} (hx : p.tables.exec = Jvm.exec) (hb : c.code = cc) (hK : va_K D cl tys s) (hP : va_P D cl ws H) (q0 t0 : Nat) {cA : ClassId} {n : Nat} {f : Nat → Option Nat} (ha : ws[q0]? = some (a, .inl (cA, n, .inr (.inr (.inr (.inr f)))))) (ht : tys[t0]? = some (cA, .array .int)) {i : Int32} (hin : vp_in i n) (hdg : decode cc pc = .ok (.aaload, 1))
    (kk : W p l e R s m args below meth c H locs cells slots QF (F0 m (pc + 1) ls (va_rf (f i.toNatClampNeg) :: rest))) : W p l e R s m args below meth c H locs cells slots QF (F0 m pc ls (.int i :: .ref a :: rest)) := by
  have hlt : i.toNatClampNeg < n := Nat.not_le.mp fun q => hin (Or.inr q)
  exact W.aald (v := va_rf (f i.toNatClampNeg)) (ty := .array .int) hx hb (hP q0 _ ha) ((hK.2 t0 _ ht).1 n (fun j => va_rf (f j))) rfl (fun q => by cases q) (by show ¬ (i < 0 ∨ (arrV _ _ _).slots.size ≤ _); rw [arrV_size]; exact hin) (by show (arrV _ _ _).slots[_]? = _; rw [arrV_read _ _ hlt]) rfl rfl hdg kk
theorem qa_SW {H H1 H2 : Heap} {locs : List Loc} (h1 : va_S (qa_A z) H H1 locs) (h : H.size ≤ H1.size) : H.size ≤ H1.size := h

theorem qa_stp_iadd (hF : qa_F z ph mi p R s m args meth c mc ms n0) {x : List Nat} {v : Int32} {u : Int64}  {bc bs pc : Nat} {loc : LLoc} {st : LStk} {w : LMem} (hc : qa_chk mi pc (.iadd, x, v, u) = true)
    (hX : ∀ bc bs pc loc st w, X bc bs pc loc st w → qa_G z ph mi mc ms n0 p l e R s m args below meth c QF bc bs pc loc st w)
    (h : qa_sem X C Q (qa_ins ph mi bc bs (.iadd, x, v, u) pc loc st w)) : qa_G z ph mi mc ms n0 p l e R s m args below meth c QF bc bs pc loc st w := by
  obtain ⟨hx, hb, hml, hown, hts, hnm, hK, hSF, hb0, hsz, hmc, hms, hfr, hlo9⟩ := id hF
  intro H locs cells slots ls hR hS hL hV h1 h2 h3 h4
  obtain ⟨hd0, hc⟩ := qa_and hc
  have hdg := of_decide_eq_true hd0
  obtain ⟨b, a, r, rfl, hz9⟩ := qe_s2I h
  have h := hz9
  exact lv_iadd hx hb hdg (hX _ _ _ _ _ _ h H locs cells slots ls hR hS hL ⟨trivial, hV.2.2⟩ h1 h2 h3 h4)

theorem qa_stp_isub (hF : qa_F z ph mi p R s m args meth c mc ms n0) {x : List Nat} {v : Int32} {u : Int64}  {bc bs pc : Nat} {loc : LLoc} {st : LStk} {w : LMem} (hc : qa_chk mi pc (.isub, x, v, u) = true)
    (hX : ∀ bc bs pc loc st w, X bc bs pc loc st w → qa_G z ph mi mc ms n0 p l e R s m args below meth c QF bc bs pc loc st w)
    (h : qa_sem X C Q (qa_ins ph mi bc bs (.isub, x, v, u) pc loc st w)) : qa_G z ph mi mc ms n0 p l e R s m args below meth c QF bc bs pc loc st w := by
  obtain ⟨hx, hb, hml, hown, hts, hnm, hK, hSF, hb0, hsz, hmc, hms, hfr, hlo9⟩ := id hF
  intro H locs cells slots ls hR hS hL hV h1 h2 h3 h4
  obtain ⟨hd0, hc⟩ := qa_and hc
  have hdg := of_decide_eq_true hd0
  obtain ⟨b, a, r, rfl, hz9⟩ := qe_s2I h
  have h := hz9
  exact lv_isub hx hb hdg (hX _ _ _ _ _ _ h H locs cells slots ls hR hS hL ⟨trivial, hV.2.2⟩ h1 h2 h3 h4)

theorem qa_stp_imul (hF : qa_F z ph mi p R s m args meth c mc ms n0) {x : List Nat} {v : Int32} {u : Int64}  {bc bs pc : Nat} {loc : LLoc} {st : LStk} {w : LMem} (hc : qa_chk mi pc (.imul, x, v, u) = true)
    (hX : ∀ bc bs pc loc st w, X bc bs pc loc st w → qa_G z ph mi mc ms n0 p l e R s m args below meth c QF bc bs pc loc st w)
    (h : qa_sem X C Q (qa_ins ph mi bc bs (.imul, x, v, u) pc loc st w)) : qa_G z ph mi mc ms n0 p l e R s m args below meth c QF bc bs pc loc st w := by
  obtain ⟨hx, hb, hml, hown, hts, hnm, hK, hSF, hb0, hsz, hmc, hms, hfr, hlo9⟩ := id hF
  intro H locs cells slots ls hR hS hL hV h1 h2 h3 h4
  obtain ⟨hd0, hc⟩ := qa_and hc
  have hdg := of_decide_eq_true hd0
  obtain ⟨b, a, r, rfl, hz9⟩ := qe_s2I h
  have h := hz9
  exact lv_imul hx hb hdg (hX _ _ _ _ _ _ h H locs cells slots ls hR hS hL ⟨trivial, hV.2.2⟩ h1 h2 h3 h4)

theorem qa_stp_iand (hF : qa_F z ph mi p R s m args meth c mc ms n0) {x : List Nat} {v : Int32} {u : Int64}  {bc bs pc : Nat} {loc : LLoc} {st : LStk} {w : LMem} (hc : qa_chk mi pc (.iand, x, v, u) = true)
    (hX : ∀ bc bs pc loc st w, X bc bs pc loc st w → qa_G z ph mi mc ms n0 p l e R s m args below meth c QF bc bs pc loc st w)
    (h : qa_sem X C Q (qa_ins ph mi bc bs (.iand, x, v, u) pc loc st w)) : qa_G z ph mi mc ms n0 p l e R s m args below meth c QF bc bs pc loc st w := by
  obtain ⟨hx, hb, hml, hown, hts, hnm, hK, hSF, hb0, hsz, hmc, hms, hfr, hlo9⟩ := id hF
  intro H locs cells slots ls hR hS hL hV h1 h2 h3 h4
  obtain ⟨hd0, hc⟩ := qa_and hc
  have hdg := of_decide_eq_true hd0
  obtain ⟨b, a, r, rfl, hz9⟩ := qe_s2I h
  have h := hz9
  exact lv_iand hx hb hdg (hX _ _ _ _ _ _ h H locs cells slots ls hR hS hL ⟨trivial, hV.2.2⟩ h1 h2 h3 h4)

theorem qa_stp_ior (hF : qa_F z ph mi p R s m args meth c mc ms n0) {x : List Nat} {v : Int32} {u : Int64}  {bc bs pc : Nat} {loc : LLoc} {st : LStk} {w : LMem} (hc : qa_chk mi pc (.ior, x, v, u) = true)
    (hX : ∀ bc bs pc loc st w, X bc bs pc loc st w → qa_G z ph mi mc ms n0 p l e R s m args below meth c QF bc bs pc loc st w)
    (h : qa_sem X C Q (qa_ins ph mi bc bs (.ior, x, v, u) pc loc st w)) : qa_G z ph mi mc ms n0 p l e R s m args below meth c QF bc bs pc loc st w := by
  obtain ⟨hx, hb, hml, hown, hts, hnm, hK, hSF, hb0, hsz, hmc, hms, hfr, hlo9⟩ := id hF
  intro H locs cells slots ls hR hS hL hV h1 h2 h3 h4
  obtain ⟨hd0, hc⟩ := qa_and hc
  have hdg := of_decide_eq_true hd0
  obtain ⟨b, a, r, rfl, hz9⟩ := qe_s2I h
  have h := hz9
  exact lv_ior hx hb hdg (hX _ _ _ _ _ _ h H locs cells slots ls hR hS hL ⟨trivial, hV.2.2⟩ h1 h2 h3 h4)

theorem qa_stp_ixor (hF : qa_F z ph mi p R s m args meth c mc ms n0) {x : List Nat} {v : Int32} {u : Int64}  {bc bs pc : Nat} {loc : LLoc} {st : LStk} {w : LMem} (hc : qa_chk mi pc (.ixor, x, v, u) = true)
    (hX : ∀ bc bs pc loc st w, X bc bs pc loc st w → qa_G z ph mi mc ms n0 p l e R s m args below meth c QF bc bs pc loc st w)
    (h : qa_sem X C Q (qa_ins ph mi bc bs (.ixor, x, v, u) pc loc st w)) : qa_G z ph mi mc ms n0 p l e R s m args below meth c QF bc bs pc loc st w := by
  obtain ⟨hx, hb, hml, hown, hts, hnm, hK, hSF, hb0, hsz, hmc, hms, hfr, hlo9⟩ := id hF
  intro H locs cells slots ls hR hS hL hV h1 h2 h3 h4
  obtain ⟨hd0, hc⟩ := qa_and hc
  have hdg := of_decide_eq_true hd0
  obtain ⟨b, a, r, rfl, hz9⟩ := qe_s2I h
  have h := hz9
  exact lv_ixor hx hb hdg (hX _ _ _ _ _ _ h H locs cells slots ls hR hS hL ⟨trivial, hV.2.2⟩ h1 h2 h3 h4)

theorem qa_stp_ishl (hF : qa_F z ph mi p R s m args meth c mc ms n0) {x : List Nat} {v : Int32} {u : Int64}  {bc bs pc : Nat} {loc : LLoc} {st : LStk} {w : LMem} (hc : qa_chk mi pc (.ishl, x, v, u) = true)
    (hX : ∀ bc bs pc loc st w, X bc bs pc loc st w → qa_G z ph mi mc ms n0 p l e R s m args below meth c QF bc bs pc loc st w)
    (h : qa_sem X C Q (qa_ins ph mi bc bs (.ishl, x, v, u) pc loc st w)) : qa_G z ph mi mc ms n0 p l e R s m args below meth c QF bc bs pc loc st w := by
  obtain ⟨hx, hb, hml, hown, hts, hnm, hK, hSF, hb0, hsz, hmc, hms, hfr, hlo9⟩ := id hF
  intro H locs cells slots ls hR hS hL hV h1 h2 h3 h4
  obtain ⟨hd0, hc⟩ := qa_and hc
  have hdg := of_decide_eq_true hd0
  obtain ⟨b, a, r, rfl, hz9⟩ := qe_s2I h
  have h := hz9
  exact lv_ishl hx hb hdg (hX _ _ _ _ _ _ h H locs cells slots ls hR hS hL ⟨trivial, hV.2.2⟩ h1 h2 h3 h4)

theorem qa_stp_ishr (hF : qa_F z ph mi p R s m args meth c mc ms n0) {x : List Nat} {v : Int32} {u : Int64}  {bc bs pc : Nat} {loc : LLoc} {st : LStk} {w : LMem} (hc : qa_chk mi pc (.ishr, x, v, u) = true)
    (hX : ∀ bc bs pc loc st w, X bc bs pc loc st w → qa_G z ph mi mc ms n0 p l e R s m args below meth c QF bc bs pc loc st w)
    (h : qa_sem X C Q (qa_ins ph mi bc bs (.ishr, x, v, u) pc loc st w)) : qa_G z ph mi mc ms n0 p l e R s m args below meth c QF bc bs pc loc st w := by
  obtain ⟨hx, hb, hml, hown, hts, hnm, hK, hSF, hb0, hsz, hmc, hms, hfr, hlo9⟩ := id hF
  intro H locs cells slots ls hR hS hL hV h1 h2 h3 h4
  obtain ⟨hd0, hc⟩ := qa_and hc
  have hdg := of_decide_eq_true hd0
  obtain ⟨b, a, r, rfl, hz9⟩ := qe_s2I h
  have h := hz9
  exact lv_ishr hx hb hdg (hX _ _ _ _ _ _ h H locs cells slots ls hR hS hL ⟨trivial, hV.2.2⟩ h1 h2 h3 h4)

theorem qa_stp_idiv (hF : qa_F z ph mi p R s m args meth c mc ms n0) {x : List Nat} {v : Int32} {u : Int64}  {bc bs pc : Nat} {loc : LLoc} {st : LStk} {w : LMem} (hc : qa_chk mi pc (.idiv, x, v, u) = true)
    (hX : ∀ bc bs pc loc st w, X bc bs pc loc st w → qa_G z ph mi mc ms n0 p l e R s m args below meth c QF bc bs pc loc st w)
    (h : qa_sem X C Q (qa_ins ph mi bc bs (.idiv, x, v, u) pc loc st w)) : qa_G z ph mi mc ms n0 p l e R s m args below meth c QF bc bs pc loc st w := by
  obtain ⟨hx, hb, hml, hown, hts, hnm, hK, hSF, hb0, hsz, hmc, hms, hfr, hlo9⟩ := id hF
  intro H locs cells slots ls hR hS hL hV h1 h2 h3 h4
  obtain ⟨hd0, hc⟩ := qa_and hc
  have hdg := of_decide_eq_true hd0
  obtain ⟨b, a, r, rfl, hz9⟩ := qe_s2I h
  have h := hz9
  obtain ⟨hg, h⟩ := qe_gg h
  exact lv_idiv hx hb hdg hg.1 (hX _ _ _ _ _ _ h H locs cells slots ls hR hS hL ⟨trivial, hV.2.2⟩ h1 h2 h3 h4)

theorem qa_stp_irem (hF : qa_F z ph mi p R s m args meth c mc ms n0) {x : List Nat} {v : Int32} {u : Int64}  {bc bs pc : Nat} {loc : LLoc} {st : LStk} {w : LMem} (hc : qa_chk mi pc (.irem, x, v, u) = true)
    (hX : ∀ bc bs pc loc st w, X bc bs pc loc st w → qa_G z ph mi mc ms n0 p l e R s m args below meth c QF bc bs pc loc st w)
    (h : qa_sem X C Q (qa_ins ph mi bc bs (.irem, x, v, u) pc loc st w)) : qa_G z ph mi mc ms n0 p l e R s m args below meth c QF bc bs pc loc st w := by
  obtain ⟨hx, hb, hml, hown, hts, hnm, hK, hSF, hb0, hsz, hmc, hms, hfr, hlo9⟩ := id hF
  intro H locs cells slots ls hR hS hL hV h1 h2 h3 h4
  obtain ⟨hd0, hc⟩ := qa_and hc
  have hdg := of_decide_eq_true hd0
  obtain ⟨b, a, r, rfl, hz9⟩ := qe_s2I h
  have h := hz9
  obtain ⟨hg, h⟩ := qe_gg h
  exact lv_irem hx hb hdg hg.1 (hX _ _ _ _ _ _ h H locs cells slots ls hR hS hL ⟨trivial, hV.2.2⟩ h1 h2 h3 h4)

theorem qa_stp_iushr (hF : qa_F z ph mi p R s m args meth c mc ms n0) {x : List Nat} {v : Int32} {u : Int64}  {bc bs pc : Nat} {loc : LLoc} {st : LStk} {w : LMem} (hc : qa_chk mi pc (.iushr, x, v, u) = true)
    (hX : ∀ bc bs pc loc st w, X bc bs pc loc st w → qa_G z ph mi mc ms n0 p l e R s m args below meth c QF bc bs pc loc st w)
    (h : qa_sem X C Q (qa_ins ph mi bc bs (.iushr, x, v, u) pc loc st w)) : qa_G z ph mi mc ms n0 p l e R s m args below meth c QF bc bs pc loc st w := by
  obtain ⟨hx, hb, hml, hown, hts, hnm, hK, hSF, hb0, hsz, hmc, hms, hfr, hlo9⟩ := id hF
  intro H locs cells slots ls hR hS hL hV h1 h2 h3 h4
  obtain ⟨hd0, hc⟩ := qa_and hc
  have hdg := of_decide_eq_true hd0
  obtain ⟨b, a, r, rfl, hz9⟩ := qe_s2I h
  have h := hz9
  exact lv_iushr hx hb hdg rfl (hX _ _ _ _ _ _ h H locs cells slots ls hR hS hL ⟨trivial, hV.2.2⟩ h1 h2 h3 h4)

theorem qa_stp_ineg (hF : qa_F z ph mi p R s m args meth c mc ms n0) {x : List Nat} {v : Int32} {u : Int64}  {bc bs pc : Nat} {loc : LLoc} {st : LStk} {w : LMem} (hc : qa_chk mi pc (.ineg, x, v, u) = true)
    (hX : ∀ bc bs pc loc st w, X bc bs pc loc st w → qa_G z ph mi mc ms n0 p l e R s m args below meth c QF bc bs pc loc st w)
    (h : qa_sem X C Q (qa_ins ph mi bc bs (.ineg, x, v, u) pc loc st w)) : qa_G z ph mi mc ms n0 p l e R s m args below meth c QF bc bs pc loc st w := by
  obtain ⟨hx, hb, hml, hown, hts, hnm, hK, hSF, hb0, hsz, hmc, hms, hfr, hlo9⟩ := id hF
  intro H locs cells slots ls hR hS hL hV h1 h2 h3 h4
  obtain ⟨hd0, hc⟩ := qa_and hc
  have hdg := of_decide_eq_true hd0
  obtain ⟨a, r, rfl, hz9⟩ := qe_s1I h
  have h := hz9
  exact lv_ineg hx hb hdg (hX _ _ _ _ _ _ h H locs cells slots ls hR hS hL ⟨trivial, hV.2⟩ h1 h2 h3 h4)

theorem qa_stp_ladd (hF : qa_F z ph mi p R s m args meth c mc ms n0) {x : List Nat} {v : Int32} {u : Int64}  {bc bs pc : Nat} {loc : LLoc} {st : LStk} {w : LMem} (hc : qa_chk mi pc (.ladd, x, v, u) = true)
    (hX : ∀ bc bs pc loc st w, X bc bs pc loc st w → qa_G z ph mi mc ms n0 p l e R s m args below meth c QF bc bs pc loc st w)
    (h : qa_sem X C Q (qa_ins ph mi bc bs (.ladd, x, v, u) pc loc st w)) : qa_G z ph mi mc ms n0 p l e R s m args below meth c QF bc bs pc loc st w := by
  obtain ⟨hx, hb, hml, hown, hts, hnm, hK, hSF, hb0, hsz, hmc, hms, hfr, hlo9⟩ := id hF
  intro H locs cells slots ls hR hS hL hV h1 h2 h3 h4
  obtain ⟨hd0, hc⟩ := qa_and hc
  have hdg := of_decide_eq_true hd0
  obtain ⟨b, a, r, rfl, hz9⟩ := qe_s2L h
  have h := hz9
  exact lv_ladd hx hb hdg (hX _ _ _ _ _ _ h H locs cells slots ls hR hS hL ⟨trivial, hV.2.2⟩ h1 h2 h3 h4)

theorem qa_stp_lsub (hF : qa_F z ph mi p R s m args meth c mc ms n0) {x : List Nat} {v : Int32} {u : Int64}  {bc bs pc : Nat} {loc : LLoc} {st : LStk} {w : LMem} (hc : qa_chk mi pc (.lsub, x, v, u) = true)
    (hX : ∀ bc bs pc loc st w, X bc bs pc loc st w → qa_G z ph mi mc ms n0 p l e R s m args below meth c QF bc bs pc loc st w)
    (h : qa_sem X C Q (qa_ins ph mi bc bs (.lsub, x, v, u) pc loc st w)) : qa_G z ph mi mc ms n0 p l e R s m args below meth c QF bc bs pc loc st w := by
  obtain ⟨hx, hb, hml, hown, hts, hnm, hK, hSF, hb0, hsz, hmc, hms, hfr, hlo9⟩ := id hF
  intro H locs cells slots ls hR hS hL hV h1 h2 h3 h4
  obtain ⟨hd0, hc⟩ := qa_and hc
  have hdg := of_decide_eq_true hd0
  obtain ⟨b, a, r, rfl, hz9⟩ := qe_s2L h
  have h := hz9
  exact lv_lsub hx hb hdg (hX _ _ _ _ _ _ h H locs cells slots ls hR hS hL ⟨trivial, hV.2.2⟩ h1 h2 h3 h4)

theorem qa_stp_lmul (hF : qa_F z ph mi p R s m args meth c mc ms n0) {x : List Nat} {v : Int32} {u : Int64}  {bc bs pc : Nat} {loc : LLoc} {st : LStk} {w : LMem} (hc : qa_chk mi pc (.lmul, x, v, u) = true)
    (hX : ∀ bc bs pc loc st w, X bc bs pc loc st w → qa_G z ph mi mc ms n0 p l e R s m args below meth c QF bc bs pc loc st w)
    (h : qa_sem X C Q (qa_ins ph mi bc bs (.lmul, x, v, u) pc loc st w)) : qa_G z ph mi mc ms n0 p l e R s m args below meth c QF bc bs pc loc st w := by
  obtain ⟨hx, hb, hml, hown, hts, hnm, hK, hSF, hb0, hsz, hmc, hms, hfr, hlo9⟩ := id hF
  intro H locs cells slots ls hR hS hL hV h1 h2 h3 h4
  obtain ⟨hd0, hc⟩ := qa_and hc
  have hdg := of_decide_eq_true hd0
  obtain ⟨b, a, r, rfl, hz9⟩ := qe_s2L h
  have h := hz9
  exact lv_lmul hx hb hdg (hX _ _ _ _ _ _ h H locs cells slots ls hR hS hL ⟨trivial, hV.2.2⟩ h1 h2 h3 h4)

theorem qa_stp_land (hF : qa_F z ph mi p R s m args meth c mc ms n0) {x : List Nat} {v : Int32} {u : Int64}  {bc bs pc : Nat} {loc : LLoc} {st : LStk} {w : LMem} (hc : qa_chk mi pc (.land, x, v, u) = true)
    (hX : ∀ bc bs pc loc st w, X bc bs pc loc st w → qa_G z ph mi mc ms n0 p l e R s m args below meth c QF bc bs pc loc st w)
    (h : qa_sem X C Q (qa_ins ph mi bc bs (.land, x, v, u) pc loc st w)) : qa_G z ph mi mc ms n0 p l e R s m args below meth c QF bc bs pc loc st w := by
  obtain ⟨hx, hb, hml, hown, hts, hnm, hK, hSF, hb0, hsz, hmc, hms, hfr, hlo9⟩ := id hF
  intro H locs cells slots ls hR hS hL hV h1 h2 h3 h4
  obtain ⟨hd0, hc⟩ := qa_and hc
  have hdg := of_decide_eq_true hd0
  obtain ⟨b, a, r, rfl, hz9⟩ := qe_s2L h
  have h := hz9
  exact lv_land hx hb hdg (hX _ _ _ _ _ _ h H locs cells slots ls hR hS hL ⟨trivial, hV.2.2⟩ h1 h2 h3 h4)

theorem qa_stp_lor (hF : qa_F z ph mi p R s m args meth c mc ms n0) {x : List Nat} {v : Int32} {u : Int64}  {bc bs pc : Nat} {loc : LLoc} {st : LStk} {w : LMem} (hc : qa_chk mi pc (.lor, x, v, u) = true)
    (hX : ∀ bc bs pc loc st w, X bc bs pc loc st w → qa_G z ph mi mc ms n0 p l e R s m args below meth c QF bc bs pc loc st w)
    (h : qa_sem X C Q (qa_ins ph mi bc bs (.lor, x, v, u) pc loc st w)) : qa_G z ph mi mc ms n0 p l e R s m args below meth c QF bc bs pc loc st w := by
  obtain ⟨hx, hb, hml, hown, hts, hnm, hK, hSF, hb0, hsz, hmc, hms, hfr, hlo9⟩ := id hF
  intro H locs cells slots ls hR hS hL hV h1 h2 h3 h4
  obtain ⟨hd0, hc⟩ := qa_and hc
  have hdg := of_decide_eq_true hd0
  obtain ⟨b, a, r, rfl, hz9⟩ := qe_s2L h
  have h := hz9
  exact lv_lor hx hb hdg (hX _ _ _ _ _ _ h H locs cells slots ls hR hS hL ⟨trivial, hV.2.2⟩ h1 h2 h3 h4)

theorem qa_stp_ldiv (hF : qa_F z ph mi p R s m args meth c mc ms n0) {x : List Nat} {v : Int32} {u : Int64}  {bc bs pc : Nat} {loc : LLoc} {st : LStk} {w : LMem} (hc : qa_chk mi pc (.ldiv, x, v, u) = true)
    (hX : ∀ bc bs pc loc st w, X bc bs pc loc st w → qa_G z ph mi mc ms n0 p l e R s m args below meth c QF bc bs pc loc st w)
    (h : qa_sem X C Q (qa_ins ph mi bc bs (.ldiv, x, v, u) pc loc st w)) : qa_G z ph mi mc ms n0 p l e R s m args below meth c QF bc bs pc loc st w := by
  obtain ⟨hx, hb, hml, hown, hts, hnm, hK, hSF, hb0, hsz, hmc, hms, hfr, hlo9⟩ := id hF
  intro H locs cells slots ls hR hS hL hV h1 h2 h3 h4
  obtain ⟨hd0, hc⟩ := qa_and hc
  have hdg := of_decide_eq_true hd0
  obtain ⟨b, a, r, rfl, hz9⟩ := qe_s2L h
  have h := hz9
  obtain ⟨hg, h⟩ := qe_gg h
  exact lv_ldiv hx hb hdg hg.1 (hX _ _ _ _ _ _ h H locs cells slots ls hR hS hL ⟨trivial, hV.2.2⟩ h1 h2 h3 h4)

theorem qa_stp_lrem (hF : qa_F z ph mi p R s m args meth c mc ms n0) {x : List Nat} {v : Int32} {u : Int64}  {bc bs pc : Nat} {loc : LLoc} {st : LStk} {w : LMem} (hc : qa_chk mi pc (.lrem, x, v, u) = true)
    (hX : ∀ bc bs pc loc st w, X bc bs pc loc st w → qa_G z ph mi mc ms n0 p l e R s m args below meth c QF bc bs pc loc st w)
    (h : qa_sem X C Q (qa_ins ph mi bc bs (.lrem, x, v, u) pc loc st w)) : qa_G z ph mi mc ms n0 p l e R s m args below meth c QF bc bs pc loc st w := by
  obtain ⟨hx, hb, hml, hown, hts, hnm, hK, hSF, hb0, hsz, hmc, hms, hfr, hlo9⟩ := id hF
  intro H locs cells slots ls hR hS hL hV h1 h2 h3 h4
  obtain ⟨hd0, hc⟩ := qa_and hc
  have hdg := of_decide_eq_true hd0
  obtain ⟨b, a, r, rfl, hz9⟩ := qe_s2L h
  have h := hz9
  obtain ⟨hg, h⟩ := qe_gg h
  exact lv_lrem hx hb hdg hg.1 (hX _ _ _ _ _ _ h H locs cells slots ls hR hS hL ⟨trivial, hV.2.2⟩ h1 h2 h3 h4)

theorem qa_stp_lshl (hF : qa_F z ph mi p R s m args meth c mc ms n0) {x : List Nat} {v : Int32} {u : Int64}  {bc bs pc : Nat} {loc : LLoc} {st : LStk} {w : LMem} (hc : qa_chk mi pc (.lshl, x, v, u) = true)
    (hX : ∀ bc bs pc loc st w, X bc bs pc loc st w → qa_G z ph mi mc ms n0 p l e R s m args below meth c QF bc bs pc loc st w)
    (h : qa_sem X C Q (qa_ins ph mi bc bs (.lshl, x, v, u) pc loc st w)) : qa_G z ph mi mc ms n0 p l e R s m args below meth c QF bc bs pc loc st w := by
  obtain ⟨hx, hb, hml, hown, hts, hnm, hK, hSF, hb0, hsz, hmc, hms, hfr, hlo9⟩ := id hF
  intro H locs cells slots ls hR hS hL hV h1 h2 h3 h4
  obtain ⟨hd0, hc⟩ := qa_and hc
  have hdg := of_decide_eq_true hd0
  obtain ⟨b, a, r, rfl, hz9⟩ := qe_sIL h
  have h := hz9
  exact lv_lshl hx hb hdg rfl (hX _ _ _ _ _ _ h H locs cells slots ls hR hS hL ⟨trivial, hV.2.2⟩ h1 h2 h3 h4)

theorem qa_stp_lushr (hF : qa_F z ph mi p R s m args meth c mc ms n0) {x : List Nat} {v : Int32} {u : Int64}  {bc bs pc : Nat} {loc : LLoc} {st : LStk} {w : LMem} (hc : qa_chk mi pc (.lushr, x, v, u) = true)
    (hX : ∀ bc bs pc loc st w, X bc bs pc loc st w → qa_G z ph mi mc ms n0 p l e R s m args below meth c QF bc bs pc loc st w)
    (h : qa_sem X C Q (qa_ins ph mi bc bs (.lushr, x, v, u) pc loc st w)) : qa_G z ph mi mc ms n0 p l e R s m args below meth c QF bc bs pc loc st w := by
  obtain ⟨hx, hb, hml, hown, hts, hnm, hK, hSF, hb0, hsz, hmc, hms, hfr, hlo9⟩ := id hF
  intro H locs cells slots ls hR hS hL hV h1 h2 h3 h4
  obtain ⟨hd0, hc⟩ := qa_and hc
  have hdg := of_decide_eq_true hd0
  obtain ⟨b, a, r, rfl, hz9⟩ := qe_sIL h
  have h := hz9
  exact lv_lushr hx hb hdg rfl (hX _ _ _ _ _ _ h H locs cells slots ls hR hS hL ⟨trivial, hV.2.2⟩ h1 h2 h3 h4)

theorem qa_stp_lcmp (hF : qa_F z ph mi p R s m args meth c mc ms n0) {x : List Nat} {v : Int32} {u : Int64}  {bc bs pc : Nat} {loc : LLoc} {st : LStk} {w : LMem} (hc : qa_chk mi pc (.lcmp, x, v, u) = true)
    (hX : ∀ bc bs pc loc st w, X bc bs pc loc st w → qa_G z ph mi mc ms n0 p l e R s m args below meth c QF bc bs pc loc st w)
    (h : qa_sem X C Q (qa_ins ph mi bc bs (.lcmp, x, v, u) pc loc st w)) : qa_G z ph mi mc ms n0 p l e R s m args below meth c QF bc bs pc loc st w := by
  obtain ⟨hx, hb, hml, hown, hts, hnm, hK, hSF, hb0, hsz, hmc, hms, hfr, hlo9⟩ := id hF
  intro H locs cells slots ls hR hS hL hV h1 h2 h3 h4
  obtain ⟨hd0, hc⟩ := qa_and hc
  have hdg := of_decide_eq_true hd0
  obtain ⟨b, a, r, rfl, hz9⟩ := qe_s2L h
  have h := hz9
  exact W.lcmp hx hb hdg (hX _ _ _ _ _ _ h H locs cells slots ls hR hS hL ⟨trivial, hV.2.2⟩ h1 h2 h3 h4)

theorem qa_stp_i2l (hF : qa_F z ph mi p R s m args meth c mc ms n0) {x : List Nat} {v : Int32} {u : Int64}  {bc bs pc : Nat} {loc : LLoc} {st : LStk} {w : LMem} (hc : qa_chk mi pc (.i2l, x, v, u) = true)
    (hX : ∀ bc bs pc loc st w, X bc bs pc loc st w → qa_G z ph mi mc ms n0 p l e R s m args below meth c QF bc bs pc loc st w)
    (h : qa_sem X C Q (qa_ins ph mi bc bs (.i2l, x, v, u) pc loc st w)) : qa_G z ph mi mc ms n0 p l e R s m args below meth c QF bc bs pc loc st w := by
  obtain ⟨hx, hb, hml, hown, hts, hnm, hK, hSF, hb0, hsz, hmc, hms, hfr, hlo9⟩ := id hF
  intro H locs cells slots ls hR hS hL hV h1 h2 h3 h4
  obtain ⟨hd0, hc⟩ := qa_and hc
  have hdg := of_decide_eq_true hd0
  obtain ⟨a, r, rfl, hz9⟩ := qe_s1I h
  have h := hz9
  exact lv_i2l hx hb hdg rfl (hX _ _ _ _ _ _ h H locs cells slots ls hR hS hL ⟨trivial, hV.2⟩ h1 h2 h3 h4)

theorem qa_stp_i2c (hF : qa_F z ph mi p R s m args meth c mc ms n0) {x : List Nat} {v : Int32} {u : Int64}  {bc bs pc : Nat} {loc : LLoc} {st : LStk} {w : LMem} (hc : qa_chk mi pc (.i2c, x, v, u) = true)
    (hX : ∀ bc bs pc loc st w, X bc bs pc loc st w → qa_G z ph mi mc ms n0 p l e R s m args below meth c QF bc bs pc loc st w)
    (h : qa_sem X C Q (qa_ins ph mi bc bs (.i2c, x, v, u) pc loc st w)) : qa_G z ph mi mc ms n0 p l e R s m args below meth c QF bc bs pc loc st w := by
  obtain ⟨hx, hb, hml, hown, hts, hnm, hK, hSF, hb0, hsz, hmc, hms, hfr, hlo9⟩ := id hF
  intro H locs cells slots ls hR hS hL hV h1 h2 h3 h4
  obtain ⟨hd0, hc⟩ := qa_and hc
  have hdg := of_decide_eq_true hd0
  obtain ⟨a, r, rfl, hz9⟩ := qe_s1I h
  have h := hz9
  exact lv_i2c hx hb hdg rfl (hX _ _ _ _ _ _ h H locs cells slots ls hR hS hL ⟨trivial, hV.2⟩ h1 h2 h3 h4)

theorem qa_stp_l2i (hF : qa_F z ph mi p R s m args meth c mc ms n0) {x : List Nat} {v : Int32} {u : Int64}  {bc bs pc : Nat} {loc : LLoc} {st : LStk} {w : LMem} (hc : qa_chk mi pc (.l2i, x, v, u) = true)
    (hX : ∀ bc bs pc loc st w, X bc bs pc loc st w → qa_G z ph mi mc ms n0 p l e R s m args below meth c QF bc bs pc loc st w)
    (h : qa_sem X C Q (qa_ins ph mi bc bs (.l2i, x, v, u) pc loc st w)) : qa_G z ph mi mc ms n0 p l e R s m args below meth c QF bc bs pc loc st w := by
  obtain ⟨hx, hb, hml, hown, hts, hnm, hK, hSF, hb0, hsz, hmc, hms, hfr, hlo9⟩ := id hF
  intro H locs cells slots ls hR hS hL hV h1 h2 h3 h4
  obtain ⟨hd0, hc⟩ := qa_and hc
  have hdg := of_decide_eq_true hd0
  obtain ⟨a, r, rfl, hz9⟩ := qe_s1L h
  have h := hz9
  exact lv_l2i hx hb hdg rfl (hX _ _ _ _ _ _ h H locs cells slots ls hR hS hL ⟨trivial, hV.2⟩ h1 h2 h3 h4)

theorem qa_stp_null (hF : qa_F z ph mi p R s m args meth c mc ms n0) {x : List Nat} {v : Int32} {u : Int64}  {bc bs pc : Nat} {loc : LLoc} {st : LStk} {w : LMem} (hc : qa_chk mi pc (.aconst_null, x, v, u) = true)
    (hX : ∀ bc bs pc loc st w, X bc bs pc loc st w → qa_G z ph mi mc ms n0 p l e R s m args below meth c QF bc bs pc loc st w)
    (h : qa_sem X C Q (qa_ins ph mi bc bs (.aconst_null, x, v, u) pc loc st w)) : qa_G z ph mi mc ms n0 p l e R s m args below meth c QF bc bs pc loc st w := by
  obtain ⟨hx, hb, hml, hown, hts, hnm, hK, hSF, hb0, hsz, hmc, hms, hfr, hlo9⟩ := id hF
  intro H locs cells slots ls hR hS hL hV h1 h2 h3 h4
  obtain ⟨hd0, hc⟩ := qa_and hc
  have hdg := of_decide_eq_true hd0
  exact lv_null hx hb hdg (hX _ _ _ _ _ _ h H locs cells slots ls hR hS hL ⟨trivial, hV⟩ h1 h2 h3 h4)

theorem qa_stp_iconst (hF : qa_F z ph mi p R s m args meth c mc ms n0) {x : List Nat} {v : Int32} {u : Int64} {n : Int} {bc bs pc : Nat} {loc : LLoc} {st : LStk} {w : LMem} (hc : qa_chk mi pc (.iconst n, x, v, u) = true)
    (hX : ∀ bc bs pc loc st w, X bc bs pc loc st w → qa_G z ph mi mc ms n0 p l e R s m args below meth c QF bc bs pc loc st w)
    (h : qa_sem X C Q (qa_ins ph mi bc bs (.iconst n, x, v, u) pc loc st w)) : qa_G z ph mi mc ms n0 p l e R s m args below meth c QF bc bs pc loc st w := by
  obtain ⟨hx, hb, hml, hown, hts, hnm, hK, hSF, hb0, hsz, hmc, hms, hfr, hlo9⟩ := id hF
  intro H locs cells slots ls hR hS hL hV h1 h2 h3 h4
  obtain ⟨hd0, hc⟩ := qa_and hc
  have hdg := of_decide_eq_true hd0
  exact lv_iconst hx hb hdg (of_decide_eq_true hc) (hX _ _ _ _ _ _ h H locs cells slots ls hR hS hL ⟨trivial, hV⟩ h1 h2 h3 h4)

theorem qa_stp_bipush (hF : qa_F z ph mi p R s m args meth c mc ms n0) {x : List Nat} {v : Int32} {u : Int64} {n : Int} {bc bs pc : Nat} {loc : LLoc} {st : LStk} {w : LMem} (hc : qa_chk mi pc (.bipush n, x, v, u) = true)
    (hX : ∀ bc bs pc loc st w, X bc bs pc loc st w → qa_G z ph mi mc ms n0 p l e R s m args below meth c QF bc bs pc loc st w)
    (h : qa_sem X C Q (qa_ins ph mi bc bs (.bipush n, x, v, u) pc loc st w)) : qa_G z ph mi mc ms n0 p l e R s m args below meth c QF bc bs pc loc st w := by
  obtain ⟨hx, hb, hml, hown, hts, hnm, hK, hSF, hb0, hsz, hmc, hms, hfr, hlo9⟩ := id hF
  intro H locs cells slots ls hR hS hL hV h1 h2 h3 h4
  obtain ⟨hd0, hc⟩ := qa_and hc
  have hdg := of_decide_eq_true hd0
  exact lv_bipush hx hb hdg (of_decide_eq_true hc) (hX _ _ _ _ _ _ h H locs cells slots ls hR hS hL ⟨trivial, hV⟩ h1 h2 h3 h4)

theorem qa_stp_sipush (hF : qa_F z ph mi p R s m args meth c mc ms n0) {x : List Nat} {v : Int32} {u : Int64} {n : Int} {bc bs pc : Nat} {loc : LLoc} {st : LStk} {w : LMem} (hc : qa_chk mi pc (.sipush n, x, v, u) = true)
    (hX : ∀ bc bs pc loc st w, X bc bs pc loc st w → qa_G z ph mi mc ms n0 p l e R s m args below meth c QF bc bs pc loc st w)
    (h : qa_sem X C Q (qa_ins ph mi bc bs (.sipush n, x, v, u) pc loc st w)) : qa_G z ph mi mc ms n0 p l e R s m args below meth c QF bc bs pc loc st w := by
  obtain ⟨hx, hb, hml, hown, hts, hnm, hK, hSF, hb0, hsz, hmc, hms, hfr, hlo9⟩ := id hF
  intro H locs cells slots ls hR hS hL hV h1 h2 h3 h4
  obtain ⟨hd0, hc⟩ := qa_and hc
  have hdg := of_decide_eq_true hd0
  exact lv_sipush hx hb hdg (of_decide_eq_true hc) (hX _ _ _ _ _ _ h H locs cells slots ls hR hS hL ⟨trivial, hV⟩ h1 h2 h3 h4)

theorem qa_stp_lconst (hF : qa_F z ph mi p R s m args meth c mc ms n0) {x : List Nat} {v : Int32} {u : Int64} {n : Fin 2} {bc bs pc : Nat} {loc : LLoc} {st : LStk} {w : LMem} (hc : qa_chk mi pc (.lconst n, x, v, u) = true)
    (hX : ∀ bc bs pc loc st w, X bc bs pc loc st w → qa_G z ph mi mc ms n0 p l e R s m args below meth c QF bc bs pc loc st w)
    (h : qa_sem X C Q (qa_ins ph mi bc bs (.lconst n, x, v, u) pc loc st w)) : qa_G z ph mi mc ms n0 p l e R s m args below meth c QF bc bs pc loc st w := by
  obtain ⟨hx, hb, hml, hown, hts, hnm, hK, hSF, hb0, hsz, hmc, hms, hfr, hlo9⟩ := id hF
  intro H locs cells slots ls hR hS hL hV h1 h2 h3 h4
  obtain ⟨hd0, hc⟩ := qa_and hc
  have hdg := of_decide_eq_true hd0
  exact lv_lconst hx hb hdg (of_decide_eq_true hc) (hX _ _ _ _ _ _ h H locs cells slots ls hR hS hL ⟨trivial, hV⟩ h1 h2 h3 h4)

theorem qa_stp_ldc_w (hF : qa_F z ph mi p R s m args meth c mc ms n0) {x : List Nat} {v : Int32} {u : Int64} {n : Nat} {bc bs pc : Nat} {loc : LLoc} {st : LStk} {w : LMem} (hc : qa_chk mi pc (.ldc_w n, x, v, u) = true)
    (hX : ∀ bc bs pc loc st w, X bc bs pc loc st w → qa_G z ph mi mc ms n0 p l e R s m args below meth c QF bc bs pc loc st w)
    (h : qa_sem X C Q (qa_ins ph mi bc bs (.ldc_w n, x, v, u) pc loc st w)) : qa_G z ph mi mc ms n0 p l e R s m args below meth c QF bc bs pc loc st w := by
  obtain ⟨hx, hb, hml, hown, hts, hnm, hK, hSF, hb0, hsz, hmc, hms, hfr, hlo9⟩ := id hF
  intro H locs cells slots ls hR hS hL hV h1 h2 h3 h4
  obtain ⟨hd0, hc⟩ := qa_and hc
  have hdg := of_decide_eq_true hd0
  obtain ⟨⟨o9, i9, v9⟩, hq, q⟩ := List.any_eq_true.mp hc
  obtain ⟨q1, q⟩ := qa_and q
  obtain ⟨q2, q3⟩ := qa_and q
  cases qa_beq q1; cases qa_beq q2; cases of_decide_eq_true q3
  have hw := hts _ (qa_mW (List.all_eq_true.mp qa_pc9 _ hq))
  exact lv_ldcw hx hb hown hw hdg (hX _ _ _ _ _ _ h H locs cells slots ls hR hS hL ⟨trivial, hV⟩ h1 h2 h3 h4)

theorem qa_stp_ldc2_w (hF : qa_F z ph mi p R s m args meth c mc ms n0) {x : List Nat} {v : Int32} {u : Int64} {n : Nat} {bc bs pc : Nat} {loc : LLoc} {st : LStk} {w : LMem} (hc : qa_chk mi pc (.ldc2_w n, x, v, u) = true)
    (hX : ∀ bc bs pc loc st w, X bc bs pc loc st w → qa_G z ph mi mc ms n0 p l e R s m args below meth c QF bc bs pc loc st w)
    (h : qa_sem X C Q (qa_ins ph mi bc bs (.ldc2_w n, x, v, u) pc loc st w)) : qa_G z ph mi mc ms n0 p l e R s m args below meth c QF bc bs pc loc st w := by
  obtain ⟨hx, hb, hml, hown, hts, hnm, hK, hSF, hb0, hsz, hmc, hms, hfr, hlo9⟩ := id hF
  intro H locs cells slots ls hR hS hL hV h1 h2 h3 h4
  obtain ⟨hd0, hc⟩ := qa_and hc
  have hdg := of_decide_eq_true hd0
  obtain ⟨⟨o9, i9, v9⟩, hq, q⟩ := List.any_eq_true.mp hc
  obtain ⟨q1, q⟩ := qa_and q
  obtain ⟨q2, q3⟩ := qa_and q
  cases qa_beq q1; cases qa_beq q2; cases of_decide_eq_true q3
  have hw := hts _ (qa_mW (List.all_eq_true.mp qa_pl9 _ hq))
  exact lv_ldc2 hx hb hown hw hdg (hX _ _ _ _ _ _ h H locs cells slots ls hR hS hL ⟨trivial, hV⟩ h1 h2 h3 h4)

theorem qa_stp_ldc (hF : qa_F z ph mi p R s m args meth c mc ms n0) {x : List Nat} {v : Int32} {u : Int64} {n : Nat} {bc bs pc : Nat} {loc : LLoc} {st : LStk} {w : LMem} (hc : qa_chk mi pc (.ldc n, x, v, u) = true)
    (hX : ∀ bc bs pc loc st w, X bc bs pc loc st w → qa_G z ph mi mc ms n0 p l e R s m args below meth c QF bc bs pc loc st w)
    (h : qa_sem X C Q (qa_ins ph mi bc bs (.ldc n, x, v, u) pc loc st w)) : qa_G z ph mi mc ms n0 p l e R s m args below meth c QF bc bs pc loc st w := by
  obtain ⟨hx, hb, hml, hown, hts, hnm, hK, hSF, hb0, hsz, hmc, hms, hfr, hlo9⟩ := id hF
  intro H locs cells slots ls hR hS hL hV h1 h2 h3 h4
  obtain ⟨hd0, hc⟩ := qa_and hc
  have hdg := of_decide_eq_true hd0
  cases x with
  | nil =>
    obtain ⟨⟨o9, i9, v9⟩, hq, q⟩ := List.any_eq_true.mp hc
    obtain ⟨q1, q⟩ := qa_and q
    obtain ⟨q2, q3⟩ := qa_and q
    cases qa_beq q1; cases qa_beq q2; cases of_decide_eq_true q3
    have hw := hts _ (qa_mW (List.all_eq_true.mp qa_pc9 _ hq))
    exact lv_ldc hx hb hown hw hdg (hX _ _ _ _ _ _ h H locs cells slots ls hR hS hL ⟨trivial, hV⟩ h1 h2 h3 h4)
  | cons t x =>
    obtain ⟨⟨o9, i9, v9⟩, hq, q⟩ := List.any_eq_true.mp hc
    obtain ⟨q1, q⟩ := qa_and q
    obtain ⟨q2, q3⟩ := qa_and q
    cases qa_beq q1; cases qa_beq q2; cases qa_beq q3
    obtain ⟨r1, r2, r3⟩ := qa_ps9 _ hq
    dsimp only at r1 r2 r3
    have hZ := hSF.2.2.2.1 _ r1
    rw [← r2, ← r3] at hZ
    exact va_ldcS hx hb hown hZ hdg (hX _ _ _ _ _ _ h H locs cells slots ls hR hS hL ⟨⟨fun q => absurd q (by decide), fun _ => ⟨by decide, Or.inr ⟨rfl, r1⟩⟩⟩, hV⟩ h1 h2 h3 h4)

theorem qa_stp_iload_n (hF : qa_F z ph mi p R s m args meth c mc ms n0) {x : List Nat} {v : Int32} {u : Int64} {n : Fin 4} {bc bs pc : Nat} {loc : LLoc} {st : LStk} {w : LMem} (hc : qa_chk mi pc (.iload_n n, x, v, u) = true)
    (hX : ∀ bc bs pc loc st w, X bc bs pc loc st w → qa_G z ph mi mc ms n0 p l e R s m args below meth c QF bc bs pc loc st w)
    (h : qa_sem X C Q (qa_ins ph mi bc bs (.iload_n n, x, v, u) pc loc st w)) : qa_G z ph mi mc ms n0 p l e R s m args below meth c QF bc bs pc loc st w := by
  obtain ⟨hx, hb, hml, hown, hts, hnm, hK, hSF, hb0, hsz, hmc, hms, hfr, hlo9⟩ := id hF
  intro H locs cells slots ls hR hS hL hV h1 h2 h3 h4
  obtain ⟨hd0, hc⟩ := qa_and hc
  have hdg := of_decide_eq_true hd0
  obtain ⟨a, hn, h⟩ := qe_ldI h
  exact lv_iload_n hx hb hdg rfl (hL.2.2.2 _ _ hn).1 (hX _ _ _ _ _ _ h H locs cells slots ls hR hS hL ⟨trivial, hV⟩ h1 h2 h3 h4)

theorem qa_stp_iload (hF : qa_F z ph mi p R s m args meth c mc ms n0) {x : List Nat} {v : Int32} {u : Int64} {n : Nat} {bc bs pc : Nat} {loc : LLoc} {st : LStk} {w : LMem} (hc : qa_chk mi pc (.iload n, x, v, u) = true)
    (hX : ∀ bc bs pc loc st w, X bc bs pc loc st w → qa_G z ph mi mc ms n0 p l e R s m args below meth c QF bc bs pc loc st w)
    (h : qa_sem X C Q (qa_ins ph mi bc bs (.iload n, x, v, u) pc loc st w)) : qa_G z ph mi mc ms n0 p l e R s m args below meth c QF bc bs pc loc st w := by
  obtain ⟨hx, hb, hml, hown, hts, hnm, hK, hSF, hb0, hsz, hmc, hms, hfr, hlo9⟩ := id hF
  intro H locs cells slots ls hR hS hL hV h1 h2 h3 h4
  obtain ⟨hd0, hc⟩ := qa_and hc
  have hdg := of_decide_eq_true hd0
  obtain ⟨a, hn, h⟩ := qe_ldI h
  exact lv_iload hx hb hdg (hL.2.2.2 _ _ hn).1 (hX _ _ _ _ _ _ h H locs cells slots ls hR hS hL ⟨trivial, hV⟩ h1 h2 h3 h4)

theorem qa_stp_lload_n (hF : qa_F z ph mi p R s m args meth c mc ms n0) {x : List Nat} {v : Int32} {u : Int64} {n : Fin 4} {bc bs pc : Nat} {loc : LLoc} {st : LStk} {w : LMem} (hc : qa_chk mi pc (.lload_n n, x, v, u) = true)
    (hX : ∀ bc bs pc loc st w, X bc bs pc loc st w → qa_G z ph mi mc ms n0 p l e R s m args below meth c QF bc bs pc loc st w)
    (h : qa_sem X C Q (qa_ins ph mi bc bs (.lload_n n, x, v, u) pc loc st w)) : qa_G z ph mi mc ms n0 p l e R s m args below meth c QF bc bs pc loc st w := by
  obtain ⟨hx, hb, hml, hown, hts, hnm, hK, hSF, hb0, hsz, hmc, hms, hfr, hlo9⟩ := id hF
  intro H locs cells slots ls hR hS hL hV h1 h2 h3 h4
  obtain ⟨hd0, hc⟩ := qa_and hc
  have hdg := of_decide_eq_true hd0
  obtain ⟨a, hn, h⟩ := qe_ldL h
  exact lv_lload_n hx hb hdg rfl (hL.2.2.2 _ _ hn).1 (hX _ _ _ _ _ _ h H locs cells slots ls hR hS hL ⟨trivial, hV⟩ h1 h2 h3 h4)

theorem qa_stp_lload (hF : qa_F z ph mi p R s m args meth c mc ms n0) {x : List Nat} {v : Int32} {u : Int64} {n : Nat} {bc bs pc : Nat} {loc : LLoc} {st : LStk} {w : LMem} (hc : qa_chk mi pc (.lload n, x, v, u) = true)
    (hX : ∀ bc bs pc loc st w, X bc bs pc loc st w → qa_G z ph mi mc ms n0 p l e R s m args below meth c QF bc bs pc loc st w)
    (h : qa_sem X C Q (qa_ins ph mi bc bs (.lload n, x, v, u) pc loc st w)) : qa_G z ph mi mc ms n0 p l e R s m args below meth c QF bc bs pc loc st w := by
  obtain ⟨hx, hb, hml, hown, hts, hnm, hK, hSF, hb0, hsz, hmc, hms, hfr, hlo9⟩ := id hF
  intro H locs cells slots ls hR hS hL hV h1 h2 h3 h4
  obtain ⟨hd0, hc⟩ := qa_and hc
  have hdg := of_decide_eq_true hd0
  obtain ⟨a, hn, h⟩ := qe_ldL h
  exact lv_lload hx hb hdg (hL.2.2.2 _ _ hn).1 (hX _ _ _ _ _ _ h H locs cells slots ls hR hS hL ⟨trivial, hV⟩ h1 h2 h3 h4)

theorem qa_stp_aload_n (hF : qa_F z ph mi p R s m args meth c mc ms n0) {x : List Nat} {v : Int32} {u : Int64} {n : Fin 4} {bc bs pc : Nat} {loc : LLoc} {st : LStk} {w : LMem} (hc : qa_chk mi pc (.aload_n n, x, v, u) = true)
    (hX : ∀ bc bs pc loc st w, X bc bs pc loc st w → qa_G z ph mi mc ms n0 p l e R s m args below meth c QF bc bs pc loc st w)
    (h : qa_sem X C Q (qa_ins ph mi bc bs (.aload_n n, x, v, u) pc loc st w)) : qa_G z ph mi mc ms n0 p l e R s m args below meth c QF bc bs pc loc st w := by
  obtain ⟨hx, hb, hml, hown, hts, hnm, hK, hSF, hb0, hsz, hmc, hms, hfr, hlo9⟩ := id hF
  intro H locs cells slots ls hR hS hL hV h1 h2 h3 h4
  obtain ⟨hd0, hc⟩ := qa_and hc
  have hdg := of_decide_eq_true hd0
  obtain ⟨k, o, hn, h⟩ := qe_ldR h
  cases o with
  | none => exact lv_aload_nN hx hb hdg rfl (hL.2.2.2 _ _ hn).1 (hX _ _ _ _ _ _ h H locs cells slots ls hR hS hL ⟨trivial, hV⟩ h1 h2 h3 h4)
  | some i => exact lv_aload_n hx hb hdg rfl (hL.2.2.2 _ _ hn).1 (hX _ _ _ _ _ _ h H locs cells slots ls hR hS hL ⟨(hL.2.2.2 _ _ hn).2, hV⟩ h1 h2 h3 h4)

theorem qa_stp_istore_n (hF : qa_F z ph mi p R s m args meth c mc ms n0) {x : List Nat} {v : Int32} {u : Int64} {n : Fin 4} {bc bs pc : Nat} {loc : LLoc} {st : LStk} {w : LMem} (hc : qa_chk mi pc (.istore_n n, x, v, u) = true)
    (hX : ∀ bc bs pc loc st w, X bc bs pc loc st w → qa_G z ph mi mc ms n0 p l e R s m args below meth c QF bc bs pc loc st w)
    (h : qa_sem X C Q (qa_ins ph mi bc bs (.istore_n n, x, v, u) pc loc st w)) : qa_G z ph mi mc ms n0 p l e R s m args below meth c QF bc bs pc loc st w := by
  obtain ⟨hx, hb, hml, hown, hts, hnm, hK, hSF, hb0, hsz, hmc, hms, hfr, hlo9⟩ := id hF
  intro H locs cells slots ls hR hS hL hV h1 h2 h3 h4
  obtain ⟨hd0, hc⟩ := qa_and hc
  have hdg := of_decide_eq_true hd0
  obtain ⟨a, r, rfl, hz9⟩ := qe_s1I h
  have h := hz9
  exact lv_istore_n hx hb hdg rfl (qa_lv_has hL) (qa_blt' hc) rfl (fun ls' h' => hX _ _ _ _ _ _ h H locs cells slots ls' hR hS (qa_lo_st1 hL (v := lI a) trivial h') hV.2 h1 h2 h3 h4)

theorem qa_stp_lstore_n (hF : qa_F z ph mi p R s m args meth c mc ms n0) {x : List Nat} {v : Int32} {u : Int64} {n : Fin 4} {bc bs pc : Nat} {loc : LLoc} {st : LStk} {w : LMem} (hc : qa_chk mi pc (.lstore_n n, x, v, u) = true)
    (hX : ∀ bc bs pc loc st w, X bc bs pc loc st w → qa_G z ph mi mc ms n0 p l e R s m args below meth c QF bc bs pc loc st w)
    (h : qa_sem X C Q (qa_ins ph mi bc bs (.lstore_n n, x, v, u) pc loc st w)) : qa_G z ph mi mc ms n0 p l e R s m args below meth c QF bc bs pc loc st w := by
  obtain ⟨hx, hb, hml, hown, hts, hnm, hK, hSF, hb0, hsz, hmc, hms, hfr, hlo9⟩ := id hF
  intro H locs cells slots ls hR hS hL hV h1 h2 h3 h4
  obtain ⟨hd0, hc⟩ := qa_and hc
  have hdg := of_decide_eq_true hd0
  obtain ⟨a, r, rfl, hz9⟩ := qe_s1L h
  have h := hz9
  exact lv_lstore_n hx hb hdg rfl (qa_lv_has hL) (qa_blt' hc) rfl (fun ls' h' => hX _ _ _ _ _ _ h H locs cells slots ls' hR hS (qa_lo_st2 hL (v := lL a) trivial h') hV.2 h1 h2 h3 h4)

theorem qa_stp_astore_n (hF : qa_F z ph mi p R s m args meth c mc ms n0) {x : List Nat} {v : Int32} {u : Int64} {n : Fin 4} {bc bs pc : Nat} {loc : LLoc} {st : LStk} {w : LMem} (hc : qa_chk mi pc (.astore_n n, x, v, u) = true)
    (hX : ∀ bc bs pc loc st w, X bc bs pc loc st w → qa_G z ph mi mc ms n0 p l e R s m args below meth c QF bc bs pc loc st w)
    (h : qa_sem X C Q (qa_ins ph mi bc bs (.astore_n n, x, v, u) pc loc st w)) : qa_G z ph mi mc ms n0 p l e R s m args below meth c QF bc bs pc loc st w := by
  obtain ⟨hx, hb, hml, hown, hts, hnm, hK, hSF, hb0, hsz, hmc, hms, hfr, hlo9⟩ := id hF
  intro H locs cells slots ls hR hS hL hV h1 h2 h3 h4
  obtain ⟨hd0, hc⟩ := qa_and hc
  have hdg := of_decide_eq_true hd0
  obtain ⟨k, o, r, rfl, hz9⟩ := qe_s1R h
  have h := hz9
  cases o with
  | none => exact lv_astore_nN hx hb hdg rfl (qa_lv_has hL) (qa_blt' hc) rfl (fun ls' h' => hX _ _ _ _ _ _ h H locs cells slots ls' hR hS (qa_lo_st1 hL (v := lR k none) trivial h') hV.2 h1 h2 h3 h4)
  | some i => exact lv_astore_n hx hb hdg rfl (qa_lv_has hL) (qa_blt' hc) rfl (fun ls' h' => hX _ _ _ _ _ _ h H locs cells slots ls' hR hS (qa_lo_st1 hL (v := lR k (some i)) hV.1 h') hV.2 h1 h2 h3 h4)

theorem qa_stp_aload (hF : qa_F z ph mi p R s m args meth c mc ms n0) {x : List Nat} {v : Int32} {u : Int64} {n : Nat} {bc bs pc : Nat} {loc : LLoc} {st : LStk} {w : LMem} (hc : qa_chk mi pc (.aload n, x, v, u) = true)
    (hX : ∀ bc bs pc loc st w, X bc bs pc loc st w → qa_G z ph mi mc ms n0 p l e R s m args below meth c QF bc bs pc loc st w)
    (h : qa_sem X C Q (qa_ins ph mi bc bs (.aload n, x, v, u) pc loc st w)) : qa_G z ph mi mc ms n0 p l e R s m args below meth c QF bc bs pc loc st w := by
  obtain ⟨hx, hb, hml, hown, hts, hnm, hK, hSF, hb0, hsz, hmc, hms, hfr, hlo9⟩ := id hF
  intro H locs cells slots ls hR hS hL hV h1 h2 h3 h4
  obtain ⟨hd0, hc⟩ := qa_and hc
  have hdg := of_decide_eq_true hd0
  obtain ⟨k, o, hn, h⟩ := qe_ldR h
  cases o with
  | none => exact lv_aloadN hx hb hdg (hL.2.2.2 _ _ hn).1 (hX _ _ _ _ _ _ h H locs cells slots ls hR hS hL ⟨trivial, hV⟩ h1 h2 h3 h4)
  | some i => exact lv_aload hx hb hdg (hL.2.2.2 _ _ hn).1 (hX _ _ _ _ _ _ h H locs cells slots ls hR hS hL ⟨(hL.2.2.2 _ _ hn).2, hV⟩ h1 h2 h3 h4)

theorem qa_stp_istore (hF : qa_F z ph mi p R s m args meth c mc ms n0) {x : List Nat} {v : Int32} {u : Int64} {n : Nat} {bc bs pc : Nat} {loc : LLoc} {st : LStk} {w : LMem} (hc : qa_chk mi pc (.istore n, x, v, u) = true)
    (hX : ∀ bc bs pc loc st w, X bc bs pc loc st w → qa_G z ph mi mc ms n0 p l e R s m args below meth c QF bc bs pc loc st w)
    (h : qa_sem X C Q (qa_ins ph mi bc bs (.istore n, x, v, u) pc loc st w)) : qa_G z ph mi mc ms n0 p l e R s m args below meth c QF bc bs pc loc st w := by
  obtain ⟨hx, hb, hml, hown, hts, hnm, hK, hSF, hb0, hsz, hmc, hms, hfr, hlo9⟩ := id hF
  intro H locs cells slots ls hR hS hL hV h1 h2 h3 h4
  obtain ⟨hd0, hc⟩ := qa_and hc
  have hdg := of_decide_eq_true hd0
  obtain ⟨a, r, rfl, hz9⟩ := qe_s1I h
  have h := hz9
  exact lv_istore hx hb hdg (qa_lv_has hL) (qa_blt' hc) rfl (fun ls' h' => hX _ _ _ _ _ _ h H locs cells slots ls' hR hS (qa_lo_st1 hL (v := lI a) trivial h') hV.2 h1 h2 h3 h4)

theorem qa_stp_lstore (hF : qa_F z ph mi p R s m args meth c mc ms n0) {x : List Nat} {v : Int32} {u : Int64} {n : Nat} {bc bs pc : Nat} {loc : LLoc} {st : LStk} {w : LMem} (hc : qa_chk mi pc (.lstore n, x, v, u) = true)
    (hX : ∀ bc bs pc loc st w, X bc bs pc loc st w → qa_G z ph mi mc ms n0 p l e R s m args below meth c QF bc bs pc loc st w)
    (h : qa_sem X C Q (qa_ins ph mi bc bs (.lstore n, x, v, u) pc loc st w)) : qa_G z ph mi mc ms n0 p l e R s m args below meth c QF bc bs pc loc st w := by
  obtain ⟨hx, hb, hml, hown, hts, hnm, hK, hSF, hb0, hsz, hmc, hms, hfr, hlo9⟩ := id hF
  intro H locs cells slots ls hR hS hL hV h1 h2 h3 h4
  obtain ⟨hd0, hc⟩ := qa_and hc
  have hdg := of_decide_eq_true hd0
  obtain ⟨a, r, rfl, hz9⟩ := qe_s1L h
  have h := hz9
  exact lv_lstore hx hb hdg (qa_lv_has hL) (qa_blt' hc) rfl (fun ls' h' => hX _ _ _ _ _ _ h H locs cells slots ls' hR hS (qa_lo_st2 hL (v := lL a) trivial h') hV.2 h1 h2 h3 h4)

theorem qa_stp_astore (hF : qa_F z ph mi p R s m args meth c mc ms n0) {x : List Nat} {v : Int32} {u : Int64} {n : Nat} {bc bs pc : Nat} {loc : LLoc} {st : LStk} {w : LMem} (hc : qa_chk mi pc (.astore n, x, v, u) = true)
    (hX : ∀ bc bs pc loc st w, X bc bs pc loc st w → qa_G z ph mi mc ms n0 p l e R s m args below meth c QF bc bs pc loc st w)
    (h : qa_sem X C Q (qa_ins ph mi bc bs (.astore n, x, v, u) pc loc st w)) : qa_G z ph mi mc ms n0 p l e R s m args below meth c QF bc bs pc loc st w := by
  obtain ⟨hx, hb, hml, hown, hts, hnm, hK, hSF, hb0, hsz, hmc, hms, hfr, hlo9⟩ := id hF
  intro H locs cells slots ls hR hS hL hV h1 h2 h3 h4
  obtain ⟨hd0, hc⟩ := qa_and hc
  have hdg := of_decide_eq_true hd0
  obtain ⟨k, o, r, rfl, hz9⟩ := qe_s1R h
  have h := hz9
  cases o with
  | none => exact lv_astoreN hx hb hdg (qa_lv_has hL) (qa_blt' hc) rfl (fun ls' h' => hX _ _ _ _ _ _ h H locs cells slots ls' hR hS (qa_lo_st1 hL (v := lR k none) trivial h') hV.2 h1 h2 h3 h4)
  | some i => exact lv_astore hx hb hdg (qa_lv_has hL) (qa_blt' hc) rfl (fun ls' h' => hX _ _ _ _ _ _ h H locs cells slots ls' hR hS (qa_lo_st1 hL (v := lR k (some i)) hV.1 h') hV.2 h1 h2 h3 h4)

theorem qa_stp_iinc (hF : qa_F z ph mi p R s m args meth c mc ms n0) {x : List Nat} {v : Int32} {u : Int64} {n : Nat} {d : Int} {bc bs pc : Nat} {loc : LLoc} {st : LStk} {w : LMem} (hc : qa_chk mi pc (.iinc n d, x, v, u) = true)
    (hX : ∀ bc bs pc loc st w, X bc bs pc loc st w → qa_G z ph mi mc ms n0 p l e R s m args below meth c QF bc bs pc loc st w)
    (h : qa_sem X C Q (qa_ins ph mi bc bs (.iinc n d, x, v, u) pc loc st w)) : qa_G z ph mi mc ms n0 p l e R s m args below meth c QF bc bs pc loc st w := by
  obtain ⟨hx, hb, hml, hown, hts, hnm, hK, hSF, hb0, hsz, hmc, hms, hfr, hlo9⟩ := id hF
  intro H locs cells slots ls hR hS hL hV h1 h2 h3 h4
  obtain ⟨hd0, hc⟩ := qa_and hc
  have hdg := of_decide_eq_true hd0
  obtain ⟨a, hn, h⟩ := qe_ldI h
  obtain ⟨hc1, hc2⟩ := qa_and hc
  obtain ⟨k9, hk9⟩ := List.getElem?_of_mem (qa_lv_mem (z := z) hn)
  exact lv_iinc hx hb hdg (qa_lv_has hL) hk9 (by rw [of_decide_eq_true hc2]) (qa_blt' hc1) rfl (fun ls' h' => hX _ _ _ _ _ _ h H locs cells slots ls' hR hS (qa_lo_st1 hL (v := lI (a + v)) trivial h') hV h1 h2 h3 h4)

theorem qa_stp_dup (hF : qa_F z ph mi p R s m args meth c mc ms n0) {x : List Nat} {v : Int32} {u : Int64}  {bc bs pc : Nat} {loc : LLoc} {st : LStk} {w : LMem} (hc : qa_chk mi pc (.dup, x, v, u) = true)
    (hX : ∀ bc bs pc loc st w, X bc bs pc loc st w → qa_G z ph mi mc ms n0 p l e R s m args below meth c QF bc bs pc loc st w)
    (h : qa_sem X C Q (qa_ins ph mi bc bs (.dup, x, v, u) pc loc st w)) : qa_G z ph mi mc ms n0 p l e R s m args below meth c QF bc bs pc loc st w := by
  obtain ⟨hx, hb, hml, hown, hts, hnm, hK, hSF, hb0, hsz, hmc, hms, hfr, hlo9⟩ := id hF
  intro H locs cells slots ls hR hS hL hV h1 h2 h3 h4
  obtain ⟨hd0, hc⟩ := qa_and hc
  have hdg := of_decide_eq_true hd0
  cases st with
  | nil => exact (qe_no h).elim
  | cons a r =>
    obtain ⟨hq, h⟩ := qe_if h
    exact lv_dup hx hb hdg (qa_cat1 (by simpa using hq)) (hX _ _ _ _ _ _ h H locs cells slots ls hR hS hL ⟨hV.1, hV.1, hV.2⟩ h1 h2 h3 h4)

theorem qa_stp_pop (hF : qa_F z ph mi p R s m args meth c mc ms n0) {x : List Nat} {v : Int32} {u : Int64}  {bc bs pc : Nat} {loc : LLoc} {st : LStk} {w : LMem} (hc : qa_chk mi pc (.pop, x, v, u) = true)
    (hX : ∀ bc bs pc loc st w, X bc bs pc loc st w → qa_G z ph mi mc ms n0 p l e R s m args below meth c QF bc bs pc loc st w)
    (h : qa_sem X C Q (qa_ins ph mi bc bs (.pop, x, v, u) pc loc st w)) : qa_G z ph mi mc ms n0 p l e R s m args below meth c QF bc bs pc loc st w := by
  obtain ⟨hx, hb, hml, hown, hts, hnm, hK, hSF, hb0, hsz, hmc, hms, hfr, hlo9⟩ := id hF
  intro H locs cells slots ls hR hS hL hV h1 h2 h3 h4
  obtain ⟨hd0, hc⟩ := qa_and hc
  have hdg := of_decide_eq_true hd0
  cases st with
  | nil => exact (qe_no h).elim
  | cons a r =>
    obtain ⟨hq, h⟩ := qe_if h
    exact lv_pop hx hb hdg (qa_cat1 (by simpa using hq)) (hX _ _ _ _ _ _ h H locs cells slots ls hR hS hL hV.2 h1 h2 h3 h4)

theorem qa_stp_dup2 (hF : qa_F z ph mi p R s m args meth c mc ms n0) {x : List Nat} {v : Int32} {u : Int64}  {bc bs pc : Nat} {loc : LLoc} {st : LStk} {w : LMem} (hc : qa_chk mi pc (.dup2, x, v, u) = true)
    (hX : ∀ bc bs pc loc st w, X bc bs pc loc st w → qa_G z ph mi mc ms n0 p l e R s m args below meth c QF bc bs pc loc st w)
    (h : qa_sem X C Q (qa_ins ph mi bc bs (.dup2, x, v, u) pc loc st w)) : qa_G z ph mi mc ms n0 p l e R s m args below meth c QF bc bs pc loc st w := by
  obtain ⟨hx, hb, hml, hown, hts, hnm, hK, hSF, hb0, hsz, hmc, hms, hfr, hlo9⟩ := id hF
  intro H locs cells slots ls hR hS hL hV h1 h2 h3 h4
  obtain ⟨hd0, hc⟩ := qa_and hc
  have hdg := of_decide_eq_true hd0
  cases st with
  | nil => exact (qe_no h).elim
  | cons a r => cases r with
    | nil => exact (qe_no h).elim
    | cons b r =>
      obtain ⟨hq, h⟩ := qe_if h
      obtain ⟨hq1, hq2⟩ := qa_and hq
      exact lv_dup2_11 hx hb hdg (qa_cat1 (by simpa using hq1)) (qa_cat1 (by simpa using hq2)) (hX _ _ _ _ _ _ h H locs cells slots ls hR hS hL ⟨hV.1, hV.2.1, hV.1, hV.2.1, hV.2.2⟩ h1 h2 h3 h4)

theorem qa_stp_goto (hF : qa_F z ph mi p R s m args meth c mc ms n0) {x : List Nat} {v : Int32} {u : Int64} {off : Int} {bc bs pc : Nat} {loc : LLoc} {st : LStk} {w : LMem} (hc : qa_chk mi pc (.goto off, x, v, u) = true)
    (hX : ∀ bc bs pc loc st w, X bc bs pc loc st w → qa_G z ph mi mc ms n0 p l e R s m args below meth c QF bc bs pc loc st w)
    (h : qa_sem X C Q (qa_ins ph mi bc bs (.goto off, x, v, u) pc loc st w)) : qa_G z ph mi mc ms n0 p l e R s m args below meth c QF bc bs pc loc st w := by
  obtain ⟨hx, hb, hml, hown, hts, hnm, hK, hSF, hb0, hsz, hmc, hms, hfr, hlo9⟩ := id hF
  intro H locs cells slots ls hR hS hL hV h1 h2 h3 h4
  obtain ⟨hd0, hc⟩ := qa_and hc
  have hdg := of_decide_eq_true hd0
  exact lv_goto hx hb hdg (of_decide_eq_true hc) (hX _ _ _ _ _ _ h H locs cells slots ls hR hS hL hV h1 h2 h3 h4)

theorem qa_stp_ifc (hF : qa_F z ph mi p R s m args meth c mc ms n0) {x : List Nat} {v : Int32} {u : Int64} {cd : ClassFile.Cond} {off : Int} {bc bs pc : Nat} {loc : LLoc} {st : LStk} {w : LMem} (hc : qa_chk mi pc (.ifCond cd off, x, v, u) = true)
    (hX : ∀ bc bs pc loc st w, X bc bs pc loc st w → qa_G z ph mi mc ms n0 p l e R s m args below meth c QF bc bs pc loc st w)
    (h : qa_sem X C Q (qa_ins ph mi bc bs (.ifCond cd off, x, v, u) pc loc st w)) : qa_G z ph mi mc ms n0 p l e R s m args below meth c QF bc bs pc loc st w := by
  obtain ⟨hx, hb, hml, hown, hts, hnm, hK, hSF, hb0, hsz, hmc, hms, hfr, hlo9⟩ := id hF
  intro H locs cells slots ls hR hS hL hV h1 h2 h3 h4
  obtain ⟨hd0, hc⟩ := qa_and hc
  have hdg := of_decide_eq_true hd0
  obtain ⟨a, r, rfl, hz9⟩ := qe_s1I h
  have h := hz9
  cases cd with
  | eq => exact lv_if_eq hx hb hdg (of_decide_eq_true hc) (fun q => (hX _ _ _ _ _ _ (h.1 q) H locs cells slots ls hR hS hL hV.2 h1 h2 h3 h4)) (fun q => (hX _ _ _ _ _ _ (h.2 q) H locs cells slots ls hR hS hL hV.2 h1 h2 h3 h4))
  | ne => exact lv_if_ne hx hb hdg (of_decide_eq_true hc) (fun q => (hX _ _ _ _ _ _ (h.2 q) H locs cells slots ls hR hS hL hV.2 h1 h2 h3 h4)) (fun q => (hX _ _ _ _ _ _ (h.1 q) H locs cells slots ls hR hS hL hV.2 h1 h2 h3 h4))
  | lt => exact lv_if_lt hx hb hdg (of_decide_eq_true hc) (fun q => (hX _ _ _ _ _ _ (h.1 q) H locs cells slots ls hR hS hL hV.2 h1 h2 h3 h4)) (fun q => (hX _ _ _ _ _ _ (h.2 q) H locs cells slots ls hR hS hL hV.2 h1 h2 h3 h4))
  | ge => exact lv_if_ge hx hb hdg (of_decide_eq_true hc) (fun q => (hX _ _ _ _ _ _ (h.2 (qa_le_nlt q)) H locs cells slots ls hR hS hL hV.2 h1 h2 h3 h4)) (fun q => (hX _ _ _ _ _ _ (h.1 (qa_nle_lt q)) H locs cells slots ls hR hS hL hV.2 h1 h2 h3 h4))
  | gt => exact lv_if_gt hx hb hdg (of_decide_eq_true hc) (fun q => (hX _ _ _ _ _ _ (h.1 q) H locs cells slots ls hR hS hL hV.2 h1 h2 h3 h4)) (fun q => (hX _ _ _ _ _ _ (h.2 q) H locs cells slots ls hR hS hL hV.2 h1 h2 h3 h4))
  | le => exact lv_if_le hx hb hdg (of_decide_eq_true hc) (fun q => (hX _ _ _ _ _ _ (h.2 (qa_le_nlt q)) H locs cells slots ls hR hS hL hV.2 h1 h2 h3 h4)) (fun q => (hX _ _ _ _ _ _ (h.1 (qa_nle_lt q)) H locs cells slots ls hR hS hL hV.2 h1 h2 h3 h4))

theorem qa_stp_icmp (hF : qa_F z ph mi p R s m args meth c mc ms n0) {x : List Nat} {v : Int32} {u : Int64} {cd : ClassFile.Cond} {off : Int} {bc bs pc : Nat} {loc : LLoc} {st : LStk} {w : LMem} (hc : qa_chk mi pc (.if_icmp cd off, x, v, u) = true)
    (hX : ∀ bc bs pc loc st w, X bc bs pc loc st w → qa_G z ph mi mc ms n0 p l e R s m args below meth c QF bc bs pc loc st w)
    (h : qa_sem X C Q (qa_ins ph mi bc bs (.if_icmp cd off, x, v, u) pc loc st w)) : qa_G z ph mi mc ms n0 p l e R s m args below meth c QF bc bs pc loc st w := by
  obtain ⟨hx, hb, hml, hown, hts, hnm, hK, hSF, hb0, hsz, hmc, hms, hfr, hlo9⟩ := id hF
  intro H locs cells slots ls hR hS hL hV h1 h2 h3 h4
  obtain ⟨hd0, hc⟩ := qa_and hc
  have hdg := of_decide_eq_true hd0
  obtain ⟨b, a, r, rfl, hz9⟩ := qe_s2I h
  have h := hz9
  cases cd with
  | eq => exact lv_icmp_eq hx hb hdg (of_decide_eq_true hc) (fun q => (hX _ _ _ _ _ _ (h.1 q) H locs cells slots ls hR hS hL hV.2.2 h1 h2 h3 h4)) (fun q => (hX _ _ _ _ _ _ (h.2 q) H locs cells slots ls hR hS hL hV.2.2 h1 h2 h3 h4))
  | ne => exact lv_icmp_ne hx hb hdg (of_decide_eq_true hc) (fun q => (hX _ _ _ _ _ _ (h.2 q) H locs cells slots ls hR hS hL hV.2.2 h1 h2 h3 h4)) (fun q => (hX _ _ _ _ _ _ (h.1 q) H locs cells slots ls hR hS hL hV.2.2 h1 h2 h3 h4))
  | lt => exact lv_icmp_lt hx hb hdg (of_decide_eq_true hc) (fun q => (hX _ _ _ _ _ _ (h.1 q) H locs cells slots ls hR hS hL hV.2.2 h1 h2 h3 h4)) (fun q => (hX _ _ _ _ _ _ (h.2 q) H locs cells slots ls hR hS hL hV.2.2 h1 h2 h3 h4))
  | ge => exact lv_icmp_ge hx hb hdg (of_decide_eq_true hc) (fun q => (hX _ _ _ _ _ _ (h.2 (qa_le_nlt q)) H locs cells slots ls hR hS hL hV.2.2 h1 h2 h3 h4)) (fun q => (hX _ _ _ _ _ _ (h.1 (qa_nle_lt q)) H locs cells slots ls hR hS hL hV.2.2 h1 h2 h3 h4))
  | gt => exact lv_icmp_gt hx hb hdg (of_decide_eq_true hc) (fun q => (hX _ _ _ _ _ _ (h.1 q) H locs cells slots ls hR hS hL hV.2.2 h1 h2 h3 h4)) (fun q => (hX _ _ _ _ _ _ (h.2 q) H locs cells slots ls hR hS hL hV.2.2 h1 h2 h3 h4))
  | le => exact lv_icmp_le hx hb hdg (of_decide_eq_true hc) (fun q => (hX _ _ _ _ _ _ (h.2 (qa_le_nlt q)) H locs cells slots ls hR hS hL hV.2.2 h1 h2 h3 h4)) (fun q => (hX _ _ _ _ _ _ (h.1 (qa_nle_lt q)) H locs cells slots ls hR hS hL hV.2.2 h1 h2 h3 h4))

theorem qa_stp_ifnull (hF : qa_F z ph mi p R s m args meth c mc ms n0) {x : List Nat} {v : Int32} {u : Int64} {off : Int} {bc bs pc : Nat} {loc : LLoc} {st : LStk} {w : LMem} (hc : qa_chk mi pc (.ifnull off, x, v, u) = true)
    (hX : ∀ bc bs pc loc st w, X bc bs pc loc st w → qa_G z ph mi mc ms n0 p l e R s m args below meth c QF bc bs pc loc st w)
    (h : qa_sem X C Q (qa_ins ph mi bc bs (.ifnull off, x, v, u) pc loc st w)) : qa_G z ph mi mc ms n0 p l e R s m args below meth c QF bc bs pc loc st w := by
  obtain ⟨hx, hb, hml, hown, hts, hnm, hK, hSF, hb0, hsz, hmc, hms, hfr, hlo9⟩ := id hF
  intro H locs cells slots ls hR hS hL hV h1 h2 h3 h4
  obtain ⟨hd0, hc⟩ := qa_and hc
  have hdg := of_decide_eq_true hd0
  obtain ⟨k, o, r, rfl, hz9⟩ := qe_s1R h
  have h := hz9
  cases o with
  | none => exact lv_ifnullN hx hb hdg (of_decide_eq_true hc) (hX _ _ _ _ _ _ h H locs cells slots ls hR hS hL hV.2 h1 h2 h3 h4)
  | some i => exact lv_ifnull hx hb hdg (hX _ _ _ _ _ _ h H locs cells slots ls hR hS hL hV.2 h1 h2 h3 h4)

theorem qa_stp_ifnonnull (hF : qa_F z ph mi p R s m args meth c mc ms n0) {x : List Nat} {v : Int32} {u : Int64} {off : Int} {bc bs pc : Nat} {loc : LLoc} {st : LStk} {w : LMem} (hc : qa_chk mi pc (.ifnonnull off, x, v, u) = true)
    (hX : ∀ bc bs pc loc st w, X bc bs pc loc st w → qa_G z ph mi mc ms n0 p l e R s m args below meth c QF bc bs pc loc st w)
    (h : qa_sem X C Q (qa_ins ph mi bc bs (.ifnonnull off, x, v, u) pc loc st w)) : qa_G z ph mi mc ms n0 p l e R s m args below meth c QF bc bs pc loc st w := by
  obtain ⟨hx, hb, hml, hown, hts, hnm, hK, hSF, hb0, hsz, hmc, hms, hfr, hlo9⟩ := id hF
  intro H locs cells slots ls hR hS hL hV h1 h2 h3 h4
  obtain ⟨hd0, hc⟩ := qa_and hc
  have hdg := of_decide_eq_true hd0
  obtain ⟨k, o, r, rfl, hz9⟩ := qe_s1R h
  have h := hz9
  cases o with
  | none => exact lv_ifnonnullN hx hb hdg (hX _ _ _ _ _ _ h H locs cells slots ls hR hS hL hV.2 h1 h2 h3 h4)
  | some i => exact lv_ifnonnull hx hb hdg (of_decide_eq_true hc) (hX _ _ _ _ _ _ h H locs cells slots ls hR hS hL hV.2 h1 h2 h3 h4)

theorem qa_stp_tsw (hF : qa_F z ph mi p R s m args meth c mc ms n0) {x : List Nat} {v : Int32} {u : Int64} {d lo hi : Int} {offs : Array Int} {bc bs pc : Nat} {loc : LLoc} {st : LStk} {w : LMem} (hc : qa_chk mi pc (.tableswitch d lo hi offs, x, v, u) = true)
    (hX : ∀ bc bs pc loc st w, X bc bs pc loc st w → qa_G z ph mi mc ms n0 p l e R s m args below meth c QF bc bs pc loc st w)
    (h : qa_sem X C Q (qa_ins ph mi bc bs (.tableswitch d lo hi offs, x, v, u) pc loc st w)) : qa_G z ph mi mc ms n0 p l e R s m args below meth c QF bc bs pc loc st w := by
  obtain ⟨hx, hb, hml, hown, hts, hnm, hK, hSF, hb0, hsz, hmc, hms, hfr, hlo9⟩ := id hF
  intro H locs cells slots ls hR hS hL hV h1 h2 h3 h4
  obtain ⟨hd0, hc⟩ := qa_and hc
  have hdg := of_decide_eq_true hd0
  obtain ⟨a, r, rfl, hz9⟩ := qe_s1I h
  have h := hz9
  obtain ⟨c1, hc⟩ := qa_and hc
  obtain ⟨c2, hc⟩ := qa_and hc
  obtain ⟨c3, hc⟩ := qa_and hc
  obtain ⟨c4, hc⟩ := qa_and hc
  obtain ⟨c5, c6⟩ := qa_and hc
  have c2 := of_decide_eq_true c2
  have c4 := of_decide_eq_true c4
  have c5 := of_decide_eq_true c5
  have hj := qe_sw c1 h
  have key : ∀ i, i < offs.size → ∃ q, (qa_swt mi pc).1[i]? = some q ∧ q.1.toInt = lo + i ∧ (pc : Int) + offs.getD i 0 = (q.2 : Nat) := by
    intro i hi
    have h9 := List.all_eq_true.mp c6 i (List.mem_range.mpr hi)
    rw [qa_nth_get] at h9
    cases hq : (qa_swt mi pc).1[i]? with
    | none => rw [hq] at h9; cases h9
    | some q =>
      rw [hq] at h9
      obtain ⟨h8, h7⟩ := qa_and h9
      exact ⟨q, rfl, of_decide_eq_true h8, of_decide_eq_true h7⟩
  by_cases hlo : a.toInt < lo
  · refine lv_tableOut hx hb hdg (Or.inl hlo) c2 ?_
    refine (hX _ _ _ _ _ _ (hj.2 fun q hq => ?_) H locs cells slots ls hR hS hL hV.2 h1 h2 h3 h4)
    obtain ⟨i, hi⟩ := List.getElem?_of_mem hq
    obtain ⟨q2, e1, e2, -⟩ := key i (by rw [← c5]; exact (List.getElem?_eq_some_iff.mp hi).1)
    cases hi.symm.trans e1
    intro e3
    rw [e3] at hlo
    omega
  · by_cases hhi : hi < a.toInt
    · refine lv_tableOut hx hb hdg (Or.inr hhi) c2 ?_
      refine (hX _ _ _ _ _ _ (hj.2 fun q hq => ?_) H locs cells slots ls hR hS hL hV.2 h1 h2 h3 h4)
      obtain ⟨i, hi9⟩ := List.getElem?_of_mem hq
      have hlt : i < offs.size := by rw [← c5]; exact (List.getElem?_eq_some_iff.mp hi9).1
      obtain ⟨q2, e1, e2, -⟩ := key i hlt
      cases hi9.symm.trans e1
      intro e3
      rw [e3] at hhi
      omega
    · have hlt : (a.toInt - lo).toNat < offs.size := by omega
      obtain ⟨q, e1, e2, e3⟩ := key _ hlt
      refine lv_tableIn hx hb hdg hlo hhi (off := offs.getD (a.toInt - lo).toNat 0) (by rw [Array.getD_eq_getD_getElem?, Array.getElem?_eq_getElem hlt]; rfl) e3 ?_
      exact (hX _ _ _ _ _ _ (hj.1 q (List.mem_of_getElem? e1) (Int32.toInt_inj.mp (by rw [e2]; omega))) H locs cells slots ls hR hS hL hV.2 h1 h2 h3 h4)

theorem qa_stp_lsw (hF : qa_F z ph mi p R s m args meth c mc ms n0) {x : List Nat} {v : Int32} {u : Int64} {d : Int} {ps : Array (Int × Int)} {bc bs pc : Nat} {loc : LLoc} {st : LStk} {w : LMem} (hc : qa_chk mi pc (.lookupswitch d ps, x, v, u) = true)
    (hX : ∀ bc bs pc loc st w, X bc bs pc loc st w → qa_G z ph mi mc ms n0 p l e R s m args below meth c QF bc bs pc loc st w)
    (h : qa_sem X C Q (qa_ins ph mi bc bs (.lookupswitch d ps, x, v, u) pc loc st w)) : qa_G z ph mi mc ms n0 p l e R s m args below meth c QF bc bs pc loc st w := by
  obtain ⟨hx, hb, hml, hown, hts, hnm, hK, hSF, hb0, hsz, hmc, hms, hfr, hlo9⟩ := id hF
  intro H locs cells slots ls hR hS hL hV h1 h2 h3 h4
  obtain ⟨hd0, hc⟩ := qa_and hc
  have hdg := of_decide_eq_true hd0
  obtain ⟨a, r, rfl, hz9⟩ := qe_s1I h
  have h := hz9
  obtain ⟨c1, hc⟩ := qa_and hc
  obtain ⟨c2, hc⟩ := qa_and hc
  obtain ⟨c3, hc⟩ := qa_and hc
  obtain ⟨c4, c5⟩ := qa_and hc
  have c2 := of_decide_eq_true c2
  have c4 := of_decide_eq_true c4
  obtain ⟨t, t1, t2⟩ := qa_lookup (K := fun pc => X bc bs pc loc r w) c2 ps.toList (qa_swt mi pc).1 (by rw [c4]; simp) (fun i q r h5 h6 => by
    have hi : i < ps.size := by simpa using (List.getElem?_eq_some_iff.mp h6).1
    have h9 := List.all_eq_true.mp c5 i (List.mem_range.mpr hi)
    rw [qa_nth_get, h5] at h9
    obtain ⟨h8, h7⟩ := qa_and h9
    have e9 : ps.getD i (0, 0) = r := by
      rw [Array.getD_eq_getD_getElem?, ← Array.getElem?_toList, h6]
      rfl
    have h8 := of_decide_eq_true h8
    have h7 := of_decide_eq_true h7
    rw [e9] at h8 h7
    exact ⟨h8, h7⟩) h
  exact lv_lookup hx hb hdg c3 rfl t1 (hX _ _ _ _ _ _ (t2) H locs cells slots ls hR hS hL hV.2 h1 h2 h3 h4)

theorem qa_stp_iaload (hF : qa_F z ph mi p R s m args meth c mc ms n0) {x : List Nat} {v : Int32} {u : Int64}  {bc bs pc : Nat} {loc : LLoc} {st : LStk} {w : LMem} (hc : qa_chk mi pc (.iaload, x, v, u) = true)
    (hX : ∀ bc bs pc loc st w, X bc bs pc loc st w → qa_G z ph mi mc ms n0 p l e R s m args below meth c QF bc bs pc loc st w)
    (h : qa_sem X C Q (qa_ins ph mi bc bs (.iaload, x, v, u) pc loc st w)) : qa_G z ph mi mc ms n0 p l e R s m args below meth c QF bc bs pc loc st w := by
  obtain ⟨hx, hb, hml, hown, hts, hnm, hK, hSF, hb0, hsz, hmc, hms, hfr, hlo9⟩ := id hF
  intro H locs cells slots ls hR hS hL hV h1 h2 h3 h4
  obtain ⟨hd0, hc⟩ := qa_and hc
  have hdg := of_decide_eq_true hd0
  obtain ⟨i9, k, o, r, rfl, hz9⟩ := qe_sIR h
  have h := hz9
  by_cases hk : k < 60
  · rw [qa_blt hk] at h
    obtain ⟨he, h⟩ := qe_if h
    obtain ⟨hg, h⟩ := qe_gg h
    obtain ⟨hg, hin, -⟩ := qe_ga hg
    obtain ⟨i, rfl⟩ := qe_gn1 hg
    have ha := qa_wl_get (z := z) (ph := ph) hk (show qa_vd w k i from hV.2.1)
    rw [qa_ce_I hk (qa_beq he)] at ha
    have ht := qa_tys_get (z := z) (qa_ti9 k hk).1
    rw [(qa_ti9 k hk).2.1 (qa_beq he)] at ht
    exact va_iald hx hb hK hR.2.1 _ _ ha ht hin hdg (hX _ _ _ _ _ _ h H locs cells slots ls hR hS hL ⟨trivial, hV.2.2⟩ h1 h2 h3 h4)
  · rw [qa_blf hk] at h
    cases h65 : Nat.beq k 65 with
    | true =>
      rw [h65] at h
      cases qa_beq h65
      obtain ⟨hg, hq9⟩ := qe_gg h
      obtain ⟨hg, hin, -⟩ := qe_ga hg
      obtain ⟨i, rfl⟩ := qe_gn1 hg
      cases qa_sp0 hk (by decide) (show qa_vd w 65 i from hV.2.1)
      rw [hR.2.2.2.2.2.2, qa_leN hSF.2.2.1] at hin
      have hin2 : i9.toNatClampNeg < z.2.2.2.2.1 := Nat.not_le.mp fun q => hin (Or.inr q)
      refine va_ti hx hb hSF.2.1 hS hin rfl hdg ?_
      rw [← hR.2.2.2.2.2.1 _ hin2]
      exact (hX _ _ _ _ _ _ hq9 H locs cells slots ls hR hS hL ⟨trivial, hV.2.2⟩ h1 h2 h3 h4)
    | false =>
      rw [h65] at h
      obtain ⟨h64, h⟩ := qe_if h
      obtain ⟨hg, hq9⟩ := qe_gg h
      obtain ⟨hg, hin, -⟩ := qe_ga hg
      obtain ⟨i, rfl⟩ := qe_gn1 hg
      have h64 := qa_blt' h64
      cases qa_sp0 hk (by omega) (show qa_vd w k i from hV.2.1)
      have hst : (F0 m pc ls ((lI i9 :: lR k (some 0) :: r).map (qa_val z))) = F0 m pc ls (.int i9 :: .ref (z.2.2.2.1 k 0) :: r.map (qa_val z)) := by
        simp [qa_val, va_rf, qa_rho_ge hk]
      rw [hst]
      exact va_ti hx hb (hSF.1 k (by omega) h64).2 hS hin rfl hdg (hX _ _ _ _ _ _ hq9 H locs cells slots ls hR hS hL ⟨trivial, hV.2.2⟩ h1 h2 h3 h4)

theorem qa_stp_laload (hF : qa_F z ph mi p R s m args meth c mc ms n0) {x : List Nat} {v : Int32} {u : Int64}  {bc bs pc : Nat} {loc : LLoc} {st : LStk} {w : LMem} (hc : qa_chk mi pc (.laload, x, v, u) = true)
    (hX : ∀ bc bs pc loc st w, X bc bs pc loc st w → qa_G z ph mi mc ms n0 p l e R s m args below meth c QF bc bs pc loc st w)
    (h : qa_sem X C Q (qa_ins ph mi bc bs (.laload, x, v, u) pc loc st w)) : qa_G z ph mi mc ms n0 p l e R s m args below meth c QF bc bs pc loc st w := by
  obtain ⟨hx, hb, hml, hown, hts, hnm, hK, hSF, hb0, hsz, hmc, hms, hfr, hlo9⟩ := id hF
  intro H locs cells slots ls hR hS hL hV h1 h2 h3 h4
  obtain ⟨hd0, hc⟩ := qa_and hc
  have hdg := of_decide_eq_true hd0
  obtain ⟨i9, k, o, r, rfl, hz9⟩ := qe_sIR h
  have h := hz9
  obtain ⟨he, h⟩ := qe_if h
  obtain ⟨he1, he⟩ := qa_and he
  have hk := qa_blt' he1
  obtain ⟨hg, h⟩ := qe_gg h
  obtain ⟨hg, hin, -⟩ := qe_ga hg
  obtain ⟨i, rfl⟩ := qe_gn1 hg
  have ha := qa_wl_get (z := z) (ph := ph) hk (show qa_vd w k i from hV.2.1)
  rw [qa_ce_L hk (qa_beq he)] at ha
  have ht := qa_tys_get (z := z) (qa_ti9 k hk).1
  rw [(qa_ti9 k hk).2.2.1 (qa_beq he)] at ht
  exact va_lald hx hb hK hR.2.1 _ _ ha ht hin hdg (hX _ _ _ _ _ _ h H locs cells slots ls hR hS hL ⟨trivial, hV.2.2⟩ h1 h2 h3 h4)

theorem qa_stp_aaload (hF : qa_F z ph mi p R s m args meth c mc ms n0) {x : List Nat} {v : Int32} {u : Int64}  {bc bs pc : Nat} {loc : LLoc} {st : LStk} {w : LMem} (hc : qa_chk mi pc (.aaload, x, v, u) = true)
    (hX : ∀ bc bs pc loc st w, X bc bs pc loc st w → qa_G z ph mi mc ms n0 p l e R s m args below meth c QF bc bs pc loc st w)
    (h : qa_sem X C Q (qa_ins ph mi bc bs (.aaload, x, v, u) pc loc st w)) : qa_G z ph mi mc ms n0 p l e R s m args below meth c QF bc bs pc loc st w := by
  obtain ⟨hx, hb, hml, hown, hts, hnm, hK, hSF, hb0, hsz, hmc, hms, hfr, hlo9⟩ := id hF
  intro H locs cells slots ls hR hS hL hV h1 h2 h3 h4
  obtain ⟨hd0, hc⟩ := qa_and hc
  have hdg := of_decide_eq_true hd0
  obtain ⟨i9, k, o, r, rfl, hz9⟩ := qe_sIR h
  have h := hz9
  obtain ⟨he, h⟩ := qe_if h
  obtain ⟨he1, he⟩ := qa_and he
  have hk := qa_blt' he1
  obtain ⟨hg, h⟩ := qe_gg h
  obtain ⟨hg, hin, -⟩ := qe_ga hg
  obtain ⟨i, rfl⟩ := qe_gn1 hg
  have ha := qa_wl_get (z := z) (ph := ph) hk (show qa_vd w k i from hV.2.1)
  rw [qa_ce_R hk (qa_beq he)] at ha
  have ht := qa_tys_get (z := z) (qa_ti9 k hk).1
  have hin2 : i9.toNatClampNeg < qa_len k := Nat.not_le.mp fun q => hin (Or.inr q)
  have hno : ¬ qa_oc k < 13 := by have := qa_beq he; rcases qa_oc_ea k hk with q | q | q <;> omega
  have hnew : qa_vv w (lR (qa_tk k 0) (qa_rdR ph w k i i9.toNatClampNeg)) := by
    cases hr : qa_rdR ph w k i i9.toNatClampNeg with
    | none => trivial
    | some q =>
      have := hR.2.2.2.2.1 k i _ q hk hV.2.1 (Or.inr ⟨hno, qa_beq he, hin2⟩) hr
      unfold qa_tk2 at this
      rw [qa_blf hno] at this
      exact this
  by_cases h13 : qa_oc (qa_tk k 0) < 13
  · rw [((qa_ti9 k hk).2.2.2 (qa_beq he)).2.1 h13] at ht
    exact va_aldq hx hb hK hR.2.1 _ _ ha ht hin hdg (hX _ _ _ _ _ _ h H locs cells slots ls hR hS hL ⟨hnew, hV.2.2⟩ h1 h2 h3 h4)
  · rw [(((qa_ti9 k hk).2.2.2 (qa_beq he)).2.2 h13).1] at ht
    exact qa_aldA hx hb hK hR.2.1 _ _ ha ht hin hdg (hX _ _ _ _ _ _ h H locs cells slots ls hR hS hL ⟨hnew, hV.2.2⟩ h1 h2 h3 h4)

theorem qa_stp_alen (hF : qa_F z ph mi p R s m args meth c mc ms n0) {x : List Nat} {v : Int32} {u : Int64}  {bc bs pc : Nat} {loc : LLoc} {st : LStk} {w : LMem} (hc : qa_chk mi pc (.arraylength, x, v, u) = true)
    (hX : ∀ bc bs pc loc st w, X bc bs pc loc st w → qa_G z ph mi mc ms n0 p l e R s m args below meth c QF bc bs pc loc st w)
    (h : qa_sem X C Q (qa_ins ph mi bc bs (.arraylength, x, v, u) pc loc st w)) : qa_G z ph mi mc ms n0 p l e R s m args below meth c QF bc bs pc loc st w := by
  obtain ⟨hx, hb, hml, hown, hts, hnm, hK, hSF, hb0, hsz, hmc, hms, hfr, hlo9⟩ := id hF
  intro H locs cells slots ls hR hS hL hV h1 h2 h3 h4
  obtain ⟨hd0, hc⟩ := qa_and hc
  have hdg := of_decide_eq_true hd0
  obtain ⟨k, o, r, rfl, hz9⟩ := qe_s1R h
  have h := hz9
  cases h65 : Nat.beq k 65 with
  | true =>
    rw [h65] at h
    cases qa_beq h65
    obtain ⟨hg, hq9⟩ := qe_gg h
    obtain ⟨i, rfl⟩ := qe_gn1 hg
    cases qa_sp0 (by decide) (by decide) (show qa_vd w 65 i from hV.1)
    rw [hR.2.2.2.2.2.2] at hq9
    exact va_tlen hx hb hSF.2.1 hS rfl hdg (hX _ _ _ _ _ _ hq9 H locs cells slots ls hR hS hL ⟨trivial, hV.2⟩ h1 h2 h3 h4)
  | false =>
    rw [h65] at h
    obtain ⟨he, h⟩ := qe_if h
    obtain ⟨he1, he⟩ := qa_and he
    obtain ⟨hg, hq9⟩ := qe_gg h
    obtain ⟨i, rfl⟩ := qe_gn1 hg
    have h64 := qa_blt' he1
    have he := qa_blt' he
    by_cases hk : k < 60
    · have ha := qa_wl_get (z := z) (ph := ph) hk (show qa_vd w k i from hV.1)
      have ht := qa_tys_get (z := z) (qa_ti9 k hk).1
      rcases qa_oc_ea k hk with q | ⟨-, q, -⟩ | q
      · omega
      · rcases q with q | q | q
        · rw [qa_ce_I hk q] at ha
          exact va_alen hx hb hK hR.2.1 _ _ ha ht (qa_leI_ok k h64) hdg (hX _ _ _ _ _ _ hq9 H locs cells slots ls hR hS hL ⟨trivial, hV.2⟩ h1 h2 h3 h4)
        · rw [qa_ce_L hk q] at ha
          exact va_alen hx hb hK hR.2.1 _ _ ha ht (qa_leI_ok k h64) hdg (hX _ _ _ _ _ _ hq9 H locs cells slots ls hR hS hL ⟨trivial, hV.2⟩ h1 h2 h3 h4)
        · rw [qa_ce_R hk q] at ha
          exact va_alen hx hb hK hR.2.1 _ _ ha ht (qa_leI_ok k h64) hdg (hX _ _ _ _ _ _ hq9 H locs cells slots ls hR hS hL ⟨trivial, hV.2⟩ h1 h2 h3 h4)
      · omega
    · cases qa_sp0 hk (by omega) (show qa_vd w k i from hV.1)
      have hst : (F0 m pc ls ((lR k (some 0) :: r).map (qa_val z))) = F0 m pc ls (.ref (z.2.2.2.1 k 0) :: r.map (qa_val z)) := by
        simp [qa_val, va_rf, qa_rho_ge hk]
      rw [hst]
      exact va_tlen hx hb (hSF.1 k (by omega) h64).2 hS (qa_leI_ok k h64) hdg (hX _ _ _ _ _ _ hq9 H locs cells slots ls hR hS hL ⟨trivial, hV.2⟩ h1 h2 h3 h4)

theorem qa_stp_iastore (hF : qa_F z ph mi p R s m args meth c mc ms n0) {x : List Nat} {v : Int32} {u : Int64}  {bc bs pc : Nat} {loc : LLoc} {st : LStk} {w : LMem} (hc : qa_chk mi pc (.iastore, x, v, u) = true)
    (hX : ∀ bc bs pc loc st w, X bc bs pc loc st w → qa_G z ph mi mc ms n0 p l e R s m args below meth c QF bc bs pc loc st w)
    (h : qa_sem X C Q (qa_ins ph mi bc bs (.iastore, x, v, u) pc loc st w)) : qa_G z ph mi mc ms n0 p l e R s m args below meth c QF bc bs pc loc st w := by
  obtain ⟨hx, hb, hml, hown, hts, hnm, hK, hSF, hb0, hsz, hmc, hms, hfr, hlo9⟩ := id hF
  intro H locs cells slots ls hR hS hL hV h1 h2 h3 h4
  obtain ⟨hd0, hc⟩ := qa_and hc
  have hdg := of_decide_eq_true hd0
  obtain ⟨a, i9, k, o, r, rfl, hz9⟩ := qe_sIIR h
  have h := hz9
  obtain ⟨he, h⟩ := qe_if h
  obtain ⟨he1, he⟩ := qa_and he
  have hk := qa_blt' he1
  obtain ⟨hg, h⟩ := qe_gg h
  obtain ⟨hg, hin, -⟩ := qe_ga hg
  obtain ⟨i, rfl⟩ := qe_gn1 hg
  have hvd : qa_vd w k i := hV.2.2.1
  have ha := qa_wl_get (z := z) (ph := ph) hk hvd
  rw [qa_ce_I hk (qa_beq he)] at ha
  have ht := qa_tys_get (z := z) (qa_ti9 k hk).1
  rw [(qa_ti9 k hk).2.1 (qa_beq he)] at ht
  refine va_iast hx hb hK hR.2.1 (qa_wl_D hR.1) hS _ _ ha ht hin hdg (fun H1 locs1 hP1 hD1 hS1 => ?_)
  refine qa_sizeW (fun hsz1 => ?_)
  have hce : qa_ce z ph (sI w k i i9.toNatClampNeg a) k i = .inl (z.2.1 (qa_ti k), qa_len k, .inl (upd (fun j => gI w k i j) i9.toNatClampNeg a)) := by
    have hf9 : (fun j => gI (sI w k i i9.toNatClampNeg a) k i j) = upd (fun j => gI w k i j) i9.toNatClampNeg a := by
      funext j
      simp [gI_sI, upd]
    rw [qa_ce_I hk (qa_beq he), hf9]
  have hlow : z.2.2.1 + gN w ≤ H1.size := by
    have hP2 := hP1
    rw [qa_wl_set (s' := sI w k i i9.toNatClampNeg a) hk hvd hR.1 rfl (fun k' i' h9 => qa_ce_sI h9) hce] at hP2
    exact qa_lower (w := sI w k i i9.toNatClampNeg a) (Nat.le_trans hb0 hS1.1) hP2
  exact hX _ _ _ _ _ _ h H1 locs1 cells slots ls (qa_Rel_sI hR hk hvd hce hP1 hlow (fun q => by have := hsz q; have := h4 q; omega)) hS1 (qa_lo_le (s := w) (s' := sI w k i i9.toNatClampNeg a) (Nat.le_refl (gN w)) hL) (qa_sv_le (s := w) (s' := sI w k i i9.toNatClampNeg a) (Nat.le_refl (gN w)) hV.2.2.2) h1 h2 h3 h4

theorem qa_stp_lastore (hF : qa_F z ph mi p R s m args meth c mc ms n0) {x : List Nat} {v : Int32} {u : Int64}  {bc bs pc : Nat} {loc : LLoc} {st : LStk} {w : LMem} (hc : qa_chk mi pc (.lastore, x, v, u) = true)
    (hX : ∀ bc bs pc loc st w, X bc bs pc loc st w → qa_G z ph mi mc ms n0 p l e R s m args below meth c QF bc bs pc loc st w)
    (h : qa_sem X C Q (qa_ins ph mi bc bs (.lastore, x, v, u) pc loc st w)) : qa_G z ph mi mc ms n0 p l e R s m args below meth c QF bc bs pc loc st w := by
  obtain ⟨hx, hb, hml, hown, hts, hnm, hK, hSF, hb0, hsz, hmc, hms, hfr, hlo9⟩ := id hF
  intro H locs cells slots ls hR hS hL hV h1 h2 h3 h4
  obtain ⟨hd0, hc⟩ := qa_and hc
  have hdg := of_decide_eq_true hd0
  obtain ⟨a, i9, k, o, r, rfl, hz9⟩ := qe_sLIR h
  have h := hz9
  obtain ⟨he, h⟩ := qe_if h
  obtain ⟨he1, he⟩ := qa_and he
  have hk := qa_blt' he1
  obtain ⟨hg, h⟩ := qe_gg h
  obtain ⟨hg, hin, -⟩ := qe_ga hg
  obtain ⟨i, rfl⟩ := qe_gn1 hg
  have hvd : qa_vd w k i := hV.2.2.1
  have ha := qa_wl_get (z := z) (ph := ph) hk hvd
  rw [qa_ce_L hk (qa_beq he)] at ha
  have ht := qa_tys_get (z := z) (qa_ti9 k hk).1
  rw [(qa_ti9 k hk).2.2.1 (qa_beq he)] at ht
  refine va_last hx hb hK hR.2.1 (qa_wl_D hR.1) hS _ _ ha ht hin hdg (fun H1 locs1 hP1 hD1 hS1 => ?_)
  refine qa_sizeW (fun hsz1 => ?_)
  have hce : qa_ce z ph (sL w k i i9.toNatClampNeg a) k i = .inl (z.2.1 (qa_ti k), qa_len k, .inr (.inl (vp_updL (fun j => gL w k i j) i9.toNatClampNeg a))) := by
    have hf9 : (fun j => gL (sL w k i i9.toNatClampNeg a) k i j) = vp_updL (fun j => gL w k i j) i9.toNatClampNeg a := by
      funext j
      simp [gL_sL, vp_updL]
    rw [qa_ce_L hk (qa_beq he), hf9]
  have hlow : z.2.2.1 + gN w ≤ H1.size := by
    have hP2 := hP1
    rw [qa_wl_set (s' := sL w k i i9.toNatClampNeg a) hk hvd hR.1 rfl (fun k' i' h9 => qa_ce_sL h9) hce] at hP2
    exact qa_lower (w := sL w k i i9.toNatClampNeg a) (Nat.le_trans hb0 hS1.1) hP2
  exact hX _ _ _ _ _ _ h H1 locs1 cells slots ls (qa_Rel_sL hR hk hvd hce hP1 hlow (fun q => by have := hsz q; have := h4 q; omega)) hS1 (qa_lo_le (s := w) (s' := sL w k i i9.toNatClampNeg a) (Nat.le_refl (gN w)) hL) (qa_sv_le (s := w) (s' := sL w k i i9.toNatClampNeg a) (Nat.le_refl (gN w)) hV.2.2.2) h1 h2 h3 h4

theorem qa_stp_getfield (hF : qa_F z ph mi p R s m args meth c mc ms n0) {x : List Nat} {v : Int32} {u : Int64} {n : Nat} {bc bs pc : Nat} {loc : LLoc} {st : LStk} {w : LMem} (hc : qa_chk mi pc (.getfield n, x, v, u) = true)
    (hX : ∀ bc bs pc loc st w, X bc bs pc loc st w → qa_G z ph mi mc ms n0 p l e R s m args below meth c QF bc bs pc loc st w)
    (h : qa_sem X C Q (qa_ins ph mi bc bs (.getfield n, x, v, u) pc loc st w)) : qa_G z ph mi mc ms n0 p l e R s m args below meth c QF bc bs pc loc st w := by
  obtain ⟨hx, hb, hml, hown, hts, hnm, hK, hSF, hb0, hsz, hmc, hms, hfr, hlo9⟩ := id hF
  intro H locs cells slots ls hR hS hL hV h1 h2 h3 h4
  obtain ⟨hd0, hc⟩ := qa_and hc
  have hdg := of_decide_eq_true hd0
  obtain ⟨k, o, r, rfl, hz9⟩ := qe_s1R h
  have h := hz9
  obtain ⟨he, h⟩ := qe_if h
  obtain ⟨hg, h⟩ := qe_gg h
  obtain ⟨i, rfl⟩ := qe_gn1 hg
  obtain ⟨c1, hc⟩ := qa_and hc
  obtain ⟨c2, c3⟩ := qa_and hc
  rw [← qa_beq he] at c1 c2 c3
  have hk := qa_blt' c1
  have hj := qa_blt' c2
  have ho : qa_oc k < 13 := qa_oc13 hk hj
  have hvd : qa_vd w k i := hV.1
  have ha := qa_wl_get (z := z) (ph := ph) hk hvd
  rw [qa_ce_O ho] at ha
  have hn9 := (qa_kd9 k hk ho).1
  have hnew := qa_vv_rdV (j := qa_get x 1) hR.2.2.2.2.1 hk ho hj hvd
  rcases qa_pf_use hSF.2.2.2.2.2.2 c3 with ⟨q1, q2⟩ | ⟨q1, q2⟩
  · exact va_getN hx hb hts (qa_cl_in ho) hown hK hR.2.1 _ ha (qa_cl_get _ ho) _ (by rw [← hn9]; exact hj) (va_Nw.use rfl q1) (fun _ h9 => h9) (qa_fs_get hj) hdg (hX _ _ _ _ _ _ h H locs cells slots ls hR hS hL ⟨hnew, hV.2⟩ h1 h2 h3 h4)
  · exact va_get hx hb hts (qa_cl_in ho) hown hK hR.2.1 _ ha (qa_cl_get _ ho) _ (by rw [← hn9]; exact hj) (hts _ q1) (fun _ h9 => h9) (qa_fs_get hj) hdg (hX _ _ _ _ _ _ h H locs cells slots ls hR hS hL ⟨hnew, hV.2⟩ h1 h2 h3 h4)

theorem qa_stp_getstatic (hF : qa_F z ph mi p R s m args meth c mc ms n0) {x : List Nat} {v : Int32} {u : Int64} {n : Nat} {bc bs pc : Nat} {loc : LLoc} {st : LStk} {w : LMem} (hc : qa_chk mi pc (.getstatic n, x, v, u) = true)
    (hX : ∀ bc bs pc loc st w, X bc bs pc loc st w → qa_G z ph mi mc ms n0 p l e R s m args below meth c QF bc bs pc loc st w)
    (h : qa_sem X C Q (qa_ins ph mi bc bs (.getstatic n, x, v, u) pc loc st w)) : qa_G z ph mi mc ms n0 p l e R s m args below meth c QF bc bs pc loc st w := by
  obtain ⟨hx, hb, hml, hown, hts, hnm, hK, hSF, hb0, hsz, hmc, hms, hfr, hlo9⟩ := id hF
  intro H locs cells slots ls hR hS hL hV h1 h2 h3 h4
  obtain ⟨hd0, hc⟩ := qa_and hc
  have hdg := of_decide_eq_true hd0
  obtain ⟨⟨o9, i9, v9⟩, hq, q⟩ := List.any_eq_true.mp hc
  obtain ⟨q1, q⟩ := qa_and q
  obtain ⟨q2, q3⟩ := qa_and q
  have r1 : o9 = qa_ow mi := qa_beq q1
  have r2 : i9 = n := qa_beq q2
  have r3 : v9 = qa_get x 0 := qa_beq q3
  rw [r1, r2, r3] at hq
  have hw := List.all_eq_true.mp qa_pg9 _ hq
  obtain ⟨w1, w2⟩ := qa_and hw
  have w1 := of_decide_eq_true w1
  dsimp only at w1
  have hk : ¬ qa_get x 0 < 60 := by omega
  have hnew : qa_vv w (lR (qa_get x 0) (some 0)) := ⟨fun q => absurd q hk, fun _ => ⟨by omega, Or.inl rfl⟩⟩
  have hst : (F0 m (pc + 3) ls ((lR (qa_get x 0) (some 0) :: st).map (qa_val z))) = F0 m (pc + 3) ls (.ref (z.2.2.2.1 (qa_get x 0) 0) :: st.map (qa_val z)) := by
    simp [qa_val, va_rf, qa_rho_ge hk]
  have key := hX _ _ _ _ _ _ h H locs cells slots ls hR hS hL ⟨hnew, hV⟩ h1 h2 h3 h4
  rw [hst] at key
  exact va_gets hx hb (hSF.1 (qa_get x 0) w1.1 w1.2).1 hS hown (hts _ (qa_mW w2)) (fun _ h9 => h9) hdg key

theorem qa_putW (hF : qa_F z ph mi p R s m args meth c mc ms n0) {n k i j pc cells slots : Nat} {H : Heap} {locs : List Loc} {ls : Array Slot} {w : LMem} {v : LV} {r : LStk} (hk : k < 60) (ho : qa_oc k < 13) (hj : j < qa_nf k) (hvd : qa_vd w k i)
    (hdg : decode (qa_code mi) pc = .ok (.putfield n, 3)) (c3 : qa_pfc (qa_ow mi) n k j = true) (c4 : (!(qa_clT (qa_oc k) j).2.2.2 || (decide ((qa_y mi).name = "<init>") && Nat.beq (qa_ow mi) (qa_oc k))) = true)
    (hR : qa_Rel z ph w H) (hS : va_S (qa_A z) s.heap H locs) (hn9 : narrow (qa_cty (qa_oc k) j) (qa_val z v) = qa_val z v) (hf9 : fits (qa_cty (qa_oc k) j) (qa_val z v) = true)
    (kk : ∀ (H1 : Heap) (locs1 : List Loc), va_P z.1 vwCl ((qa_wl z ph w).set (qa_pos k i) (qa_rho z k i, .inr (qa_oc k, ((List.range (qa_nf k)).map fun j => qa_val z (qa_rdV ph w k i j)).set j (qa_val z v)))) H1 → va_S (qa_A z) s.heap H1 locs1 → W p l e R s m args below meth c H1 locs1 cells slots QF (F0 m (pc + 3) ls (r.map (qa_val z)))) :
    W p l e R s m args below meth c H locs cells slots QF (F0 m pc ls ((v :: lR k (some i) :: r).map (qa_val z))) := by
  obtain ⟨hx, hb, hml, hown, hts, hnm, hK, hSF, hb0, hsz, hmc, hms, hfr, hlo9⟩ := id hF
  have ha := qa_wl_get (z := z) (ph := ph) hk hvd
  rw [qa_ce_O ho] at ha
  have hnf := (qa_kd9 k hk ho).1
  have hjn : j < qa_cn (qa_oc k) := by rw [← hnf]; exact hj
  have hl9 : j < ((List.range (qa_nf k)).map fun j => qa_val z (qa_rdV ph w k i j)).length := by simpa using hj
  have hty := qa_cl_ty _ ho
  rcases qa_pf_use hSF.2.2.2.2.2.2 c3 with ⟨q1, q2⟩ | ⟨q1, q2⟩
  · exact va_putN hx hb hts (qa_cl_in ho) _ hty (qa_cl_nm _ ho) hown hK hR.2.1 (qa_wl_D hR.1) hS _ ha (qa_cl_get _ ho) j hjn (va_Nw.use rfl q1) (fun _ h9 => h9) q2 (hty j hjn) hn9 hf9 hl9 hdg (fun H1 locs1 hP1 _ hS1 => kk H1 locs1 hP1 hS1)
  · cases hfin : (qa_clT (qa_oc k) j).2.2.2 with
    | false => exact va_put hx hb hts (qa_cl_in ho) _ hty (qa_cl_nm _ ho) hown hK hR.2.1 (qa_wl_D hR.1) hS _ ha (qa_cl_get _ ho) j hjn (hts _ q1) (fun _ h9 => h9) hfin (hty j hjn) hn9 hf9 hl9 hdg (fun H1 locs1 hP1 _ hS1 => kk H1 locs1 hP1 hS1)
    | true =>
      rw [hfin] at c4
      obtain ⟨d1, d2⟩ := qa_and (show (decide ((qa_y mi).name = "<init>") && Nat.beq (qa_ow mi) (qa_oc k)) = true from c4)
      exact va_putF hx hb hts (qa_cl_in ho) _ hty (qa_cl_nm _ ho) hown hK hR.2.1 (qa_wl_D hR.1) hS _ ha (qa_cl_get _ ho) j hjn (hts _ q1) (fun _ h9 => h9) hfin (hnm (of_decide_eq_true d1)) (by rw [q2, qa_beq d2]) (hty j hjn) hn9 hf9 hl9 hdg (fun H1 locs1 hP1 _ hS1 => kk H1 locs1 hP1 hS1)
theorem qa_rdV_0 {ph : Bool} {w : LMem} {k i j : Nat} (h : qa_tg k j = 0 ∨ qa_tg k j = 1) : qa_rdV ph w k i j = lI (gI w k i j) := by
  unfold qa_rdV
  rcases h with h | h <;> rw [h] <;> rfl
theorem qa_rdV_2 {ph : Bool} {w : LMem} {k i j : Nat} (h : qa_tg k j = 2) : qa_rdV ph w k i j = lL (gL w k i j) := by
  unfold qa_rdV
  rw [h]
  rfl
theorem qa_rdV_3 {ph : Bool} {w : LMem} {k i j : Nat} (h : 3 ≤ qa_tg k j) : qa_rdV ph w k i j = lR (qa_tk k j) (qa_rdR ph w k i j) := by
  unfold qa_rdV
  split
  · omega
  · omega
  · omega
  · rfl

theorem qa_stp_putfield (hF : qa_F z ph mi p R s m args meth c mc ms n0) {x : List Nat} {v : Int32} {u : Int64} {n : Nat} {bc bs pc : Nat} {loc : LLoc} {st : LStk} {w : LMem} (hc : qa_chk mi pc (.putfield n, x, v, u) = true)
    (hX : ∀ bc bs pc loc st w, X bc bs pc loc st w → qa_G z ph mi mc ms n0 p l e R s m args below meth c QF bc bs pc loc st w)
    (h : qa_sem X C Q (qa_ins ph mi bc bs (.putfield n, x, v, u) pc loc st w)) : qa_G z ph mi mc ms n0 p l e R s m args below meth c QF bc bs pc loc st w := by
  obtain ⟨hx, hb, hml, hown, hts, hnm, hK, hSF, hb0, hsz, hmc, hms, hfr, hlo9⟩ := id hF
  intro H locs cells slots ls hR hS hL hV h1 h2 h3 h4
  obtain ⟨hd0, hc⟩ := qa_and hc
  have hdg := of_decide_eq_true hd0
  obtain ⟨c1, hc⟩ := qa_and hc
  obtain ⟨c2, hc⟩ := qa_and hc
  obtain ⟨c3, c4⟩ := qa_and hc
  have h : qa_sem X C Q (match qa_tg (qa_get x 0) (qa_get x 1) with
        | 0 => qa_sIR w st fun a k o r => qa_if (Nat.beq k (qa_get x 0)) w (qa_gg (qa_gn o) bc bs (pc + 3) loc r (sI w k (o.getD 0) (qa_get x 1) a))
        | 1 => qa_sIR w st fun a k o r => qa_if (Nat.beq k (qa_get x 0)) w (qa_gg (qa_ga (qa_gn o) (a = 0 ∨ a = 1)) bc bs (pc + 3) loc r (sI w k (o.getD 0) (qa_get x 1) a))
        | 2 => qa_sLR w st fun a k o r => qa_if (Nat.beq k (qa_get x 0)) w (qa_gg (qa_gn o) bc bs (pc + 3) loc r (sL w k (o.getD 0) (qa_get x 1) a))
        | _ => qa_sRR w st fun k' o' k o r => qa_if (Nat.beq k (qa_get x 0) && ((Nat.beq k' (qa_tk (qa_get x 0) (qa_get x 1)) || qa_nul o') && (ph || Nat.beq (qa_fm (qa_get x 0) (qa_get x 1)) 0))) w (qa_gg (qa_gn o) bc bs (pc + 3) loc r (sR w k (o.getD 0) (qa_get x 1) o'))) := h
  rcases (show qa_tg (qa_get x 0) (qa_get x 1) = 0 ∨ qa_tg (qa_get x 0) (qa_get x 1) = 1 ∨ qa_tg (qa_get x 0) (qa_get x 1) = 2 ∨ 3 ≤ qa_tg (qa_get x 0) (qa_get x 1) by omega) with htg | htg | htg | htg
  · rw [htg] at h
    obtain ⟨a, k, o, r, rfl, hz9⟩ := qe_sIR h
    have h := hz9
    obtain ⟨he, h⟩ := qe_if h
    obtain ⟨hg, h⟩ := qe_gg h
    obtain ⟨i, rfl⟩ := qe_gn1 hg
    have hke := qa_beq he
    rw [← hke] at c1 c2 c3 c4 htg
    have hk := qa_blt' c1
    have hj := qa_blt' c2
    have ho : qa_oc k < 13 := qa_oc13 hk hj
    have hkd := (qa_kd9 k hk ho).2 _ hj
    rw [htg] at hkd
    have hvd : qa_vd w k i := hV.2.1
    have hty9 := of_decide_eq_true hkd
    refine qa_putW (v := lI a) hF hk ho hj hvd hdg c3 c4 hR hS (by rw [hty9]; rfl) (by rw [hty9]; rfl) (fun H1 locs1 hP1 hS1 => ?_)
    refine qa_sizeW (fun hsz1 => ?_)
    have hce : qa_ce z ph (sI w k i (qa_get x 1) a) k i = .inr (qa_oc k, ((List.range (qa_nf k)).map fun j => qa_val z (qa_rdV ph w k i j)).set (qa_get x 1) (qa_val z (lI a))) := by
      rw [qa_ce_O ho, qa_fs_set (s' := sI w k i (qa_get x 1) a) (fun j' hne => ?_) (by rw [qa_rdV_0 (Or.inl htg)]; simp [gI_sI])]
      exact qa_rdV_ne (by rw [gI_sI, if_neg (fun q => hne q.2.2)]) rfl rfl
    have hlow : z.2.2.1 + gN w ≤ H1.size := by
      have hP2 := hP1
      rw [qa_wl_set (s' := sI w k i (qa_get x 1) a) hk hvd hR.1 rfl (fun k' i' h9 => qa_ce_sI h9) hce] at hP2
      exact qa_lower (w := sI w k i (qa_get x 1) a) (Nat.le_trans hb0 hS1.1) hP2
    exact hX _ _ _ _ _ _ h H1 locs1 cells slots ls (qa_Rel_sI hR hk hvd hce hP1 hlow (fun q => by have := hsz q; have := h4 q; omega)) hS1 (qa_lo_le (s := w) (s' := sI w k i (qa_get x 1) a) (Nat.le_refl (gN w)) hL) (qa_sv_le (s := w) (s' := sI w k i (qa_get x 1) a) (Nat.le_refl (gN w)) hV.2.2) h1 h2 h3 h4
  · rw [htg] at h
    obtain ⟨a, k, o, r, rfl, hz9⟩ := qe_sIR h
    have h := hz9
    obtain ⟨he, h⟩ := qe_if h
    obtain ⟨hg, h⟩ := qe_gg h
    obtain ⟨hg, hzz, -⟩ := qe_ga hg
    obtain ⟨i, rfl⟩ := qe_gn1 hg
    have hke := qa_beq he
    rw [← hke] at c1 c2 c3 c4 htg
    have hk := qa_blt' c1
    have hj := qa_blt' c2
    have ho : qa_oc k < 13 := qa_oc13 hk hj
    have hkd := (qa_kd9 k hk ho).2 _ hj
    rw [htg] at hkd
    have hvd : qa_vd w k i := hV.2.1
    have hty9 := of_decide_eq_true hkd
    refine qa_putW (v := lI a) hF hk ho hj hvd hdg c3 c4 hR hS (by rw [hty9]; rcases hzz with rfl | rfl <;> rfl) (by rw [hty9]; rcases hzz with rfl | rfl <;> rfl) (fun H1 locs1 hP1 hS1 => ?_)
    refine qa_sizeW (fun hsz1 => ?_)
    have hce : qa_ce z ph (sI w k i (qa_get x 1) a) k i = .inr (qa_oc k, ((List.range (qa_nf k)).map fun j => qa_val z (qa_rdV ph w k i j)).set (qa_get x 1) (qa_val z (lI a))) := by
      rw [qa_ce_O ho, qa_fs_set (s' := sI w k i (qa_get x 1) a) (fun j' hne => ?_) (by rw [qa_rdV_0 (Or.inr htg)]; simp [gI_sI])]
      exact qa_rdV_ne (by rw [gI_sI, if_neg (fun q => hne q.2.2)]) rfl rfl
    have hlow : z.2.2.1 + gN w ≤ H1.size := by
      have hP2 := hP1
      rw [qa_wl_set (s' := sI w k i (qa_get x 1) a) hk hvd hR.1 rfl (fun k' i' h9 => qa_ce_sI h9) hce] at hP2
      exact qa_lower (w := sI w k i (qa_get x 1) a) (Nat.le_trans hb0 hS1.1) hP2
    exact hX _ _ _ _ _ _ h H1 locs1 cells slots ls (qa_Rel_sI hR hk hvd hce hP1 hlow (fun q => by have := hsz q; have := h4 q; omega)) hS1 (qa_lo_le (s := w) (s' := sI w k i (qa_get x 1) a) (Nat.le_refl (gN w)) hL) (qa_sv_le (s := w) (s' := sI w k i (qa_get x 1) a) (Nat.le_refl (gN w)) hV.2.2) h1 h2 h3 h4
  · rw [htg] at h
    obtain ⟨a, k, o, r, rfl, hz9⟩ := qe_sLR h
    have h := hz9
    obtain ⟨he, h⟩ := qe_if h
    obtain ⟨hg, h⟩ := qe_gg h
    obtain ⟨i, rfl⟩ := qe_gn1 hg
    have hke := qa_beq he
    rw [← hke] at c1 c2 c3 c4 htg
    have hk := qa_blt' c1
    have hj := qa_blt' c2
    have ho : qa_oc k < 13 := qa_oc13 hk hj
    have hkd := (qa_kd9 k hk ho).2 _ hj
    rw [htg] at hkd
    have hvd : qa_vd w k i := hV.2.1
    have hty9 := of_decide_eq_true hkd
    refine qa_putW (v := lL a) hF hk ho hj hvd hdg c3 c4 hR hS (by rw [hty9]; rfl) (by rw [hty9]; rfl) (fun H1 locs1 hP1 hS1 => ?_)
    refine qa_sizeW (fun hsz1 => ?_)
    have hce : qa_ce z ph (sL w k i (qa_get x 1) a) k i = .inr (qa_oc k, ((List.range (qa_nf k)).map fun j => qa_val z (qa_rdV ph w k i j)).set (qa_get x 1) (qa_val z (lL a))) := by
      rw [qa_ce_O ho, qa_fs_set (s' := sL w k i (qa_get x 1) a) (fun j' hne => ?_) (by rw [qa_rdV_2 htg]; simp [gL_sL])]
      exact qa_rdV_ne rfl (by rw [gL_sL, if_neg (fun q => hne q.2.2)]) rfl
    have hlow : z.2.2.1 + gN w ≤ H1.size := by
      have hP2 := hP1
      rw [qa_wl_set (s' := sL w k i (qa_get x 1) a) hk hvd hR.1 rfl (fun k' i' h9 => qa_ce_sL h9) hce] at hP2
      exact qa_lower (w := sL w k i (qa_get x 1) a) (Nat.le_trans hb0 hS1.1) hP2
    exact hX _ _ _ _ _ _ h H1 locs1 cells slots ls (qa_Rel_sL hR hk hvd hce hP1 hlow (fun q => by have := hsz q; have := h4 q; omega)) hS1 (qa_lo_le (s := w) (s' := sL w k i (qa_get x 1) a) (Nat.le_refl (gN w)) hL) (qa_sv_le (s := w) (s' := sL w k i (qa_get x 1) a) (Nat.le_refl (gN w)) hV.2.2) h1 h2 h3 h4
  · have h : qa_sem X C Q (qa_sRR w st fun k' o' k o r => qa_if (Nat.beq k (qa_get x 0) && ((Nat.beq k' (qa_tk (qa_get x 0) (qa_get x 1)) || qa_nul o') && (ph || Nat.beq (qa_fm (qa_get x 0) (qa_get x 1)) 0))) w (qa_gg (qa_gn o) bc bs (pc + 3) loc r (sR w k (o.getD 0) (qa_get x 1) o'))) := by
      revert h
      split
      · omega
      · omega
      · omega
      · exact id
    obtain ⟨k', o', k, o, r, rfl, hz9⟩ := qe_sRR h
    have h := hz9
    obtain ⟨he, h⟩ := qe_if h
    obtain ⟨he, he2⟩ := qa_and he
    obtain ⟨he2, he3⟩ := qa_and he2
    obtain ⟨hg, h⟩ := qe_gg h
    obtain ⟨i, rfl⟩ := qe_gn1 hg
    have hke := qa_beq he
    rw [← hke] at c1 c2 c3 c4 htg he2 he3
    have hk := qa_blt' c1
    have hj := qa_blt' c2
    have ho : qa_oc k < 13 := qa_oc13 hk hj
    have hkd : qa_isRT (qa_cty (qa_oc k) (qa_get x 1)) = true := by
      have := (qa_kd9 k hk ho).2 _ hj
      revert this
      split
      · omega
      · omega
      · omega
      · exact id
    have hvd : qa_vd w k i := hV.2.1
    have hkk : ∀ q, o' = some q → k' = qa_tk k (qa_get x 1) := by
      intro q hq
      rw [hq] at he2
      have : Nat.beq k' (qa_tk k (qa_get x 1)) = true := by simpa [qa_nul] using he2
      exact qa_beq this
    have hval : qa_val z (lR k' o') = qa_val z (lR (qa_tk k (qa_get x 1)) o') := by
      cases o' with
      | none => rfl
      | some q => rw [hkk q rfl]
    refine qa_putW (v := lR k' o') hF hk ho hj hvd hdg c3 c4 hR hS ?_ ?_ (fun H1 locs1 hP1 hS1 => ?_)
    · revert hkd
      cases qa_cty (qa_oc k) (qa_get x 1) <;> intro hkd <;> first | (cases hkd; done) | (cases o' <;> rfl)
    · revert hkd
      cases qa_cty (qa_oc k) (qa_get x 1) <;> intro hkd <;> first | (cases hkd; done) | (cases o' <;> rfl)
    refine qa_sizeW (fun hsz1 => ?_)
    have hce : qa_ce z ph (sR w k i (qa_get x 1) o') k i = .inr (qa_oc k, ((List.range (qa_nf k)).map fun j => qa_val z (qa_rdV ph w k i j)).set (qa_get x 1) (qa_val z (lR k' o'))) := by
      rw [qa_ce_O ho, qa_fs_set (s' := sR w k i (qa_get x 1) o') (fun j' hne => ?_) ?_]
      · rw [qa_rdV_3 htg, hval]
        congr 2
        unfold qa_rdR
        cases ph with
        | true => simp [gR_sR]
        | false =>
          have : qa_fm k (qa_get x 1) = 0 := qa_beq (by simpa using he3)
          simp only [this, qa_srf]
          simp [gR_sR]
      · exact qa_rdV_ne rfl rfl (by rw [gR_sR, if_neg (fun q => hne q.2.2)])
    have hlow : z.2.2.1 + gN w ≤ H1.size := by
      have hP2 := hP1
      rw [qa_wl_set (s' := sR w k i (qa_get x 1) o') hk hvd hR.1 rfl (fun k' i' h9 => qa_ce_sR h9) hce] at hP2
      exact qa_lower (w := sR w k i (qa_get x 1) o') (Nat.le_trans hb0 hS1.1) hP2
    refine hX _ _ _ _ _ _ h H1 locs1 cells slots ls (qa_Rel_sR hR hk hvd (fun q hq => ?_) hce hP1 hlow (fun q => by have := hsz q; have := h4 q; omega)) hS1 (qa_lo_le (s := w) (s' := sR w k i (qa_get x 1) o') (Nat.le_refl (gN w)) hL) (qa_sv_le (s := w) (s' := sR w k i (qa_get x 1) o') (Nat.le_refl (gN w)) hV.2.2) h1 h2 h3 h4
    have h9 : qa_vv w (lR k' o') := hV.1
    rw [hq, hkk q hq] at h9
    unfold qa_tk2
    rw [qa_blt ho]
    exact h9

theorem qa_stp_inv (hF : qa_F z ph mi p R s m args meth c mc ms n0) (hM : qa_HM z ph l R C) (hI : qa_HI z ph mi p l e R s m args below meth c C) {x : List Nat} {bc bs pc i v : Nat} {loc : LLoc} {st : LStk} {w : LMem}
    (hcin : qa_cin x = true) (hv2 : qa_get x 2 = v) (hv3 : v < 3) (hpm : qa_pmc (qa_ow mi) i (qa_get x 0) v = true) (hdg : decode (qa_code mi) pc = .ok (qa_vi v i, 3))
    (hX : ∀ bc bs pc loc st w, X bc bs pc loc st w → qa_G z ph mi mc ms n0 p l e R s m args below meth c QF bc bs pc loc st w)
    (h : qa_sem X C Q (qa_inv2 x st bc bs (pc + 3) loc w)) : qa_G z ph mi mc ms n0 p l e R s m args below meth c QF bc bs pc loc st w := by
  obtain ⟨hx, hb, hml, hown, hts, hnm, hK, hSF, hb0, hsz, hmc, hms, hfr, hlo9⟩ := id hF
  intro H locs cells slots ls hR hS hL hV h1 h2 h3 h4
  match x, hcin, hv2, hpm, h with
  | [c', na, v', rk, rt, k, cc, cs], hcin, hv2, hpm, h =>
    have hv2 : v' = v := hv2
    subst hv2
    obtain ⟨d1, d2⟩ := qa_and (show (decide ((parseMethodDescriptor (qa_y2 c').desc).map (fun d => d.parameters.length + min v' 1) = some na) && _) = true from hcin)
    have d1 := of_decide_eq_true d1
    have hpm : qa_pmc (qa_ow mi) i c' v' = true := hpm
    have h : qa_sem X C Q (match qa_split na st [] with
      | some al => qa_call v' rk c' rt k cc cs al bc bs (pc + 3) loc w
      | none => qa_no w) := h
    cases hsp : qa_split na st [] with
    | none => rw [hsp] at h; exact (qe_no h).elim
    | some al =>
      rw [hsp] at h
      obtain ⟨a, rest⟩ := al
      obtain ⟨t, t1, t2, t3⟩ := qa_split_e hsp
      have t2 : a = t.reverse := by simpa using t2
      obtain ⟨hcat, h⟩ := qe_if h
      have hcat : qa_cat rest ≤ 8 := Nat.le_of_ble_eq_true hcat
      have hlen : a.length = na := by rw [t2, List.length_reverse]; exact t3
      have hst : st = a.reverse ++ rest := by rw [t1, t2, List.reverse_reverse]
      have hVs : (∀ u ∈ a, qa_vv w u) ∧ qa_sv w rest := by
        rw [t1] at hV
        obtain ⟨q1, q2⟩ := qa_sv_app hV
        exact ⟨fun u hu => q1 u (by rw [t2] at hu; exact List.mem_reverse.mp hu), q2⟩
      -- what is paid, who is called
      have key : ∃ bc' bs', cells + cc + bc' = mc ∧ slots + cs + bs' = ms ∧ C c' a w (qa_kk rt k (fun st' w' => X bc' bs' (pc + 3) loc st' w') rest) ∧ (v' ≠ 0 → ∃ b As', a = lR rk (some b) :: As') := by
        have fin : ∀ (g : Option Prop) (bc' bs' : Nat), qa_sem X C Q (match (generalizing := false) v' with
            | 0 => (g, Sum.inr (Sum.inr (Sum.inl (c', rt, k, a, bc', bs', pc + 3, loc, rest, w))))
            | _ => qa_rcv rk a w fun g2 as => (qa_both g g2, Sum.inr (Sum.inr (Sum.inl (c', rt, k, as, bc', bs', pc + 3, loc, rest, w))))) → qa_gd g True ∧ C c' a w (qa_kk rt k (fun st' w' => X bc' bs' (pc + 3) loc st' w') rest) ∧ (v' ≠ 0 → ∃ b As', a = lR rk (some b) :: As') := by
          intro g bc' bs' h
          cases v' with
          | zero =>
            refine ⟨?_, ?_, fun q => absurd rfl q⟩
            · cases g with
              | none => trivial
              | some g => exact ⟨h.1, trivial⟩
            · cases g with
              | none => exact h
              | some g => exact h.2
          | succ v' =>
            have h : qa_sem X C Q (qa_rcv rk a w fun g2 as => (qa_both g g2, Sum.inr (Sum.inr (Sum.inl (c', rt, k, as, bc', bs', pc + 3, loc, rest, w))))) := h
            rcases a with _ | ⟨v0, l'⟩
            · exact (qe_no h).elim
            · rcases v0 with x0 | x0 | ⟨k', o'⟩
              · exact (qe_no h).elim
              · exact (qe_no h).elim
              · have hk9 : qa_sem X C Q (qa_if (Nat.beq k' rk) w ((qa_both g (qa_gn o'), Sum.inr (Sum.inr (Sum.inl (c', rt, k, lR rk (some (o'.getD 0)) :: l', bc', bs', pc + 3, loc, rest, w)))))) := h
                obtain ⟨q1, hq9⟩ := qe_if hk9
                have q2 : k' = rk := qa_beq q1
                have hq8 : qa_gd (qa_both g (qa_gn o')) (C c' (lR rk (some (o'.getD 0)) :: l') w (qa_kk rt k (fun st' w' => X bc' bs' (pc + 3) loc st' w') rest)) := hq9
                obtain ⟨g2, g1, hq7⟩ := qe_both hq8
                obtain ⟨b, rfl⟩ := qe_gn1 g1
                rw [q2]
                exact ⟨g2, hq7, fun _ => ⟨b, l', rfl⟩⟩
        unfold qa_pay at h
        cases h0 : Nat.beq cc 0 with
        | true =>
          rw [h0] at h
          have h0 := qa_beq h0
          obtain ⟨-, q2, q3⟩ := fin none bc bs h
          have hcs : cs = 0 := by
            cases hb9 : Nat.ble 1000 c' with
            | true =>
              rw [hb9] at d2
              have := of_decide_eq_true (qa_and d2).2
              simp only [Prod.mk.injEq] at this
              omega
            | false =>
              rw [hb9] at d2
              obtain ⟨d3, -⟩ := qa_and d2
              obtain ⟨d3, -⟩ := qa_and d3
              have d3 := of_decide_eq_true d3
              obtain ⟨⟨o9, i9, c9, v9, n9⟩, hq, h2⟩ := List.any_eq_true.mp hpm
              obtain ⟨e1, h2⟩ := qa_and h2
              obtain ⟨e2, h2⟩ := qa_and h2
              obtain ⟨e3, e4⟩ := qa_and h2
              cases qa_beq e3
              have y := (qa_pmx _ hq (by have := qa_nble hb9; omega)).2.2.2.2.2.2
              dsimp only at y
              rw [← d3] at y
              exact y h0
          exact ⟨bc, bs, by omega, by omega, q2, q3⟩
        | false =>
          rw [h0] at h
          obtain ⟨q1, q2, q3⟩ := fin _ _ _ h
          obtain ⟨q4, q5⟩ := q1.1
          exact ⟨bc - cc, bs - cs, by omega, by omega, q2, q3⟩
      obtain ⟨bc', bs', k1, k2, hC, hrc⟩ := key
      rw [hst]
      have fin2 : va_Run p l e R s m args below meth c H locs cells slots cc cs (F0 m pc ls ((a.reverse ++ rest).map (qa_val z))) (rest.map (qa_val z)) (qa_Qc z ph (gN w) cc (qa_kk rt k (fun st' w' => X bc' bs' (pc + 3) loc st' w') rest) ((a.map (qa_val z)).toArray)) (qa_A z) := by
        cases hb9 : Nat.ble 1000 c' with
        | true =>
          rw [hb9] at d2
          have hq := of_decide_eq_true (qa_and d2).2
          refine hI c' na v' rk cc cs i pc a w _ H locs cells slots ls rest (Nat.le_of_ble_eq_true hb9) ?_ hpm ?_ hC hVs.1 hlen hcat hR hS hL.1 (by omega) (by omega)
          · simp only [Prod.mk.injEq] at hq ⊢
            rcases hq with ⟨rfl, rfl, rfl, rfl, rfl⟩ | ⟨rfl, rfl, rfl, rfl, rfl⟩ | ⟨rfl, rfl, rfl, rfl, rfl⟩
            · exact Or.inl ⟨rfl, by have := Option.some.inj ((show (parseMethodDescriptor (qa_y2 1005).desc).map (fun d => d.parameters.length + min 1 1) = some 2 by decide +kernel).symm.trans d1); omega, rfl, rfl, rfl, rfl⟩
            · exact Or.inr (Or.inl ⟨rfl, by have := Option.some.inj ((show (parseMethodDescriptor (qa_y2 1006).desc).map (fun d => d.parameters.length + min 1 1) = some 1 by decide +kernel).symm.trans d1); omega, rfl, rfl, rfl, rfl⟩)
            · exact Or.inr (Or.inr ⟨rfl, by have := Option.some.inj ((show (parseMethodDescriptor (qa_y2 1007).desc).map (fun d => d.parameters.length + min 0 1) = some 5 by decide +kernel).symm.trans d1); omega, rfl, rfl, rfl, rfl⟩)
          · simp only [Prod.mk.injEq] at hq
            rcases hq with ⟨-, rfl, -, -, -⟩ | ⟨-, rfl, -, -, -⟩ | ⟨-, rfl, -, -, -⟩ <;> exact hdg
        | false =>
          rw [hb9] at d2
          obtain ⟨d3, -⟩ := qa_and d2
          obtain ⟨d3, d4⟩ := qa_and d3
          have d3 := of_decide_eq_true d3
          have hc9 : c' < 1000 := qa_nble hb9
          have hy2 : qa_y2 c' = qa_y c' := by
            unfold qa_y2
            split <;> first | omega | rfl
          rw [hy2] at d1
          have hcc : cc = (qa_cst c').1 := by rw [← d3]
          have hcs : cs = (qa_cst c').2 := by rw [← d3]
          subst hcc
          subst hcs
          refine qa_run hF hM hc9 hpm hdg d1 (rk := rk) (fun q => ?_) hC hVs.1 hlen hcat hR hS hL.1 (by omega) (by omega)
          rcases Bool.or_eq_true_iff.mp d4 with d5 | d5
          · exact absurd (qa_beq d5) q
          · obtain ⟨d5, d6⟩ := qa_and d5
            obtain ⟨d6, d7⟩ := qa_and d6
            exact ⟨qa_blt' d5, qa_blt' d6, of_decide_eq_true d7, hrc q⟩
      refine qa_callW fin2 hS (fun r w' H1 locs1 q1 q2 q3 q4 q5 q6 => ?_)
      obtain ⟨st', g1, g2, g3⟩ := qa_kk_go (z := z) q1
      rw [← g2]
      exact hX _ _ _ _ _ _ g1 H1 locs1 _ _ ls q2 q6 (qa_lo_le q3 hL) (g3 q5 (qa_sv_le q3 hVs.2)) (by omega) (by omega) (by omega) (fun q => by have := h4 q; have := q4 q; omega)

theorem qa_pmW {o i c v : Nat} (h : qa_pmc o i c v = true) : ∃ n, ∀ w ∈ qa_pmf (o, i, c, v, n), w ∈ qa_W := by
  obtain ⟨⟨o9, i9, c9, v9, n9⟩, hq, h2⟩ := List.any_eq_true.mp h
  obtain ⟨e1, h2⟩ := qa_and h2
  obtain ⟨e2, h2⟩ := qa_and h2
  obtain ⟨e3, e4⟩ := qa_and h2
  cases qa_beq e1; cases qa_beq e2; cases qa_beq e3; cases qa_beq e4
  exact ⟨n9, fun w hw => qa_mW (List.all_eq_true.mp (qa_pm9 _ hq) w hw)⟩
theorem qa_stp_virt (hF : qa_F z ph mi p R s m args meth c mc ms n0) (hM : qa_HM z ph l R C) (hI : qa_HI z ph mi p l e R s m args below meth c C) {x : List Nat} {v : Int32} {u : Int64} {n bc bs pc : Nat} {loc : LLoc} {st : LStk} {w : LMem} (hc : qa_chk mi pc (.invokevirtual n, x, v, u) = true)
    (hX : ∀ bc bs pc loc st w, X bc bs pc loc st w → qa_G z ph mi mc ms n0 p l e R s m args below meth c QF bc bs pc loc st w)
    (h : qa_sem X C Q (qa_ins ph mi bc bs (.invokevirtual n, x, v, u) pc loc st w)) : qa_G z ph mi mc ms n0 p l e R s m args below meth c QF bc bs pc loc st w := by
  obtain ⟨hd0, hc⟩ := qa_and hc
  obtain ⟨c1, hc⟩ := qa_and hc
  obtain ⟨c2, c3⟩ := qa_and hc
  exact qa_stp_inv hF hM hI c3 (qa_beq c2) (by decide) c1 (of_decide_eq_true hd0) hX h

theorem qa_stp_stat (hF : qa_F z ph mi p R s m args meth c mc ms n0) (hM : qa_HM z ph l R C) (hI : qa_HI z ph mi p l e R s m args below meth c C) {x : List Nat} {v : Int32} {u : Int64} {n bc bs pc : Nat} {loc : LLoc} {st : LStk} {w : LMem} (hc : qa_chk mi pc (.invokestatic n, x, v, u) = true)
    (hX : ∀ bc bs pc loc st w, X bc bs pc loc st w → qa_G z ph mi mc ms n0 p l e R s m args below meth c QF bc bs pc loc st w)
    (h : qa_sem X C Q (qa_ins ph mi bc bs (.invokestatic n, x, v, u) pc loc st w)) : qa_G z ph mi mc ms n0 p l e R s m args below meth c QF bc bs pc loc st w := by
  obtain ⟨hx, hb, hml, hown, hts, hnm, hK, hSF, hb0, hsz, hmc, hms, hfr, hlo9⟩ := id hF
  obtain ⟨hd0, hc⟩ := qa_and hc
  obtain ⟨c2, hc⟩ := qa_and hc
  obtain ⟨c1, c3⟩ := qa_and hc
  have hdg := of_decide_eq_true hd0
  have h : qa_sem X C Q (match qa_get x 0 with
      | 1000 => qa_s2I w st fun b a r => qa_if (Nat.ble (qa_cat r) 8) w (qa_go bc bs (pc + 3) loc (lI (qa_max a b) :: r) w)
      | 1001 => qa_s2I w st fun b a r => qa_if (Nat.ble (qa_cat r) 8) w (qa_go bc bs (pc + 3) loc (lI (qa_min a b) :: r) w)
      | 1002 => qa_s1I w st fun a r => qa_if (Nat.ble (qa_cat r) 8) w (qa_go bc bs (pc + 3) loc (lI (qa_abs a) :: r) w)
      | 1003 => qa_s2L w st fun b a r => qa_if (Nat.ble (qa_cat r) 8) w (qa_go bc bs (pc + 3) loc (lL (qa_maxL a b) :: r) w)
      | 1004 => qa_s2L w st fun b a r => qa_if (Nat.ble (qa_cat r) 8) w (qa_go bc bs (pc + 3) loc (lL (qa_minL a b) :: r) w)
      | _ => qa_inv2 x st bc bs (pc + 3) loc w) := h
  split at h
  · rename_i e0
    rw [e0] at c1
    obtain ⟨n9, hw⟩ := qa_pmW c1
    intro H locs cells slots ls hR hS hL hV h1 h2 h3 h4
    obtain ⟨b, a, r, rfl, hz9⟩ := qe_s2I h
    have h := hz9
    obtain ⟨hcat, h⟩ := qe_if h
    have hcat : qa_cat r ≤ 8 := Nat.le_of_ble_eq_true hcat
    exact va_mmax hx hb (by rw [hml, hL.1]) hown (hts _ (hw _ List.mem_cons_self)) (hts _ (hw _ (List.mem_cons_of_mem _ List.mem_cons_self))) (hts _ (hw _ (List.mem_cons_of_mem _ (List.mem_cons_of_mem _ List.mem_cons_self)))) (hts _ (hw _ (List.mem_cons_of_mem _ (List.mem_cons_of_mem _ (List.mem_cons_of_mem _ List.mem_cons_self))))) hfr (by rw [qa_catS]; omega) (by omega) (by omega) hdg (hX _ _ _ _ _ _ h H locs cells slots ls hR hS hL ⟨trivial, hV.2.2⟩ h1 h2 h3 h4)
  · rename_i e0
    rw [e0] at c1
    obtain ⟨n9, hw⟩ := qa_pmW c1
    intro H locs cells slots ls hR hS hL hV h1 h2 h3 h4
    obtain ⟨b, a, r, rfl, hz9⟩ := qe_s2I h
    have h := hz9
    obtain ⟨hcat, h⟩ := qe_if h
    have hcat : qa_cat r ≤ 8 := Nat.le_of_ble_eq_true hcat
    exact va_mmin hx hb (by rw [hml, hL.1]) hown (hts _ (hw _ List.mem_cons_self)) (hts _ (hw _ (List.mem_cons_of_mem _ List.mem_cons_self))) (hts _ (hw _ (List.mem_cons_of_mem _ (List.mem_cons_of_mem _ List.mem_cons_self)))) (hts _ (hw _ (List.mem_cons_of_mem _ (List.mem_cons_of_mem _ (List.mem_cons_of_mem _ List.mem_cons_self))))) hfr (by rw [qa_catS]; omega) (by omega) (by omega) hdg (hX _ _ _ _ _ _ h H locs cells slots ls hR hS hL ⟨trivial, hV.2.2⟩ h1 h2 h3 h4)
  · rename_i e0
    rw [e0] at c1
    obtain ⟨n9, hw⟩ := qa_pmW c1
    intro H locs cells slots ls hR hS hL hV h1 h2 h3 h4
    obtain ⟨a, r, rfl, hz9⟩ := qe_s1I h
    have h := hz9
    obtain ⟨hcat, h⟩ := qe_if h
    have hcat : qa_cat r ≤ 8 := Nat.le_of_ble_eq_true hcat
    exact va_mabs hx hb (by rw [hml, hL.1]) hown (hts _ (hw _ List.mem_cons_self)) (hts _ (hw _ (List.mem_cons_of_mem _ List.mem_cons_self))) (hts _ (hw _ (List.mem_cons_of_mem _ (List.mem_cons_of_mem _ List.mem_cons_self)))) (hts _ (hw _ (List.mem_cons_of_mem _ (List.mem_cons_of_mem _ (List.mem_cons_of_mem _ List.mem_cons_self))))) hfr (by rw [qa_catS]; omega) (by omega) (by omega) hdg (hX _ _ _ _ _ _ h H locs cells slots ls hR hS hL ⟨trivial, hV.2⟩ h1 h2 h3 h4)
  · rename_i e0
    rw [e0] at c1
    obtain ⟨n9, hw⟩ := qa_pmW c1
    intro H locs cells slots ls hR hS hL hV h1 h2 h3 h4
    obtain ⟨b, a, r, rfl, hz9⟩ := qe_s2L h
    have h := hz9
    obtain ⟨hcat, h⟩ := qe_if h
    have hcat : qa_cat r ≤ 8 := Nat.le_of_ble_eq_true hcat
    exact va_mmax_long hx hb (by rw [hml, hL.1]) hown (hts _ (hw _ List.mem_cons_self)) (hts _ (hw _ (List.mem_cons_of_mem _ List.mem_cons_self))) (hts _ (hw _ (List.mem_cons_of_mem _ (List.mem_cons_of_mem _ List.mem_cons_self)))) (hts _ (hw _ (List.mem_cons_of_mem _ (List.mem_cons_of_mem _ (List.mem_cons_of_mem _ List.mem_cons_self))))) hfr (by rw [qa_catS]; omega) (by omega) (by omega) hdg (hX _ _ _ _ _ _ h H locs cells slots ls hR hS hL ⟨trivial, hV.2.2⟩ h1 h2 h3 h4)
  · rename_i e0
    rw [e0] at c1
    obtain ⟨n9, hw⟩ := qa_pmW c1
    intro H locs cells slots ls hR hS hL hV h1 h2 h3 h4
    obtain ⟨b, a, r, rfl, hz9⟩ := qe_s2L h
    have h := hz9
    obtain ⟨hcat, h⟩ := qe_if h
    have hcat : qa_cat r ≤ 8 := Nat.le_of_ble_eq_true hcat
    exact va_mmin_long hx hb (by rw [hml, hL.1]) hown (hts _ (hw _ List.mem_cons_self)) (hts _ (hw _ (List.mem_cons_of_mem _ List.mem_cons_self))) (hts _ (hw _ (List.mem_cons_of_mem _ (List.mem_cons_of_mem _ List.mem_cons_self)))) (hts _ (hw _ (List.mem_cons_of_mem _ (List.mem_cons_of_mem _ (List.mem_cons_of_mem _ List.mem_cons_self))))) hfr (by rw [qa_catS]; omega) (by omega) (by omega) hdg (hX _ _ _ _ _ _ h H locs cells slots ls hR hS hL ⟨trivial, hV.2.2⟩ h1 h2 h3 h4)
  · rename_i e0 e1 e2 e3 e4
    rcases Bool.or_eq_true_iff.mp c3 with c4 | c4
    · obtain ⟨c5, c6⟩ := qa_and c4
      have c5 := Nat.le_of_ble_eq_true c5
      have c6 := Nat.le_of_ble_eq_true c6
      rcases (show qa_get x 0 = 1000 ∨ qa_get x 0 = 1001 ∨ qa_get x 0 = 1002 ∨ qa_get x 0 = 1003 ∨ qa_get x 0 = 1004 by omega) with q | q | q | q | q
      · exact absurd q e0
      · exact absurd q e1
      · exact absurd q e2
      · exact absurd q e3
      · exact absurd q e4
    · exact qa_stp_inv hF hM hI c4 (qa_beq c2) (by decide) c1 hdg hX h

theorem qa_stp_spec (hF : qa_F z ph mi p R s m args meth c mc ms n0) (hM : qa_HM z ph l R C) (hI : qa_HI z ph mi p l e R s m args below meth c C) {x : List Nat} {v : Int32} {u : Int64} {n bc bs pc : Nat} {loc : LLoc} {st : LStk} {w : LMem} (hc : qa_chk mi pc (.invokespecial n, x, v, u) = true)
    (hX : ∀ bc bs pc loc st w, X bc bs pc loc st w → qa_G z ph mi mc ms n0 p l e R s m args below meth c QF bc bs pc loc st w)
    (h : qa_sem X C Q (qa_ins ph mi bc bs (.invokespecial n, x, v, u) pc loc st w)) : qa_G z ph mi mc ms n0 p l e R s m args below meth c QF bc bs pc loc st w := by
  obtain ⟨hx, hb, hml, hown, hts, hnm, hK, hSF, hb0, hsz, hmc, hms, hfr, hlo9⟩ := id hF
  obtain ⟨hd0, hc⟩ := qa_and hc
  have hdg := of_decide_eq_true hd0
  have hc : (if qa_get x 0 = 1008 then qa_pmc (qa_ow mi) n 1008 1 else Nat.beq (qa_get x 2) 2 && (qa_pmc (qa_ow mi) n (qa_get x 0) 2 && qa_cin x)) = true := hc
  have h : qa_sem X C Q (match qa_get x 0 with
      | 1008 => qa_s1R w st fun _ o r => qa_if (Nat.ble (qa_cat r) 8) w (qa_gg (qa_gn o) bc bs (pc + 3) loc r w)
      | _ => qa_inv2 x st bc bs (pc + 3) loc w) := h
  split at h
  · rename_i e0
    rw [if_pos e0] at hc
    obtain ⟨n9, hw⟩ := qa_pmW hc
    intro H locs cells slots ls hR hS hL hV h1 h2 h3 h4
    obtain ⟨k, o, r, rfl, hz9⟩ := qe_s1R h
    have h := hz9
    obtain ⟨hcat, h⟩ := qe_if h
    have hcat : qa_cat r ≤ 8 := Nat.le_of_ble_eq_true hcat
    obtain ⟨hg, h⟩ := qe_gg h
    obtain ⟨i, rfl⟩ := qe_gn1 hg
    have hst : (F0 m pc ls ((lR k (some i) :: r).map (qa_val z))) = F0 m pc ls (.ref (qa_rho z k i) :: r.map (qa_val z)) := by
      simp [qa_val, va_rf]
    rw [hst]
    refine W.objInit hx hb hown (hts _ (hw _ List.mem_cons_self)) (hts _ (hw _ (List.mem_cons_of_mem _ List.mem_cons_self))) (hts _ (hw _ (List.mem_cons_of_mem _ (List.mem_cons_of_mem _ List.mem_cons_self)))) rfl (by rw [hml]; exact hL.1) rfl hdg hfr ?_ ?_
    · have := lv_room (pc := pc) (ls := ls) (rest := .ref (qa_rho z k i) :: r.map (qa_val z)) (st := r.map (qa_val z)) (m := m) (by rw [qa_catS]; exact hcat)
      omega
    · exact W.eq (g2 := F0 m (pc + 3) ls (r.map (qa_val z))) rfl (hX _ _ _ _ _ _ h H locs cells slots ls hR hS hL hV.2 h1 h2 h3 h4)
  · rename_i e0
    rw [if_neg e0] at hc
    obtain ⟨c2, hc⟩ := qa_and hc
    obtain ⟨c1, c3⟩ := qa_and hc
    exact qa_stp_inv hF hM hI c3 (qa_beq c2) (by decide) c1 hdg hX h

end QSTEP
