/-! BOTH KEEP THE SAME DITCHES AND RAINS. -/
def RC (s : LMem) : Prop := (∀ dd, dd < (gI s 33 0 21).toNatClampNeg → gI s 4 dd 1 = gI s 44 0 dd ∧ ∀ r w : Nat, (r : Int) < (gI s 44 0 dd).toInt → w < 5 → gI s 6 (20 * dd + r) w = gI s 45 0 (100 * dd + 5 * r + w) ∧ 0 ≤ (gI s 45 0 (100 * dd + 5 * r + w)).toInt) ∧ (∀ r, r < (gI s 33 0 22).toNatClampNeg → gI s 13 r 1 = gI s 46 0 r ∧ ∀ j : Nat, (j : Int) < (gI s 46 0 r).toInt → gI s 14 r j = gI s 47 0 (30 * r + j))
theorem ctK_tr {D R : Nat} {s m m2 : LMem} (h : ctK D R s m) (h2 : ctK D R m m2) : ctK D R s m2 := ⟨fun dd hd => ⟨(h2.1 dd hd).1.trans (h.1 dd hd).1, fun i w a b => ((h2.1 dd hd).2 i w a b).trans ((h.1 dd hd).2 i w a b)⟩, fun r hr => ⟨(h2.2 r hr).1.trans (h.2 r hr).1, fun j => ((h2.2 r hr).2 j).trans ((h.2 r hr).2 j)⟩⟩
theorem cuK_tr {D R : Nat} {s m m2 : LMem} (h : cuK D R s m) (h2 : cuK D R m m2) : cuK D R s m2 := ⟨fun dd hd => ⟨(h2.1 dd hd).1.trans (h.1 dd hd).1, fun j a b => ((h2.1 dd hd).2 j a b).trans ((h.1 dd hd).2 j a b)⟩, fun r hr => ⟨(h2.2 r hr).1.trans (h.2 r hr).1, fun j a b => ((h2.2 r hr).2 j a b).trans ((h.2 r hr).2 j a b)⟩⟩
theorem fr_ct {W : List YW} {D R : Nat} {s m : LMem} (F : y_Fr W s m) (h : (W.all fun w => !(Nat.beq w.1 4) && (!(Nat.beq w.1 6) && (!(Nat.beq w.1 13) && !(Nat.beq w.1 14)))) = true) : ctK D R s m := by
  have a : ∀ k, (k = 4 ∨ k = 6 ∨ k = 13 ∨ k = 14) → (W.all fun w => !(Nat.beq w.1 k)) = true := fun k hk => List.all_eq_true.mpr fun w hw => by
    have g := List.all_eq_true.mp h w hw
    rcases hk with rfl | rfl | rfl | rfl
    · exact (qa_and g).1
    · exact (qa_and (qa_and g).2).1
    · exact (qa_and (qa_and (qa_and g).2).2).1
    · exact (qa_and (qa_and (qa_and g).2).2).2
  exact ⟨fun d _ => ⟨fr_K F 4 (a 4 (by omega)) d 1, fun i w _ _ => fr_K F 6 (a 6 (by omega)) i w⟩, fun r _ => ⟨fr_K F 13 (a 13 (by omega)) r 1, fun j => fr_K F 14 (a 14 (by omega)) r j⟩⟩
theorem RC_k {s m : LMem} (hJ : y_J x_X s) (e21 : gI m 33 0 21 = gI s 33 0 21) (e22 : gI m 33 0 22 = gI s 33 0 22) (C : ctK (gI s 33 0 21).toNatClampNeg (gI s 33 0 22).toNatClampNeg s m) (U : cuK (gI s 33 0 21).toNatClampNeg (gI s 33 0 22).toNatClampNeg s m) (h : RC s) : RC m := by
  have b21 := cl_i (hi := 4) (hJ.1 33 0 21 (21, 21, 0, 4) (by decide) (by decide) (by decide)).1 (hJ.1 33 0 21 (21, 21, 0, 4) (by decide) (by decide) (by decide)).2
  have b22 := cl_i (hi := 4) (hJ.1 33 0 22 (22, 22, 0, 4) (by decide) (by decide) (by decide)).1 (hJ.1 33 0 22 (22, 22, 0, 4) (by decide) (by decide) (by decide)).2
  unfold RC
  rw [e21, e22]
  refine ⟨fun dd hd => ?_, fun r hr => ?_⟩
  · obtain ⟨h1, h2⟩ := h.1 dd hd
    have u := U.1 dd hd
    have c := C.1 dd hd
    have n20 : (gI s 44 0 dd).toInt ≤ 20 := (hJ.1 44 0 dd (0, 4, 0, 20) (by decide) (by show (0 : Int) ≤ (dd : Int); omega) (by show (dd : Int) ≤ 4; omega)).2
    refine ⟨by rw [c.1, u.1, h1], fun r w g1 g2 => ?_⟩
    rw [u.1] at g1
    rw [c.2 _ w (by omega) (by omega), u.2 _ (by omega) (by omega)]
    exact h2 r w g1 g2
  · obtain ⟨h1, h2⟩ := h.2 r hr
    have u := U.2 r hr
    have c := C.2 r hr
    have n30 : (gI s 46 0 r).toInt ≤ 30 := (hJ.1 46 0 r (0, 4, 0, 30) (by decide) (by show (0 : Int) ≤ (r : Int); omega) (by show (r : Int) ≤ 4; omega)).2
    refine ⟨by rw [c.1, u.1, h1], fun j g1 => ?_⟩
    rw [u.1] at g1
    rw [c.2 j, u.2 _ (by omega) (by omega), h2 j g1]
def rk_w (w : YW) : Bool := rt_w w && ((!(Nat.beq w.1 4) && (!(Nat.beq w.1 6) && (!(Nat.beq w.1 13) && !(Nat.beq w.1 14)))) && (!(Nat.beq w.1 44) && (!(Nat.beq w.1 45) && (!(Nat.beq w.1 46) && !(Nat.beq w.1 47)))))
theorem rk_s {W : List YW} (h : W.all rk_w = true) : W.all rt_w = true ∧ (W.all fun w => !(Nat.beq w.1 4) && (!(Nat.beq w.1 6) && (!(Nat.beq w.1 13) && !(Nat.beq w.1 14)))) = true ∧ (W.all fun w => !(Nat.beq w.1 44) && (!(Nat.beq w.1 45) && (!(Nat.beq w.1 46) && !(Nat.beq w.1 47)))) = true := ⟨List.all_eq_true.mpr fun w hw => (qa_and (List.all_eq_true.mp h w hw)).1, List.all_eq_true.mpr fun w hw => (qa_and (qa_and (List.all_eq_true.mp h w hw)).2).1, List.all_eq_true.mpr fun w hw => (qa_and (qa_and (List.all_eq_true.mp h w hw)).2).2⟩
theorem RC_fr {W : List YW} (h : W.all rk_w = true) {s s' : LMem} (hJ : y_J x_X s) (F : y_Fr W s s') (R : RC s) : RC s' := by
  obtain ⟨a, b, c⟩ := rk_s h
  exact RC_k hJ ((rt_k a F).2.2.2.2.2 21 (by decide)) ((rt_k a F).2.2.2.2.2 22 (by decide)) (fr_ct F b) (fr_cu F c) R
def zK (s : LMem) : Prop := zJ s ∧ RC s
def lqk (s : LMem) (Q : LPost) : Prop := ∀ v s', zK s' → (∀ i j, gI s' 65 i j = gI s 65 i j) → Q (some (lI v)) s'
theorem sf_conk {ct : YCt} (H : y_con x_X ct) (hk : (Nat.ble ct.2.2.2.2.2 1200 && ((ct.2.2.2.1.all rk_w) && ct.2.2.2.2.1.all sf_a)) = true) (hp : ct.2.2.1 = ([], [])) {As : List LV} {s : LMem} {Q : LPost} (hA : y_as ct.2.1 As) (hJ : zK s) (h : lqk s Q) : qC false 1200 ct.1 As s Q := by
  obtain ⟨k1, k2⟩ := qa_and hk
  obtain ⟨k2, k3⟩ := qa_and k2
  have k4 := (rk_s k2).1
  refine H 1200 (Nat.le_of_ble_eq_true k1) As s Q hA hJ.1.1 (by rw [hp]; exact ⟨y_msnil, fun _ q => absurd q List.not_mem_nil⟩) fun r s' hr J' F' => ?_
  obtain ⟨a, ha, h1, _⟩ := hr
  have h3 := List.all_eq_true.mp k3 a ha
  obtain ⟨a1, a2⟩ := a
  rcases a1 with _ | b | b
  · cases h3
  · rcases r with _ | v
    · exact h1.elim
    · have h1 : y_sv (.inl b) v := h1
      obtain ⟨x, rfl, _, _⟩ := y_aI h1
      exact h x s' ⟨⟨J', rt_fr k4 F' hJ.1.2⟩, RC_fr k2 hJ.1.1 F' hJ.2⟩ (rt_k k4 F').2.2.2.1
  · cases h3
/-! PAIRS of calls, contents too. -/
abbrev prk (s1 : LMem) (v : Int32) : LPost := fun r s2 => r = some (lI v) ∧ zK s2 ∧ ∀ i j, gI s2 65 i j = gI s1 65 i j
section PK
variable {s : LMem} {Q : LPost}
theorem prk_end {p : Int32} (hJ : zK s) (h : ∀ v s1, y_J x_X s1 → (∀ i j, gI s1 65 i j = gI s 65 i j) → (∀ p', p' = p → qC false 1200 203 [lR 33 (some 0), lI p'] s1 (prk s1 v)) → Q (some (lI v)) s1) : qC false 1200 144 [lR 0 (some 0), lI p] s Q := by
  have a0 := pr_end (p := p) (s := s) (Q := fun r s1 => ∃ v, r = some (lI v) ∧ y_J x_X s1 ∧ (∀ i j, gI s1 65 i j = gI s 65 i j) ∧ ∀ p', p' = p → qC false 1200 203 [lR 33 (some 0), lI p'] s1 (pr2 s1 v)) hJ.1 (fun v s1 a b c => ⟨v, rfl, a, b, c⟩)
  have b0 := fr_con (d := 1200) (s := s) (As := [lR 0 (some 0), lI p]) (y_all x_X_cl h_all0 yk_X11_end (List.mem_of_getElem? (i := 186) rfl)) (by decide) rfl ⟨y_rcv, z_in_top _, trivial⟩ hJ.1.1
  refine qC_mono (qC_and a0 b0) fun r s1 q => ?_
  obtain ⟨⟨v, rfl, J1, X1, c⟩, _, F1⟩ := q
  have R1 : RC s1 := RC_k hJ.1.1 (fr_k F1 33 0 21 (by decide +kernel)) (fr_k F1 33 0 22 (by decide +kernel)) (fr_ct F1 (by decide +kernel)) (fr_cu F1 (by decide +kernel)) hJ.2
  refine h v s1 J1 X1 fun p' ep => ?_
  have b2 := fr_con (d := 1200) (s := s1) (As := [lR 33 (some 0), lI p']) (y_all x_X_cl h_all0 yk_X12_end (List.mem_of_getElem? (i := 187) rfl)) (by decide) rfl ⟨y_rcv, z_in_top _, trivial⟩ J1
  refine qC_mono (qC_and (c _ ep) b2) fun r s2 q => ?_
  obtain ⟨⟨e, z2, x2⟩, _, F2⟩ := q
  exact ⟨e, ⟨z2, RC_k J1 (fr_k F2 33 0 21 (by decide +kernel)) (fr_k F2 33 0 22 (by decide +kernel)) (fr_ct F2 (by decide +kernel)) (fr_cu F2 (by decide +kernel)) R1⟩, x2⟩
theorem prk_feed {a : Int32} {b : Int32} {e : Int32} {f : Int32} {g : Int32} (hJ : zK s) (h : ∀ v s1, y_J x_X s1 → (∀ i j, gI s1 65 i j = gI s 65 i j) → (∀ a' b' e' f' g', a' = a → b' = b → e' = e → f' = f → g' = g → qC false 1200 202 [lR 33 (some 0), lI a', lI b', lI e', lI f', lI g'] s1 (prk s1 v)) → Q (some (lI v)) s1) : qC false 1200 143 [lR 0 (some 0), lI a, lI b, lI e, lI f, lI g] s Q := by
  have a0 := pr_feed (a := a) (b := b) (e := e) (f := f) (g := g) (s := s) (Q := fun r s1 => ∃ v, r = some (lI v) ∧ y_J x_X s1 ∧ (∀ i j, gI s1 65 i j = gI s 65 i j) ∧ ∀ a' b' e' f' g', a' = a → b' = b → e' = e → f' = f → g' = g → qC false 1200 202 [lR 33 (some 0), lI a', lI b', lI e', lI f', lI g'] s1 (pr2 s1 v)) hJ.1 (fun v s1 a b c => ⟨v, rfl, a, b, c⟩)
  have b0 := fr_con (d := 1200) (s := s) (As := [lR 0 (some 0), lI a, lI b, lI e, lI f, lI g]) (y_all x_X_cl h_all0 yk_X11_feed (List.mem_of_getElem? (i := 149) rfl)) (by decide) rfl ⟨y_rcv, z_in_top _, z_in_top _, z_in_top _, z_in_top _, z_in_top _, trivial⟩ hJ.1.1
  refine qC_mono (qC_and a0 b0) fun r s1 q => ?_
  obtain ⟨⟨v, rfl, J1, X1, c⟩, _, F1⟩ := q
  have R1 : RC s1 := RC_k hJ.1.1 (fr_k F1 33 0 21 (by decide +kernel)) (fr_k F1 33 0 22 (by decide +kernel)) (fr_ct F1 (by decide +kernel)) (fr_cu F1 (by decide +kernel)) hJ.2
  refine h v s1 J1 X1 fun a' b' e' f' g' qa qb qe qf qg => ?_
  have b2 := fr_con (d := 1200) (s := s1) (As := [lR 33 (some 0), lI a', lI b', lI e', lI f', lI g']) h_X12_feed (by decide) rfl ⟨y_rcv, z_in_top _, z_in_top _, z_in_top _, z_in_top _, z_in_top _, trivial⟩ J1
  refine qC_mono (qC_and (c _ _ _ _ _ qa qb qe qf qg) b2) fun r s2 q => ?_
  obtain ⟨⟨e, z2, x2⟩, _, F2⟩ := q
  exact ⟨e, ⟨z2, RC_k J1 (fr_k F2 33 0 21 (by decide +kernel)) (fr_k F2 33 0 22 (by decide +kernel)) (fr_ct F2 (by decide +kernel)) (fr_cu F2 (by decide +kernel)) R1⟩, x2⟩
theorem prk_dig {a : Int32} {b : Int32} {c : Int32} {l : Int64} (hJ : zK s) (h : ∀ v s1, y_J x_X s1 → (∀ i j, gI s1 65 i j = gI s 65 i j) → (∀ a' b' c' l', a' = a → b' = b → c' = c → qC false 1200 246 [lR 33 (some 0), lI a', lI b', lI c', lL l'] s1 (prk s1 v)) → Q (some (lI v)) s1) : qC false 1200 162 [lR 0 (some 0), lI a, lI b, lI c, lL l] s Q := by
  have a0 := pr_dig (a := a) (b := b) (c := c) (l := l) (s := s) (Q := fun r s1 => ∃ v, r = some (lI v) ∧ y_J x_X s1 ∧ (∀ i j, gI s1 65 i j = gI s 65 i j) ∧ ∀ a' b' c' l', a' = a → b' = b → c' = c → qC false 1200 246 [lR 33 (some 0), lI a', lI b', lI c', lL l'] s1 (pr2 s1 v)) hJ.1 (fun v s1 a b c => ⟨v, rfl, a, b, c⟩)
  have b0 := fr_con (d := 1200) (s := s) (As := [lR 0 (some 0), lI a, lI b, lI c, lL l]) (y_all x_X_cl h_all0 yk_X11_dig (List.mem_of_getElem? (i := 122) rfl)) (by decide) rfl ⟨y_rcv, z_in_top _, z_in_top _, z_in_top _, trivial, trivial⟩ hJ.1.1
  refine qC_mono (qC_and a0 b0) fun r s1 q => ?_
  obtain ⟨⟨v, rfl, J1, X1, c⟩, _, F1⟩ := q
  have R1 : RC s1 := RC_k hJ.1.1 (fr_k F1 33 0 21 (by decide +kernel)) (fr_k F1 33 0 22 (by decide +kernel)) (fr_ct F1 (by decide +kernel)) (fr_cu F1 (by decide +kernel)) hJ.2
  refine h v s1 J1 X1 fun a' b' c' l' ea eb ec => ?_
  have b2 := fr_con (d := 1200) (s := s1) (As := [lR 33 (some 0), lI a', lI b', lI c', lL l']) h_X12_dig (by decide) rfl ⟨y_rcv, z_in_top _, z_in_top _, z_in_top _, trivial, trivial⟩ J1
  refine qC_mono (qC_and (c _ _ _ _ ea eb ec) b2) fun r s2 q => ?_
  obtain ⟨⟨e, z2, x2⟩, _, F2⟩ := q
  exact ⟨e, ⟨z2, RC_k J1 (fr_k F2 33 0 21 (by decide +kernel)) (fr_k F2 33 0 22 (by decide +kernel)) (fr_ct F2 (by decide +kernel)) (fr_cu F2 (by decide +kernel)) R1⟩, x2⟩
/-- fault of the reference: what it leaves -/
theorem fw_12 {p : Int32} {D R : Nat} (hJ : y_J x_X s) : qC false 1200 235 [lR 33 (some 0), lI p] s (fun _ m => gI m 33 0 21 = gI s 33 0 21 ∧ gI m 33 0 22 = gI s 33 0 22 ∧ ctK D R s m) := by
  by_cases e0 : p = 0
  · subst e0
    have b := fr_con (d := 1200) (s := s) (As := [lR 33 (some 0), lI 0]) h_X12_fault_0 (by decide) rfl ⟨y_rcv, ⟨by decide, by decide⟩, trivial⟩ hJ
    exact qC_mono b fun r m q => ⟨fr_k q.2 33 0 21 (by decide +kernel), fr_k q.2 33 0 22 (by decide +kernel), fr_ct q.2 (by decide +kernel)⟩
  by_cases e1 : p = 1
  · subst e1
    have b := fr_con (d := 1200) (s := s) (As := [lR 33 (some 0), lI 1]) h_X12_fault_1 (by decide) rfl ⟨y_rcv, ⟨by decide, by decide⟩, trivial⟩ hJ
    exact qC_mono b fun r m q => ⟨fr_k q.2 33 0 21 (by decide +kernel), fr_k q.2 33 0 22 (by decide +kernel), fr_ct q.2 (by decide +kernel)⟩
  by_cases e2 : p = 2
  · subst e2
    have b := fr_con (d := 1200) (s := s) (As := [lR 33 (some 0), lI 2]) h_X12_fault_2 (by decide) rfl ⟨y_rcv, ⟨by decide, by decide⟩, trivial⟩ hJ
    exact qC_mono b fun r m q => ⟨fr_k q.2 33 0 21 (by decide +kernel), fr_k q.2 33 0 22 (by decide +kernel), fr_ct q.2 (by decide +kernel)⟩
  exact h_fault_no (d := 1199) e0 e1 e2 ⟨rfl, rfl, ctK_rf⟩
theorem kD {s : LMem} (hJ : y_J x_X s) : (gI s 33 0 21).toNatClampNeg ≤ 4 ∧ (gI s 33 0 22).toNatClampNeg ≤ 4 := by
  have b21 := cl_i (hi := 4) (hJ.1 33 0 21 (21, 21, 0, 4) (by decide) (by decide) (by decide)).1 (hJ.1 33 0 21 (21, 21, 0, 4) (by decide) (by decide) (by decide)).2
  have b22 := cl_i (hi := 4) (hJ.1 33 0 22 (22, 22, 0, 4) (by decide) (by decide) (by decide)).1 (hJ.1 33 0 22 (22, 22, 0, 4) (by decide) (by decide) (by decide)).2
  omega
theorem prk_fault {p : Int32} (hJ : zK s) (h : ∀ v s1, y_J x_X s1 → (∀ i j, gI s1 65 i j = gI s 65 i j) → (∀ p', p' = p → qC false 1200 235 [lR 33 (some 0), lI p'] s1 (prk s1 v)) → Q (some (lI v)) s1) : qC false 1200 145 [lR 0 (some 0), lI p] s Q := by
  obtain ⟨⟨J, l, h1, h2, h3, h4, h5, h6, h7, h8⟩, C⟩ := hJ
  have a0 := pr_fault (p := p) (s := s) (Q := fun r s1 => ∃ v, r = some (lI v) ∧ y_J x_X s1 ∧ (∀ i j, gI s1 65 i j = gI s 65 i j) ∧ ∀ p', p' = p → qC false 1200 235 [lR 33 (some 0), lI p'] s1 (pr2 s1 v)) ⟨J, l, h1, h2, h3, h4, h5, h6, h7, h8⟩ (fun v s1 a b c => ⟨v, rfl, a, b, c⟩)
  have b0 := fr_con (d := 1200) (s := s) (As := [lR 0 (some 0), lI p]) (y_all x_X_cl h_all0 yk_X11_fault (List.mem_of_getElem? (i := 0) rfl)) (by decide) rfl ⟨y_rcv, z_in_top _, trivial⟩ J
  have c0 := fc_11 (d := 1077) (p := p) J h2 h1 (tp_mk J h1 h5)
  refine qC_mono (qC_and (qC_and a0 b0) c0) fun r s1 q => ?_
  obtain ⟨⟨⟨v, rfl, J1, X1, c⟩, _, F1⟩, K1⟩ := q
  rw [h6, h8] at K1
  have e21 : gI s1 33 0 21 = gI s 33 0 21 := fr_k F1 33 0 21 (by decide +kernel)
  have e22 : gI s1 33 0 22 = gI s 33 0 22 := fr_k F1 33 0 22 (by decide +kernel)
  have R1 : RC s1 := RC_k J e21 e22 K1 (fr_cu F1 (by decide +kernel)) C
  refine h v s1 J1 X1 fun p' ep => ?_
  have k := kD J1
  have b2 := fw_12 (p := p') (s := s1) (D := (gI s1 33 0 21).toNatClampNeg) (R := (gI s1 33 0 22).toNatClampNeg) J1
  have c2 := fc_12 (d := 1077) (p := p') (s := s1) (D := (gI s1 33 0 21).toNatClampNeg) (R := (gI s1 33 0 22).toNatClampNeg) J1 ((fr_k F1 33 0 2 (by decide +kernel)).trans h3) h1 k.1 k.2
  refine qC_mono (qC_and (qC_and (c p' ep) b2) c2) fun r s2 q => ?_
  obtain ⟨⟨⟨e, z2, x2⟩, f1, f2, f3⟩, f4⟩ := q
  exact ⟨e, ⟨z2, RC_k J1 f1 f2 f3 f4 R1⟩, x2⟩
end PK
/-! text, contents too. -/
theorem dtN_le {b : Nat → Int32} {l : Nat} : ∀ f p, dtN b l f p ≤ max f 1 := by
  intro f
  induction f with
  | zero => intro p; exact Nat.zero_le _
  | succ f ih =>
    intro p
    show (if tc b l (rcS b l p).1.2 = 44 ∧ 0 < f then dtN b l f (sk b l ((rcS b l p).1.2 + 1)) + 1 else 1) ≤ max (f + 1) 1
    by_cases c : tc b l (rcS b l p).1.2 = 44 ∧ 0 < f
    · rw [if_pos c]
      have := ih (sk b l ((rcS b l p).1.2 + 1))
      omega
    · rw [if_neg c]
      omega
theorem rnN_le {b : Nat → Int32} {l : Nat} : ∀ f p, rnN b l f p ≤ max f 1 := by
  intro f
  induction f with
  | zero => intro p; exact Nat.zero_le _
  | succ f ih =>
    intro p
    show (if tc b l (sk b l (p + dr b l 2 p)) = 44 ∧ 0 < f then rnN b l f (sk b l (sk b l (p + dr b l 2 p) + 1)) + 1 else 1) ≤ max (f + 1) 1
    by_cases c : tc b l (sk b l (p + dr b l 2 p)) = 44 ∧ 0 < f
    · rw [if_pos c]
      have := ih (sk b l (sk b l (p + dr b l 2 p) + 1))
      omega
    · rw [if_neg c]
      omega
theorem RC_p {s m : LMem} (hJ : y_J x_X s) (C : ctK (gI s 33 0 21).toNatClampNeg (gI s 33 0 22).toNatClampNeg s m) (U : cuK (gI s 33 0 21).toNatClampNeg (gI s 33 0 22).toNatClampNeg s m) (h : RC s) : (∀ dd, dd < (gI s 33 0 21).toNatClampNeg → gI m 4 dd 1 = gI m 44 0 dd ∧ ∀ r w : Nat, (r : Int) < (gI m 44 0 dd).toInt → w < 5 → gI m 6 (20 * dd + r) w = gI m 45 0 (100 * dd + 5 * r + w) ∧ 0 ≤ (gI m 45 0 (100 * dd + 5 * r + w)).toInt) ∧ (∀ r, r < (gI s 33 0 22).toNatClampNeg → gI m 13 r 1 = gI m 46 0 r ∧ ∀ j : Nat, (j : Int) < (gI m 46 0 r).toInt → gI m 14 r j = gI m 47 0 (30 * r + j)) := by
  have k := kD hJ
  refine ⟨fun dd hd => ?_, fun r hr => ?_⟩
  · obtain ⟨h1, h2⟩ := h.1 dd hd
    have u := U.1 dd hd
    have c := C.1 dd hd
    have n20 : (gI s 44 0 dd).toInt ≤ 20 := (hJ.1 44 0 dd (0, 4, 0, 20) (by decide) (by show (0 : Int) ≤ (dd : Int); omega) (by show (dd : Int) ≤ 4; omega)).2
    refine ⟨by rw [c.1, u.1, h1], fun r w g1 g2 => ?_⟩
    rw [u.1] at g1
    rw [c.2 _ w (by omega) (by omega), u.2 _ (by omega) (by omega)]
    exact h2 r w g1 g2
  · obtain ⟨h1, h2⟩ := h.2 r hr
    have u := U.2 r hr
    have c := C.2 r hr
    have n30 : (gI s 46 0 r).toInt ≤ 30 := (hJ.1 46 0 r (0, 4, 0, 30) (by decide) (by show (0 : Int) ≤ (r : Int); omega) (by show (r : Int) ≤ 4; omega)).2
    refine ⟨by rw [c.1, u.1, h1], fun j g1 => ?_⟩
    rw [u.1] at g1
    rw [c.2 j, u.2 _ (by omega) (by omega), h2 j g1]
theorem RC_n0 {s m : LMem} {D l : Nat} {b : Nat → Int32} (hJ : y_J x_X s) (hD : (gI s 33 0 21).toNatClampNeg = D) (e21 : (gI m 33 0 21).toNatClampNeg = D + 1) (e22 : gI m 33 0 22 = gI s 33 0 22) (C : ctK (gI s 33 0 21).toNatClampNeg (gI s 33 0 22).toNatClampNeg s m) (U : cuK (gI s 33 0 21).toNatClampNeg (gI s 33 0 22).toNatClampNeg s m) (h : RC s) (V1 : tcV b l 0 D m) (V2 : tuV b l 0 D m) : RC m := by
  obtain ⟨p1, p2⟩ := RC_p hJ C U h
  unfold RC
  rw [e21, e22]
  refine ⟨fun dd hd => ?_, p2⟩
  rcases Nat.lt_or_ge dd D with c | c
  · exact p1 dd (by omega)
  · have e : dd = D := by omega
    subst e
    obtain ⟨a1, a2⟩ := V1.1 rfl
    obtain ⟨b1, b2⟩ := V2.1 rfl
    have hn := dtN_le (b := b) (l := l) 20 (sk b l 0)
    refine ⟨by rw [a1, b1], fun r w g1 g2 => ?_⟩
    rw [b1, nI_toInt (by omega)] at g1
    rw [a2 r w (by omega) g2, b2 r w (by omega) g2]
    exact ⟨rfl, rcS_P w g2⟩
theorem RC_n2 {s m : LMem} {D l : Nat} {b : Nat → Int32} (hJ : y_J x_X s) (hD : (gI s 33 0 22).toNatClampNeg = D) (e22 : (gI m 33 0 22).toNatClampNeg = D + 1) (e21 : gI m 33 0 21 = gI s 33 0 21) (C : ctK (gI s 33 0 21).toNatClampNeg (gI s 33 0 22).toNatClampNeg s m) (U : cuK (gI s 33 0 21).toNatClampNeg (gI s 33 0 22).toNatClampNeg s m) (h : RC s) (V1 : tcV b l 2 D m) (V2 : tuV b l 2 D m) : RC m := by
  obtain ⟨p1, p2⟩ := RC_p hJ C U h
  unfold RC
  rw [e21, e22]
  refine ⟨p1, fun r hr => ?_⟩
  rcases Nat.lt_or_ge r D with c | c
  · exact p2 r (by omega)
  · have e : r = D := by omega
    subst e
    obtain ⟨a1, a2⟩ := V1.2 rfl
    obtain ⟨b1, b2⟩ := V2.2 rfl
    have hn := rnN_le (b := b) (l := l) 30 (sk b l 0)
    refine ⟨by rw [a1, b1], fun j g1 => ?_⟩
    rw [b1, nI_toInt (by omega)] at g1
    rw [a2 j (by omega), b2 j (by omega)]
theorem tcV_fr {W : List YW} {b : Nat → Int32} {l sort D : Nat} {s m : LMem} (F : y_Fr W s m) (h : (W.all fun w => !(Nat.beq w.1 4) && (!(Nat.beq w.1 6) && (!(Nat.beq w.1 13) && !(Nat.beq w.1 14)))) = true) (V : tcV b l sort D s) : tcV b l sort D m := by
  have a : ∀ k, (k = 4 ∨ k = 6 ∨ k = 13 ∨ k = 14) → (W.all fun w => !(Nat.beq w.1 k)) = true := fun k hk => List.all_eq_true.mpr fun w hw => by
    have g := List.all_eq_true.mp h w hw
    rcases hk with rfl | rfl | rfl | rfl
    · exact (qa_and g).1
    · exact (qa_and (qa_and g).2).1
    · exact (qa_and (qa_and (qa_and g).2).2).1
    · exact (qa_and (qa_and (qa_and g).2).2).2
  exact ⟨fun e => ⟨(fr_K F 4 (a 4 (by omega)) D 1).trans (V.1 e).1, fun r w g1 g2 => (fr_K F 6 (a 6 (by omega)) _ w).trans ((V.1 e).2 r w g1 g2)⟩, fun e => ⟨(fr_K F 13 (a 13 (by omega)) D 1).trans (V.2 e).1, fun j g1 => (fr_K F 14 (a 14 (by omega)) D j).trans ((V.2 e).2 j g1)⟩⟩
section PT
variable {s : LMem} {Q : LPost}
theorem prk_text0 (hJ : zK s) (h : ∀ v s1, y_J x_X s1 → (∀ i j, gI s1 65 i j = gI s 65 i j) → qC false 1200 236 [lR 33 (some 0), lI 0] s1 (prk s1 v) → Q (some (lI v)) s1) : qC false 1200 146 [lR 0 (some 0), lI 0] s Q := by
  obtain ⟨⟨J, l, h1, h2, h3, h4, h5, h6, h7, h8⟩, C⟩ := hJ
  have a0 := pr_text0 (s := s) (Q := fun r s1 => ∃ v, r = some (lI v) ∧ y_J x_X s1 ∧ (∀ i j, gI s1 65 i j = gI s 65 i j) ∧ qC false 1200 236 [lR 33 (some 0), lI 0] s1 (pr2 s1 v)) ⟨J, l, h1, h2, h3, h4, h5, h6, h7, h8⟩ (fun v s1 a b c => ⟨v, rfl, a, b, c⟩)
  have b0 := fr_con (d := 1200) (s := s) (As := [lR 0 (some 0), lI 0]) (y_all x_X_cl h_all0 yk_X11_text_1 (List.mem_of_getElem? (i := 100) rfl)) (by decide) rfl ⟨y_rcv, ⟨by decide, by decide⟩, trivial⟩ J
  have c0 := tc_110 (d := 1077) (s := s) J h2 h1 (tp_mk J h1 h5)
  refine qC_mono (qC_and (qC_and a0 b0) c0) fun r s1 q => ?_
  obtain ⟨⟨⟨v, rfl, J1, X1, c⟩, _, F1⟩, K1, V1⟩ := q
  rw [h6, h8] at K1
  have e33 : ∀ j, gI s1 33 0 j = gI s 33 0 j := fun j => fr_K F1 33 (by decide) 0 j
  have e34 : bS s1 = bC s := (funext fun j => fr_K F1 34 (by decide) 0 j).trans h4.symm
  refine h v s1 J1 X1 ?_
  have b2 := fr_con (d := 1200) (s := s1) (As := [lR 33 (some 0), lI 0]) h_X12_text_0 (by decide) rfl ⟨y_rcv, ⟨by decide, by decide⟩, trivial⟩ J1
  have c2 := tc_120 (d := 1077) (s := s1) J1 ((e33 2).trans h3) h1
  have d2 := tx_120 (d := 1077) (s := s1) J1 ((e33 2).trans h3) h1
  refine qC_mono (qC_and (qC_and (qC_and c b2) c2) d2) fun r s2 q => ?_
  obtain ⟨⟨⟨⟨er, z2, x2⟩, _, F2⟩, U2, V2⟩, w, ew, O2⟩ := q
  have evw : v = w := by
    have := er.symm.trans ew
    cases this
    rfl
  have C2 : ctK (gI s 33 0 21).toNatClampNeg (gI s 33 0 22).toNatClampNeg s s2 := ctK_tr K1 (fr_ct F2 (by decide +kernel))
  have U3 : cuK (gI s 33 0 21).toNatClampNeg (gI s 33 0 22).toNatClampNeg s s2 := cuK_tr (fr_cu F1 (by decide +kernel)) (by
    rw [e33, e33] at U2
    exact U2)
  refine ⟨er, ⟨z2, ?_⟩, x2⟩
  have lo := (J.1 33 0 21 (21, 21, 0, 4) (by decide) (by decide) (by decide)).1
  have lo : 0 ≤ (gI s 33 0 21).toInt := lo
  unfold tuO at O2
  rw [e33] at O2 V2
  rcases O2 with ⟨o1, o2, _, _, o5⟩ | ⟨_, _, _, o4⟩
  · have ne : v ≠ -1 := fun q => by
      rw [evw, o1] at q
      have := congrArg Int32.toInt q
      rw [show (-1 : Int32).toInt = -1 by decide] at this
      omega
    have n1 : some (lI v) ≠ some (lI (-1)) := fun q => by
      cases q
      exact ne rfl
    have n2 : r ≠ some (lI (-1)) := by
      rw [er]
      exact n1
    have V1 := V1 n1
    have V2 := V2 n2
    rw [h6] at V1
    rw [e34] at V2
    obtain ⟨D, hD2, hD⟩ := nI_up (hi := 3) lo (by omega) (by decide)
    have eD : (gI s 33 0 21).toNatClampNeg = D := by rw [hD, nI_clamp (by omega)]
    rw [eD] at V1 V2
    exact RC_n0 J eD (by rw [o5, hD, nI_1, nI_clamp (by omega)]) ((fr_k F2 33 0 22 (by decide +kernel)).trans (e33 22)) C2 U3 C (tcV_fr F2 (by decide +kernel) V1) V2
  · exact RC_k J o4 ((fr_k F2 33 0 22 (by decide +kernel)).trans (e33 22)) C2 U3 C
theorem prk_text1 (hJ : zK s) (h : ∀ v s1, y_J x_X s1 → (∀ i j, gI s1 65 i j = gI s 65 i j) → qC false 1200 236 [lR 33 (some 0), lI 1] s1 (prk s1 v) → Q (some (lI v)) s1) : qC false 1200 146 [lR 0 (some 0), lI 1] s Q := by
  obtain ⟨⟨J, l, h1, h2, h3, h4, h5, h6, h7, h8⟩, C⟩ := hJ
  have a0 := pr_text1 (s := s) (Q := fun r s1 => ∃ v, r = some (lI v) ∧ y_J x_X s1 ∧ (∀ i j, gI s1 65 i j = gI s 65 i j) ∧ qC false 1200 236 [lR 33 (some 0), lI 1] s1 (pr2 s1 v)) ⟨J, l, h1, h2, h3, h4, h5, h6, h7, h8⟩ (fun v s1 a b c => ⟨v, rfl, a, b, c⟩)
  have b0 := fr_con (d := 1200) (s := s) (As := [lR 0 (some 0), lI 1]) (y_all x_X_cl h_all0 yk_X11_text_2 (List.mem_of_getElem? (i := 1) rfl)) (by decide) rfl ⟨y_rcv, ⟨by decide, by decide⟩, trivial⟩ J
  have c0 := tc_111 (d := 1077) (s := s) J h2 h1 (tp_mk J h1 h5)
  refine qC_mono (qC_and (qC_and a0 b0) c0) fun r s1 q => ?_
  obtain ⟨⟨⟨v, rfl, J1, X1, c⟩, _, F1⟩, K1, V1⟩ := q
  rw [h6, h8] at K1
  have e33 : ∀ j, gI s1 33 0 j = gI s 33 0 j := fun j => fr_K F1 33 (by decide) 0 j
  have e34 : bS s1 = bC s := (funext fun j => fr_K F1 34 (by decide) 0 j).trans h4.symm
  refine h v s1 J1 X1 ?_
  have b2 := fr_con (d := 1200) (s := s1) (As := [lR 33 (some 0), lI 1]) h_X12_text_1 (by decide) rfl ⟨y_rcv, ⟨by decide, by decide⟩, trivial⟩ J1
  have c2 := tc_121 (d := 1077) (s := s1) J1 ((e33 2).trans h3) h1
  have d2 := tx_121 (d := 1077) (s := s1) J1 ((e33 2).trans h3) h1
  refine qC_mono (qC_and (qC_and (qC_and c b2) c2) d2) fun r s2 q => ?_
  obtain ⟨⟨⟨⟨er, z2, x2⟩, _, F2⟩, U2, V2⟩, w, ew, O2⟩ := q
  have evw : v = w := by
    have := er.symm.trans ew
    cases this
    rfl
  have C2 : ctK (gI s 33 0 21).toNatClampNeg (gI s 33 0 22).toNatClampNeg s s2 := ctK_tr K1 (fr_ct F2 (by decide +kernel))
  have U3 : cuK (gI s 33 0 21).toNatClampNeg (gI s 33 0 22).toNatClampNeg s s2 := cuK_tr (fr_cu F1 (by decide +kernel)) (by
    rw [e33, e33] at U2
    exact U2)
  refine ⟨er, ⟨z2, ?_⟩, x2⟩
  exact RC_k J ((fr_k F2 33 0 21 (by decide +kernel)).trans (e33 21)) ((fr_k F2 33 0 22 (by decide +kernel)).trans (e33 22)) C2 U3 C
theorem prk_text2 (hJ : zK s) (h : ∀ v s1, y_J x_X s1 → (∀ i j, gI s1 65 i j = gI s 65 i j) → qC false 1200 236 [lR 33 (some 0), lI 2] s1 (prk s1 v) → Q (some (lI v)) s1) : qC false 1200 146 [lR 0 (some 0), lI 2] s Q := by
  obtain ⟨⟨J, l, h1, h2, h3, h4, h5, h6, h7, h8⟩, C⟩ := hJ
  have a0 := pr_text2 (s := s) (Q := fun r s1 => ∃ v, r = some (lI v) ∧ y_J x_X s1 ∧ (∀ i j, gI s1 65 i j = gI s 65 i j) ∧ qC false 1200 236 [lR 33 (some 0), lI 2] s1 (pr2 s1 v)) ⟨J, l, h1, h2, h3, h4, h5, h6, h7, h8⟩ (fun v s1 a b c => ⟨v, rfl, a, b, c⟩)
  have b0 := fr_con (d := 1200) (s := s) (As := [lR 0 (some 0), lI 2]) (y_all x_X_cl h_all0 yk_X11_text_3 (List.mem_of_getElem? (i := 111) rfl)) (by decide) rfl ⟨y_rcv, ⟨by decide, by decide⟩, trivial⟩ J
  have c0 := tc_112 (d := 1077) (s := s) J h2 h1 (tp_mk J h1 h5)
  refine qC_mono (qC_and (qC_and a0 b0) c0) fun r s1 q => ?_
  obtain ⟨⟨⟨v, rfl, J1, X1, c⟩, _, F1⟩, K1, V1⟩ := q
  rw [h6, h8] at K1
  have e33 : ∀ j, gI s1 33 0 j = gI s 33 0 j := fun j => fr_K F1 33 (by decide) 0 j
  have e34 : bS s1 = bC s := (funext fun j => fr_K F1 34 (by decide) 0 j).trans h4.symm
  refine h v s1 J1 X1 ?_
  have b2 := fr_con (d := 1200) (s := s1) (As := [lR 33 (some 0), lI 2]) h_X12_text_2 (by decide) rfl ⟨y_rcv, ⟨by decide, by decide⟩, trivial⟩ J1
  have c2 := tc_122 (d := 1077) (s := s1) J1 ((e33 2).trans h3) h1
  have d2 := tx_122 (d := 1077) (s := s1) J1 ((e33 2).trans h3) h1
  refine qC_mono (qC_and (qC_and (qC_and c b2) c2) d2) fun r s2 q => ?_
  obtain ⟨⟨⟨⟨er, z2, x2⟩, _, F2⟩, U2, V2⟩, w, ew, O2⟩ := q
  have evw : v = w := by
    have := er.symm.trans ew
    cases this
    rfl
  have C2 : ctK (gI s 33 0 21).toNatClampNeg (gI s 33 0 22).toNatClampNeg s s2 := ctK_tr K1 (fr_ct F2 (by decide +kernel))
  have U3 : cuK (gI s 33 0 21).toNatClampNeg (gI s 33 0 22).toNatClampNeg s s2 := cuK_tr (fr_cu F1 (by decide +kernel)) (by
    rw [e33, e33] at U2
    exact U2)
  refine ⟨er, ⟨z2, ?_⟩, x2⟩
  have lo := (J.1 33 0 22 (22, 22, 0, 4) (by decide) (by decide) (by decide)).1
  have lo : 0 ≤ (gI s 33 0 22).toInt := lo
  unfold tuO at O2
  rw [e33] at O2 V2
  rcases O2 with ⟨o1, o2, _, _, o5⟩ | ⟨_, _, _, o4⟩
  · have ne : v ≠ -1 := fun q => by
      rw [evw, o1] at q
      have := congrArg Int32.toInt q
      rw [show (-1 : Int32).toInt = -1 by decide] at this
      omega
    have n1 : some (lI v) ≠ some (lI (-1)) := fun q => by
      cases q
      exact ne rfl
    have n2 : r ≠ some (lI (-1)) := by
      rw [er]
      exact n1
    have V1 := V1 n1
    have V2 := V2 n2
    rw [h8] at V1
    rw [e34] at V2
    obtain ⟨D, hD2, hD⟩ := nI_up (hi := 3) lo (by omega) (by decide)
    have eD : (gI s 33 0 22).toNatClampNeg = D := by rw [hD, nI_clamp (by omega)]
    rw [eD] at V1 V2
    exact RC_n2 J eD (by rw [o5, hD, nI_1, nI_clamp (by omega)]) ((fr_k F2 33 0 21 (by decide +kernel)).trans (e33 21)) C2 U3 C (tcV_fr F2 (by decide +kernel) V1) V2
  · exact RC_k J ((fr_k F2 33 0 21 (by decide +kernel)).trans (e33 21)) o4 C2 U3 C
theorem prk_text {p : Int32} (hJ : zK s) (h : ∀ v s1, y_J x_X s1 → (∀ i j, gI s1 65 i j = gI s 65 i j) → (∀ p', p' = p → qC false 1200 236 [lR 33 (some 0), lI p'] s1 (prk s1 v)) → Q (some (lI v)) s1) : qC false 1200 146 [lR 0 (some 0), lI p] s Q := by
  by_cases c0 : p = 0
  · subst c0
    exact prk_text0 hJ fun v s1 J1 X1 c => h v s1 J1 X1 fun p' ep => by
      subst ep
      exact c
  by_cases c1 : p = 1
  · subst c1
    exact prk_text1 hJ fun v s1 J1 X1 c => h v s1 J1 X1 fun p' ep => by
      subst ep
      exact c
  by_cases c2 : p = 2
  · subst c2
    exact prk_text2 hJ fun v s1 J1 X1 c => h v s1 J1 X1 fun p' ep => by
      subst ep
      exact c
  refine qC_mono (tx_11N (d := 1077) c0 c1 c2) fun r m q => ?_
  obtain ⟨rfl, rfl⟩ := q
  refine h _ m hJ.1.1 (fun _ _ => rfl) fun p' ep => ?_
  subst ep
  refine qC_mono (tx_12N (d := 1077) c0 c1 c2) fun r m' q => ?_
  obtain ⟨rfl, rfl⟩ := q
  exact ⟨rfl, hJ, fun _ _ => rfl⟩
end PT
