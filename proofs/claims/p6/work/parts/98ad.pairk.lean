/-! PAIRS of calls, contents too. -/
abbrev prk (s1 : LMem) (v : Int32) : LPost := fun r s2 => r = some (lI v) ∧ zK s2 ∧ ∀ i j, gI s2 65 i j = gI s1 65 i j
section PK
variable {s : LMem} {Q : LPost}
theorem prk_end {p : Int32} (hJ : zK s) (h : ∀ v s1, y_J x_X s1 → (∀ i j, gI s1 65 i j = gI s 65 i j) → (∀ p', p' = p → qC false 1200 203 [lR 33 (some 0), lI p'] s1 (prk s1 v)) → Q (some (lI v)) s1) : qC false 1200 144 [lR 0 (some 0), lI p] s Q := by
  have a0 := pr_end (p := p) (s := s) (Q := fun r s1 => ∃ v, r = some (lI v) ∧ y_J x_X s1 ∧ (∀ i j, gI s1 65 i j = gI s 65 i j) ∧ ∀ p', p' = p → qC false 1200 203 [lR 33 (some 0), lI p'] s1 (pr2 s1 v)) hJ.1 (fun v s1 a b c => ⟨v, rfl, a, b, c⟩)
  have b0 := fr_con (d := 1200) (s := s) (As := [lR 0 (some 0), lI p]) (y_all x_X_cl h_all0 yk_X11_end (List.mem_of_getElem? (i := 186) rfl)) (by decide) rfl ⟨y_rcv, z_in_top _, trivial⟩ hJ.1.1
  refine qC_mono (qC_and a0 b0) fun r s1 q => ?_
  obtain ⟨⟨v, rfl, J1, X1, c⟩, _, F1⟩ := q
  have R1 : RC s1 := RC_k hJ.1.1 (fr_k F1 33 0 21 (by decide +kernel)) (fr_k F1 33 0 22 (by decide +kernel)) (fr_ct F1 (by decide +kernel)) (fr_cu F1 (by decide +kernel)) hJ.2
  refine h v s1 J1 X1 fun p' ep => ?_
  have b2 := fr_con (d := 1200) (s := s1) (As := [lR 33 (some 0), lI p']) (y_all x_X_cl h_all0 yk_X12_end (List.mem_of_getElem? (i := 187) rfl)) (by decide) rfl ⟨y_rcv, z_in_top _, trivial⟩ J1
  refine qC_mono (qC_and (c _ ep) b2) fun r s2 q => ?_
  obtain ⟨⟨e, z2, x2⟩, _, F2⟩ := q
  exact ⟨e, ⟨z2, RC_k J1 (fr_k F2 33 0 21 (by decide +kernel)) (fr_k F2 33 0 22 (by decide +kernel)) (fr_ct F2 (by decide +kernel)) (fr_cu F2 (by decide +kernel)) R1⟩, x2⟩
theorem prk_feed {a : Int32} {b : Int32} {e : Int32} {f : Int32} {g : Int32} (hJ : zK s) (h : ∀ v s1, y_J x_X s1 → (∀ i j, gI s1 65 i j = gI s 65 i j) → (∀ a' b' e' f' g', a' = a → b' = b → e' = e → f' = f → g' = g → qC false 1200 202 [lR 33 (some 0), lI a', lI b', lI e', lI f', lI g'] s1 (prk s1 v)) → Q (some (lI v)) s1) : qC false 1200 143 [lR 0 (some 0), lI a, lI b, lI e, lI f, lI g] s Q := by
  have a0 := pr_feed (a := a) (b := b) (e := e) (f := f) (g := g) (s := s) (Q := fun r s1 => ∃ v, r = some (lI v) ∧ y_J x_X s1 ∧ (∀ i j, gI s1 65 i j = gI s 65 i j) ∧ ∀ a' b' e' f' g', a' = a → b' = b → e' = e → f' = f → g' = g → qC false 1200 202 [lR 33 (some 0), lI a', lI b', lI e', lI f', lI g'] s1 (pr2 s1 v)) hJ.1 (fun v s1 a b c => ⟨v, rfl, a, b, c⟩)
  have b0 := fr_con (d := 1200) (s := s) (As := [lR 0 (some 0), lI a, lI b, lI e, lI f, lI g]) (y_all x_X_cl h_all0 yk_X11_feed (List.mem_of_getElem? (i := 149) rfl)) (by decide) rfl ⟨y_rcv, z_in_top _, z_in_top _, z_in_top _, z_in_top _, z_in_top _, trivial⟩ hJ.1.1
  refine qC_mono (qC_and a0 b0) fun r s1 q => ?_
  obtain ⟨⟨v, rfl, J1, X1, c⟩, _, F1⟩ := q
  have R1 : RC s1 := RC_k hJ.1.1 (fr_k F1 33 0 21 (by decide +kernel)) (fr_k F1 33 0 22 (by decide +kernel)) (fr_ct F1 (by decide +kernel)) (fr_cu F1 (by decide +kernel)) hJ.2
  refine h v s1 J1 X1 fun a' b' e' f' g' qa qb qe qf qg => ?_
  have b2 := fr_con (d := 1200) (s := s1) (As := [lR 33 (some 0), lI a', lI b', lI e', lI f', lI g']) h_X12_feed (by decide) rfl ⟨y_rcv, z_in_top _, z_in_top _, z_in_top _, z_in_top _, z_in_top _, trivial⟩ J1
  refine qC_mono (qC_and (c _ _ _ _ _ qa qb qe qf qg) b2) fun r s2 q => ?_
  obtain ⟨⟨e, z2, x2⟩, _, F2⟩ := q
  exact ⟨e, ⟨z2, RC_k J1 (fr_k F2 33 0 21 (by decide +kernel)) (fr_k F2 33 0 22 (by decide +kernel)) (fr_ct F2 (by decide +kernel)) (fr_cu F2 (by decide +kernel)) R1⟩, x2⟩
theorem prk_dig {a : Int32} {b : Int32} {c : Int32} {l : Int64} (hJ : zK s) (h : ∀ v s1, y_J x_X s1 → (∀ i j, gI s1 65 i j = gI s 65 i j) → (∀ a' b' c' l', a' = a → b' = b → c' = c → qC false 1200 246 [lR 33 (some 0), lI a', lI b', lI c', lL l'] s1 (prk s1 v)) → Q (some (lI v)) s1) : qC false 1200 162 [lR 0 (some 0), lI a, lI b, lI c, lL l] s Q := by
  have a0 := pr_dig (a := a) (b := b) (c := c) (l := l) (s := s) (Q := fun r s1 => ∃ v, r = some (lI v) ∧ y_J x_X s1 ∧ (∀ i j, gI s1 65 i j = gI s 65 i j) ∧ ∀ a' b' c' l', a' = a → b' = b → c' = c → qC false 1200 246 [lR 33 (some 0), lI a', lI b', lI c', lL l'] s1 (pr2 s1 v)) hJ.1 (fun v s1 a b c => ⟨v, rfl, a, b, c⟩)
  have b0 := fr_con (d := 1200) (s := s) (As := [lR 0 (some 0), lI a, lI b, lI c, lL l]) (y_all x_X_cl h_all0 yk_X11_dig (List.mem_of_getElem? (i := 122) rfl)) (by decide) rfl ⟨y_rcv, z_in_top _, z_in_top _, z_in_top _, trivial, trivial⟩ hJ.1.1
  refine qC_mono (qC_and a0 b0) fun r s1 q => ?_
  obtain ⟨⟨v, rfl, J1, X1, c⟩, _, F1⟩ := q
  have R1 : RC s1 := RC_k hJ.1.1 (fr_k F1 33 0 21 (by decide +kernel)) (fr_k F1 33 0 22 (by decide +kernel)) (fr_ct F1 (by decide +kernel)) (fr_cu F1 (by decide +kernel)) hJ.2
  refine h v s1 J1 X1 fun a' b' c' l' ea eb ec => ?_
  have b2 := fr_con (d := 1200) (s := s1) (As := [lR 33 (some 0), lI a', lI b', lI c', lL l']) h_X12_dig (by decide) rfl ⟨y_rcv, z_in_top _, z_in_top _, z_in_top _, trivial, trivial⟩ J1
  refine qC_mono (qC_and (c _ _ _ _ ea eb ec) b2) fun r s2 q => ?_
  obtain ⟨⟨e, z2, x2⟩, _, F2⟩ := q
  exact ⟨e, ⟨z2, RC_k J1 (fr_k F2 33 0 21 (by decide +kernel)) (fr_k F2 33 0 22 (by decide +kernel)) (fr_ct F2 (by decide +kernel)) (fr_cu F2 (by decide +kernel)) R1⟩, x2⟩
/-- fault of the reference: what it leaves -/
theorem fw_12 {p : Int32} {D R : Nat} (hJ : y_J x_X s) : qC false 1200 235 [lR 33 (some 0), lI p] s (fun _ m => gI m 33 0 21 = gI s 33 0 21 ∧ gI m 33 0 22 = gI s 33 0 22 ∧ ctK D R s m) := by
  by_cases e0 : p = 0
  · subst e0
    have b := fr_con (d := 1200) (s := s) (As := [lR 33 (some 0), lI 0]) h_X12_fault_0 (by decide) rfl ⟨y_rcv, ⟨by decide, by decide⟩, trivial⟩ hJ
    exact qC_mono b fun r m q => ⟨fr_k q.2 33 0 21 (by decide +kernel), fr_k q.2 33 0 22 (by decide +kernel), fr_ct q.2 (by decide +kernel)⟩
  by_cases e1 : p = 1
  · subst e1
    have b := fr_con (d := 1200) (s := s) (As := [lR 33 (some 0), lI 1]) h_X12_fault_1 (by decide) rfl ⟨y_rcv, ⟨by decide, by decide⟩, trivial⟩ hJ
    exact qC_mono b fun r m q => ⟨fr_k q.2 33 0 21 (by decide +kernel), fr_k q.2 33 0 22 (by decide +kernel), fr_ct q.2 (by decide +kernel)⟩
  by_cases e2 : p = 2
  · subst e2
    have b := fr_con (d := 1200) (s := s) (As := [lR 33 (some 0), lI 2]) h_X12_fault_2 (by decide) rfl ⟨y_rcv, ⟨by decide, by decide⟩, trivial⟩ hJ
    exact qC_mono b fun r m q => ⟨fr_k q.2 33 0 21 (by decide +kernel), fr_k q.2 33 0 22 (by decide +kernel), fr_ct q.2 (by decide +kernel)⟩
  exact h_fault_no (d := 1199) e0 e1 e2 ⟨rfl, rfl, ctK_rf⟩
theorem kD {s : LMem} (hJ : y_J x_X s) : (gI s 33 0 21).toNatClampNeg ≤ 4 ∧ (gI s 33 0 22).toNatClampNeg ≤ 4 := by
  have b21 := cl_i (hi := 4) (hJ.1 33 0 21 (21, 21, 0, 4) (by decide) (by decide) (by decide)).1 (hJ.1 33 0 21 (21, 21, 0, 4) (by decide) (by decide) (by decide)).2
  have b22 := cl_i (hi := 4) (hJ.1 33 0 22 (22, 22, 0, 4) (by decide) (by decide) (by decide)).1 (hJ.1 33 0 22 (22, 22, 0, 4) (by decide) (by decide) (by decide)).2
  omega
theorem prk_fault {p : Int32} (hJ : zK s) (h : ∀ v s1, y_J x_X s1 → (∀ i j, gI s1 65 i j = gI s 65 i j) → (∀ p', p' = p → qC false 1200 235 [lR 33 (some 0), lI p'] s1 (prk s1 v)) → Q (some (lI v)) s1) : qC false 1200 145 [lR 0 (some 0), lI p] s Q := by
  obtain ⟨⟨J, l, h1, h2, h3, h4, h5, h6, h7, h8⟩, C⟩ := hJ
  have a0 := pr_fault (p := p) (s := s) (Q := fun r s1 => ∃ v, r = some (lI v) ∧ y_J x_X s1 ∧ (∀ i j, gI s1 65 i j = gI s 65 i j) ∧ ∀ p', p' = p → qC false 1200 235 [lR 33 (some 0), lI p'] s1 (pr2 s1 v)) ⟨J, l, h1, h2, h3, h4, h5, h6, h7, h8⟩ (fun v s1 a b c => ⟨v, rfl, a, b, c⟩)
  have b0 := fr_con (d := 1200) (s := s) (As := [lR 0 (some 0), lI p]) (y_all x_X_cl h_all0 yk_X11_fault (List.mem_of_getElem? (i := 0) rfl)) (by decide) rfl ⟨y_rcv, z_in_top _, trivial⟩ J
  have c0 := fc_11 (d := 1077) (p := p) J h2 h1 (tp_mk J h1 h5)
  refine qC_mono (qC_and (qC_and a0 b0) c0) fun r s1 q => ?_
  obtain ⟨⟨⟨v, rfl, J1, X1, c⟩, _, F1⟩, K1⟩ := q
  rw [h6, h8] at K1
  have e21 : gI s1 33 0 21 = gI s 33 0 21 := fr_k F1 33 0 21 (by decide +kernel)
  have e22 : gI s1 33 0 22 = gI s 33 0 22 := fr_k F1 33 0 22 (by decide +kernel)
  have R1 : RC s1 := RC_k J e21 e22 K1 (fr_cu F1 (by decide +kernel)) C
  refine h v s1 J1 X1 fun p' ep => ?_
  have k := kD J1
  have b2 := fw_12 (p := p') (s := s1) (D := (gI s1 33 0 21).toNatClampNeg) (R := (gI s1 33 0 22).toNatClampNeg) J1
  have c2 := fc_12 (d := 1077) (p := p') (s := s1) (D := (gI s1 33 0 21).toNatClampNeg) (R := (gI s1 33 0 22).toNatClampNeg) J1 ((fr_k F1 33 0 2 (by decide +kernel)).trans h3) h1 k.1 k.2
  refine qC_mono (qC_and (qC_and (c p' ep) b2) c2) fun r s2 q => ?_
  obtain ⟨⟨⟨e, z2, x2⟩, f1, f2, f3⟩, f4⟩ := q
  exact ⟨e, ⟨z2, RC_k J1 f1 f2 f3 f4 R1⟩, x2⟩
end PK
/-! text, contents too. -/
theorem dtN_le {b : Nat → Int32} {l : Nat} : ∀ f p, dtN b l f p ≤ max f 1 := by
  intro f
  induction f with
  | zero => intro p; exact Nat.zero_le _
  | succ f ih =>
    intro p
    show (if tc b l (rcS b l p).1.2 = 44 ∧ 0 < f then dtN b l f (sk b l ((rcS b l p).1.2 + 1)) + 1 else 1) ≤ max (f + 1) 1
    by_cases c : tc b l (rcS b l p).1.2 = 44 ∧ 0 < f
    · rw [if_pos c]
      have := ih (sk b l ((rcS b l p).1.2 + 1))
      omega
    · rw [if_neg c]
      omega
theorem rnN_le {b : Nat → Int32} {l : Nat} : ∀ f p, rnN b l f p ≤ max f 1 := by
  intro f
  induction f with
  | zero => intro p; exact Nat.zero_le _
  | succ f ih =>
    intro p
    show (if tc b l (sk b l (p + dr b l 2 p)) = 44 ∧ 0 < f then rnN b l f (sk b l (sk b l (p + dr b l 2 p) + 1)) + 1 else 1) ≤ max (f + 1) 1
    by_cases c : tc b l (sk b l (p + dr b l 2 p)) = 44 ∧ 0 < f
    · rw [if_pos c]
      have := ih (sk b l (sk b l (p + dr b l 2 p) + 1))
      omega
    · rw [if_neg c]
      omega
theorem RC_p {s m : LMem} (hJ : y_J x_X s) (C : ctK (gI s 33 0 21).toNatClampNeg (gI s 33 0 22).toNatClampNeg s m) (U : cuK (gI s 33 0 21).toNatClampNeg (gI s 33 0 22).toNatClampNeg s m) (h : RC s) : (∀ dd, dd < (gI s 33 0 21).toNatClampNeg → gI m 4 dd 1 = gI m 44 0 dd ∧ ∀ r w : Nat, (r : Int) < (gI m 44 0 dd).toInt → w < 5 → gI m 6 (20 * dd + r) w = gI m 45 0 (100 * dd + 5 * r + w) ∧ 0 ≤ (gI m 45 0 (100 * dd + 5 * r + w)).toInt) ∧ (∀ r, r < (gI s 33 0 22).toNatClampNeg → gI m 13 r 1 = gI m 46 0 r ∧ ∀ j : Nat, (j : Int) < (gI m 46 0 r).toInt → gI m 14 r j = gI m 47 0 (30 * r + j)) := by
  have k := kD hJ
  refine ⟨fun dd hd => ?_, fun r hr => ?_⟩
  · obtain ⟨h1, h2⟩ := h.1 dd hd
    have u := U.1 dd hd
    have c := C.1 dd hd
    have n20 : (gI s 44 0 dd).toInt ≤ 20 := (hJ.1 44 0 dd (0, 4, 0, 20) (by decide) (by show (0 : Int) ≤ (dd : Int); omega) (by show (dd : Int) ≤ 4; omega)).2
    refine ⟨by rw [c.1, u.1, h1], fun r w g1 g2 => ?_⟩
    rw [u.1] at g1
    rw [c.2 _ w (by omega) (by omega), u.2 _ (by omega) (by omega)]
    exact h2 r w g1 g2
  · obtain ⟨h1, h2⟩ := h.2 r hr
    have u := U.2 r hr
    have c := C.2 r hr
    have n30 : (gI s 46 0 r).toInt ≤ 30 := (hJ.1 46 0 r (0, 4, 0, 30) (by decide) (by show (0 : Int) ≤ (r : Int); omega) (by show (r : Int) ≤ 4; omega)).2
    refine ⟨by rw [c.1, u.1, h1], fun j g1 => ?_⟩
    rw [u.1] at g1
    rw [c.2 j, u.2 _ (by omega) (by omega), h2 j g1]
theorem RC_n0 {s m : LMem} {D l : Nat} {b : Nat → Int32} (hJ : y_J x_X s) (hD : (gI s 33 0 21).toNatClampNeg = D) (e21 : (gI m 33 0 21).toNatClampNeg = D + 1) (e22 : gI m 33 0 22 = gI s 33 0 22) (C : ctK (gI s 33 0 21).toNatClampNeg (gI s 33 0 22).toNatClampNeg s m) (U : cuK (gI s 33 0 21).toNatClampNeg (gI s 33 0 22).toNatClampNeg s m) (h : RC s) (V1 : tcV b l 0 D m) (V2 : tuV b l 0 D m) : RC m := by
  obtain ⟨p1, p2⟩ := RC_p hJ C U h
  unfold RC
  rw [e21, e22]
  refine ⟨fun dd hd => ?_, p2⟩
  rcases Nat.lt_or_ge dd D with c | c
  · exact p1 dd (by omega)
  · have e : dd = D := by omega
    subst e
    obtain ⟨a1, a2⟩ := V1.1 rfl
    obtain ⟨b1, b2⟩ := V2.1 rfl
    have hn := dtN_le (b := b) (l := l) 20 (sk b l 0)
    refine ⟨by rw [a1, b1], fun r w g1 g2 => ?_⟩
    rw [b1, nI_toInt (by omega)] at g1
    rw [a2 r w (by omega) g2, b2 r w (by omega) g2]
    exact ⟨rfl, rcS_P w g2⟩
theorem RC_n2 {s m : LMem} {D l : Nat} {b : Nat → Int32} (hJ : y_J x_X s) (hD : (gI s 33 0 22).toNatClampNeg = D) (e22 : (gI m 33 0 22).toNatClampNeg = D + 1) (e21 : gI m 33 0 21 = gI s 33 0 21) (C : ctK (gI s 33 0 21).toNatClampNeg (gI s 33 0 22).toNatClampNeg s m) (U : cuK (gI s 33 0 21).toNatClampNeg (gI s 33 0 22).toNatClampNeg s m) (h : RC s) (V1 : tcV b l 2 D m) (V2 : tuV b l 2 D m) : RC m := by
  obtain ⟨p1, p2⟩ := RC_p hJ C U h
  unfold RC
  rw [e21, e22]
  refine ⟨p1, fun r hr => ?_⟩
  rcases Nat.lt_or_ge r D with c | c
  · exact p2 r (by omega)
  · have e : r = D := by omega
    subst e
    obtain ⟨a1, a2⟩ := V1.2 rfl
    obtain ⟨b1, b2⟩ := V2.2 rfl
    have hn := rnN_le (b := b) (l := l) 30 (sk b l 0)
    refine ⟨by rw [a1, b1], fun j g1 => ?_⟩
    rw [b1, nI_toInt (by omega)] at g1
    rw [a2 j (by omega), b2 j (by omega)]
theorem tcV_fr {W : List YW} {b : Nat → Int32} {l sort D : Nat} {s m : LMem} (F : y_Fr W s m) (h : (W.all fun w => !(Nat.beq w.1 4) && (!(Nat.beq w.1 6) && (!(Nat.beq w.1 13) && !(Nat.beq w.1 14)))) = true) (V : tcV b l sort D s) : tcV b l sort D m := by
  have a : ∀ k, (k = 4 ∨ k = 6 ∨ k = 13 ∨ k = 14) → (W.all fun w => !(Nat.beq w.1 k)) = true := fun k hk => List.all_eq_true.mpr fun w hw => by
    have g := List.all_eq_true.mp h w hw
    rcases hk with rfl | rfl | rfl | rfl
    · exact (qa_and g).1
    · exact (qa_and (qa_and g).2).1
    · exact (qa_and (qa_and (qa_and g).2).2).1
    · exact (qa_and (qa_and (qa_and g).2).2).2
  exact ⟨fun e => ⟨(fr_K F 4 (a 4 (by omega)) D 1).trans (V.1 e).1, fun r w g1 g2 => (fr_K F 6 (a 6 (by omega)) _ w).trans ((V.1 e).2 r w g1 g2)⟩, fun e => ⟨(fr_K F 13 (a 13 (by omega)) D 1).trans (V.2 e).1, fun j g1 => (fr_K F 14 (a 14 (by omega)) D j).trans ((V.2 e).2 j g1)⟩⟩
section PT
variable {s : LMem} {Q : LPost}
theorem prk_text0 (hJ : zK s) (h : ∀ v s1, y_J x_X s1 → (∀ i j, gI s1 65 i j = gI s 65 i j) → qC false 1200 236 [lR 33 (some 0), lI 0] s1 (prk s1 v) → Q (some (lI v)) s1) : qC false 1200 146 [lR 0 (some 0), lI 0] s Q := by
  obtain ⟨⟨J, l, h1, h2, h3, h4, h5, h6, h7, h8⟩, C⟩ := hJ
  have a0 := pr_text0 (s := s) (Q := fun r s1 => ∃ v, r = some (lI v) ∧ y_J x_X s1 ∧ (∀ i j, gI s1 65 i j = gI s 65 i j) ∧ qC false 1200 236 [lR 33 (some 0), lI 0] s1 (pr2 s1 v)) ⟨J, l, h1, h2, h3, h4, h5, h6, h7, h8⟩ (fun v s1 a b c => ⟨v, rfl, a, b, c⟩)
  have b0 := fr_con (d := 1200) (s := s) (As := [lR 0 (some 0), lI 0]) (y_all x_X_cl h_all0 yk_X11_text_1 (List.mem_of_getElem? (i := 100) rfl)) (by decide) rfl ⟨y_rcv, ⟨by decide, by decide⟩, trivial⟩ J
  have c0 := tc_110 (d := 1077) (s := s) J h2 h1 (tp_mk J h1 h5)
  refine qC_mono (qC_and (qC_and a0 b0) c0) fun r s1 q => ?_
  obtain ⟨⟨⟨v, rfl, J1, X1, c⟩, _, F1⟩, K1, V1⟩ := q
  rw [h6, h8] at K1
  have e33 : ∀ j, gI s1 33 0 j = gI s 33 0 j := fun j => fr_K F1 33 (by decide) 0 j
  have e34 : bS s1 = bC s := (funext fun j => fr_K F1 34 (by decide) 0 j).trans h4.symm
  refine h v s1 J1 X1 ?_
  have b2 := fr_con (d := 1200) (s := s1) (As := [lR 33 (some 0), lI 0]) h_X12_text_0 (by decide) rfl ⟨y_rcv, ⟨by decide, by decide⟩, trivial⟩ J1
  have c2 := tc_120 (d := 1077) (s := s1) J1 ((e33 2).trans h3) h1
  have d2 := tx_120 (d := 1077) (s := s1) J1 ((e33 2).trans h3) h1
  refine qC_mono (qC_and (qC_and (qC_and c b2) c2) d2) fun r s2 q => ?_
  obtain ⟨⟨⟨⟨er, z2, x2⟩, _, F2⟩, U2, V2⟩, w, ew, O2⟩ := q
  have evw : v = w := by
    have := er.symm.trans ew
    cases this
    rfl
  have C2 : ctK (gI s 33 0 21).toNatClampNeg (gI s 33 0 22).toNatClampNeg s s2 := ctK_tr K1 (fr_ct F2 (by decide +kernel))
  have U3 : cuK (gI s 33 0 21).toNatClampNeg (gI s 33 0 22).toNatClampNeg s s2 := cuK_tr (fr_cu F1 (by decide +kernel)) (by
    rw [e33, e33] at U2
    exact U2)
  refine ⟨er, ⟨z2, ?_⟩, x2⟩
  have lo := (J.1 33 0 21 (21, 21, 0, 4) (by decide) (by decide) (by decide)).1
  have lo : 0 ≤ (gI s 33 0 21).toInt := lo
  unfold tuO at O2
  rw [e33] at O2 V2
  rcases O2 with ⟨o1, o2, _, _, o5⟩ | ⟨_, _, _, o4⟩
  · have ne : v ≠ -1 := fun q => by
      rw [evw, o1] at q
      have := congrArg Int32.toInt q
      rw [show (-1 : Int32).toInt = -1 by decide] at this
      omega
    have n1 : some (lI v) ≠ some (lI (-1)) := fun q => by
      cases q
      exact ne rfl
    have n2 : r ≠ some (lI (-1)) := by
      rw [er]
      exact n1
    have V1 := V1 n1
    have V2 := V2 n2
    rw [h6] at V1
    rw [e34] at V2
    obtain ⟨D, hD2, hD⟩ := nI_up (hi := 3) lo (by omega) (by decide)
    have eD : (gI s 33 0 21).toNatClampNeg = D := by rw [hD, nI_clamp (by omega)]
    rw [eD] at V1 V2
    exact RC_n0 J eD (by rw [o5, hD, nI_1, nI_clamp (by omega)]) ((fr_k F2 33 0 22 (by decide +kernel)).trans (e33 22)) C2 U3 C (tcV_fr F2 (by decide +kernel) V1) V2
  · exact RC_k J o4 ((fr_k F2 33 0 22 (by decide +kernel)).trans (e33 22)) C2 U3 C
theorem prk_text1 (hJ : zK s) (h : ∀ v s1, y_J x_X s1 → (∀ i j, gI s1 65 i j = gI s 65 i j) → qC false 1200 236 [lR 33 (some 0), lI 1] s1 (prk s1 v) → Q (some (lI v)) s1) : qC false 1200 146 [lR 0 (some 0), lI 1] s Q := by
  obtain ⟨⟨J, l, h1, h2, h3, h4, h5, h6, h7, h8⟩, C⟩ := hJ
  have a0 := pr_text1 (s := s) (Q := fun r s1 => ∃ v, r = some (lI v) ∧ y_J x_X s1 ∧ (∀ i j, gI s1 65 i j = gI s 65 i j) ∧ qC false 1200 236 [lR 33 (some 0), lI 1] s1 (pr2 s1 v)) ⟨J, l, h1, h2, h3, h4, h5, h6, h7, h8⟩ (fun v s1 a b c => ⟨v, rfl, a, b, c⟩)
  have b0 := fr_con (d := 1200) (s := s) (As := [lR 0 (some 0), lI 1]) (y_all x_X_cl h_all0 yk_X11_text_2 (List.mem_of_getElem? (i := 1) rfl)) (by decide) rfl ⟨y_rcv, ⟨by decide, by decide⟩, trivial⟩ J
  have c0 := tc_111 (d := 1077) (s := s) J h2 h1 (tp_mk J h1 h5)
  refine qC_mono (qC_and (qC_and a0 b0) c0) fun r s1 q => ?_
  obtain ⟨⟨⟨v, rfl, J1, X1, c⟩, _, F1⟩, K1, V1⟩ := q
  rw [h6, h8] at K1
  have e33 : ∀ j, gI s1 33 0 j = gI s 33 0 j := fun j => fr_K F1 33 (by decide) 0 j
  have e34 : bS s1 = bC s := (funext fun j => fr_K F1 34 (by decide) 0 j).trans h4.symm
  refine h v s1 J1 X1 ?_
  have b2 := fr_con (d := 1200) (s := s1) (As := [lR 33 (some 0), lI 1]) h_X12_text_1 (by decide) rfl ⟨y_rcv, ⟨by decide, by decide⟩, trivial⟩ J1
  have c2 := tc_121 (d := 1077) (s := s1) J1 ((e33 2).trans h3) h1
  have d2 := tx_121 (d := 1077) (s := s1) J1 ((e33 2).trans h3) h1
  refine qC_mono (qC_and (qC_and (qC_and c b2) c2) d2) fun r s2 q => ?_
  obtain ⟨⟨⟨⟨er, z2, x2⟩, _, F2⟩, U2, V2⟩, w, ew, O2⟩ := q
  have evw : v = w := by
    have := er.symm.trans ew
    cases this
    rfl
  have C2 : ctK (gI s 33 0 21).toNatClampNeg (gI s 33 0 22).toNatClampNeg s s2 := ctK_tr K1 (fr_ct F2 (by decide +kernel))
  have U3 : cuK (gI s 33 0 21).toNatClampNeg (gI s 33 0 22).toNatClampNeg s s2 := cuK_tr (fr_cu F1 (by decide +kernel)) (by
    rw [e33, e33] at U2
    exact U2)
  refine ⟨er, ⟨z2, ?_⟩, x2⟩
  exact RC_k J ((fr_k F2 33 0 21 (by decide +kernel)).trans (e33 21)) ((fr_k F2 33 0 22 (by decide +kernel)).trans (e33 22)) C2 U3 C
theorem prk_text2 (hJ : zK s) (h : ∀ v s1, y_J x_X s1 → (∀ i j, gI s1 65 i j = gI s 65 i j) → qC false 1200 236 [lR 33 (some 0), lI 2] s1 (prk s1 v) → Q (some (lI v)) s1) : qC false 1200 146 [lR 0 (some 0), lI 2] s Q := by
  obtain ⟨⟨J, l, h1, h2, h3, h4, h5, h6, h7, h8⟩, C⟩ := hJ
  have a0 := pr_text2 (s := s) (Q := fun r s1 => ∃ v, r = some (lI v) ∧ y_J x_X s1 ∧ (∀ i j, gI s1 65 i j = gI s 65 i j) ∧ qC false 1200 236 [lR 33 (some 0), lI 2] s1 (pr2 s1 v)) ⟨J, l, h1, h2, h3, h4, h5, h6, h7, h8⟩ (fun v s1 a b c => ⟨v, rfl, a, b, c⟩)
  have b0 := fr_con (d := 1200) (s := s) (As := [lR 0 (some 0), lI 2]) (y_all x_X_cl h_all0 yk_X11_text_3 (List.mem_of_getElem? (i := 111) rfl)) (by decide) rfl ⟨y_rcv, ⟨by decide, by decide⟩, trivial⟩ J
  have c0 := tc_112 (d := 1077) (s := s) J h2 h1 (tp_mk J h1 h5)
  refine qC_mono (qC_and (qC_and a0 b0) c0) fun r s1 q => ?_
  obtain ⟨⟨⟨v, rfl, J1, X1, c⟩, _, F1⟩, K1, V1⟩ := q
  rw [h6, h8] at K1
  have e33 : ∀ j, gI s1 33 0 j = gI s 33 0 j := fun j => fr_K F1 33 (by decide) 0 j
  have e34 : bS s1 = bC s := (funext fun j => fr_K F1 34 (by decide) 0 j).trans h4.symm
  refine h v s1 J1 X1 ?_
  have b2 := fr_con (d := 1200) (s := s1) (As := [lR 33 (some 0), lI 2]) h_X12_text_2 (by decide) rfl ⟨y_rcv, ⟨by decide, by decide⟩, trivial⟩ J1
  have c2 := tc_122 (d := 1077) (s := s1) J1 ((e33 2).trans h3) h1
  have d2 := tx_122 (d := 1077) (s := s1) J1 ((e33 2).trans h3) h1
  refine qC_mono (qC_and (qC_and (qC_and c b2) c2) d2) fun r s2 q => ?_
  obtain ⟨⟨⟨⟨er, z2, x2⟩, _, F2⟩, U2, V2⟩, w, ew, O2⟩ := q
  have evw : v = w := by
    have := er.symm.trans ew
    cases this
    rfl
  have C2 : ctK (gI s 33 0 21).toNatClampNeg (gI s 33 0 22).toNatClampNeg s s2 := ctK_tr K1 (fr_ct F2 (by decide +kernel))
  have U3 : cuK (gI s 33 0 21).toNatClampNeg (gI s 33 0 22).toNatClampNeg s s2 := cuK_tr (fr_cu F1 (by decide +kernel)) (by
    rw [e33, e33] at U2
    exact U2)
  refine ⟨er, ⟨z2, ?_⟩, x2⟩
  have lo := (J.1 33 0 22 (22, 22, 0, 4) (by decide) (by decide) (by decide)).1
  have lo : 0 ≤ (gI s 33 0 22).toInt := lo
  unfold tuO at O2
  rw [e33] at O2 V2
  rcases O2 with ⟨o1, o2, _, _, o5⟩ | ⟨_, _, _, o4⟩
  · have ne : v ≠ -1 := fun q => by
      rw [evw, o1] at q
      have := congrArg Int32.toInt q
      rw [show (-1 : Int32).toInt = -1 by decide] at this
      omega
    have n1 : some (lI v) ≠ some (lI (-1)) := fun q => by
      cases q
      exact ne rfl
    have n2 : r ≠ some (lI (-1)) := by
      rw [er]
      exact n1
    have V1 := V1 n1
    have V2 := V2 n2
    rw [h8] at V1
    rw [e34] at V2
    obtain ⟨D, hD2, hD⟩ := nI_up (hi := 3) lo (by omega) (by decide)
    have eD : (gI s 33 0 22).toNatClampNeg = D := by rw [hD, nI_clamp (by omega)]
    rw [eD] at V1 V2
    exact RC_n2 J eD (by rw [o5, hD, nI_1, nI_clamp (by omega)]) ((fr_k F2 33 0 21 (by decide +kernel)).trans (e33 21)) C2 U3 C (tcV_fr F2 (by decide +kernel) V1) V2
  · exact RC_k J ((fr_k F2 33 0 21 (by decide +kernel)).trans (e33 21)) o4 C2 U3 C
theorem prk_text {p : Int32} (hJ : zK s) (h : ∀ v s1, y_J x_X s1 → (∀ i j, gI s1 65 i j = gI s 65 i j) → (∀ p', p' = p → qC false 1200 236 [lR 33 (some 0), lI p'] s1 (prk s1 v)) → Q (some (lI v)) s1) : qC false 1200 146 [lR 0 (some 0), lI p] s Q := by
  by_cases c0 : p = 0
  · subst c0
    exact prk_text0 hJ fun v s1 J1 X1 c => h v s1 J1 X1 fun p' ep => by
      subst ep
      exact c
  by_cases c1 : p = 1
  · subst c1
    exact prk_text1 hJ fun v s1 J1 X1 c => h v s1 J1 X1 fun p' ep => by
      subst ep
      exact c
  by_cases c2 : p = 2
  · subst c2
    exact prk_text2 hJ fun v s1 J1 X1 c => h v s1 J1 X1 fun p' ep => by
      subst ep
      exact c
  refine qC_mono (tx_11N (d := 1077) c0 c1 c2) fun r m q => ?_
  obtain ⟨rfl, rfl⟩ := q
  refine h _ m hJ.1.1 (fun _ _ => rfl) fun p' ep => ?_
  subst ep
  refine qC_mono (tx_12N (d := 1077) c0 c1 c2) fun r m' q => ?_
  obtain ⟨rfl, rfl⟩ := q
  exact ⟨rfl, hJ, fun _ _ => rfl⟩
end PT
/-! rain: what both sides answer. -/
def raO (kept : Int32) (n : Nat → Int32) (a : Nat → Nat → Int32) (r day v : Int32) : Prop := (¬ (0 ≤ r.toInt ∧ r.toInt < kept.toInt) ∧ v = -1) ∨ ((0 ≤ r.toInt ∧ r.toInt < kept.toInt) ∧ ((day = -1 ∧ v = n r.toNatClampNeg) ∨ (¬ day = -1 ∧ (0 ≤ day.toInt ∧ day.toInt < (n r.toNatClampNeg).toInt) ∧ v = a r.toNatClampNeg day.toNatClampNeg) ∨ (¬ day = -1 ∧ ¬ (0 ≤ day.toInt ∧ day.toInt < (n r.toNatClampNeg).toInt) ∧ v = -1)))
theorem raO_det {kept : Int32} {n n2 : Nat → Int32} {a a2 : Nat → Nat → Int32} {r day v w : Int32} (hn : (0 ≤ r.toInt ∧ r.toInt < kept.toInt) → n r.toNatClampNeg = n2 r.toNatClampNeg ∧ (0 ≤ day.toInt → day.toInt < (n2 r.toNatClampNeg).toInt → a r.toNatClampNeg day.toNatClampNeg = a2 r.toNatClampNeg day.toNatClampNeg)) (h1 : raO kept n a r day v) (h2 : raO kept n2 a2 r day w) : v = w := by
  rcases h1 with ⟨c, rfl⟩ | ⟨c, h1⟩
  · rcases h2 with ⟨c2, rfl⟩ | ⟨c2, h2⟩
    · rfl
    · exact absurd c2 c
  · rcases h2 with ⟨c2, rfl⟩ | ⟨c2, h2⟩
    · exact absurd c c2
    · obtain ⟨e1, e2⟩ := hn c
      rw [e1] at h1
      rcases h1 with ⟨d1, rfl⟩ | ⟨d1, d2, rfl⟩ | ⟨d1, d2, rfl⟩
      · rcases h2 with ⟨f1, rfl⟩ | ⟨f1, f2, rfl⟩ | ⟨f1, f2, rfl⟩
        · rfl
        · exact absurd d1 f1
        · exact absurd d1 f1
      · rcases h2 with ⟨f1, rfl⟩ | ⟨f1, f2, rfl⟩ | ⟨f1, f2, rfl⟩
        · exact absurd f1 d1
        · exact e2 d2.1 d2.2
        · exact absurd d2 f2
      · rcases h2 with ⟨f1, rfl⟩ | ⟨f1, f2, rfl⟩ | ⟨f1, f2, rfl⟩
        · exact absurd f1 d1
        · exact absurd f2 d2
        · rfl
section RA
variable {d : Nat} {s : LMem} {Q : LPost}
theorem ra_11 {r day : Int32} (hJ : y_J x_X s) : qC false (d + 10) 159 [lR 0 (some 0), lI r, lI day] s (fun x _ => ∃ v, x = some (lI v) ∧ raO (gI s 15 0 2) (fun i => gI s 13 i 1) (fun i j => gI s 14 i j) r day v) := by
  have b15 := bd15 (j := 2) (hi := 4) hJ (by decide)
  have on : ∀ i : Nat, (0 ≤ r.toInt ∧ r.toInt < (gI s 15 0 2).toInt) → i = r.toNatClampNeg → ¬ day = -1 → qC false (d + 9) 87 [lR 13 (some i), lI day] s (fun x _ => ∃ v, x = some (lI v) ∧ ∃ v', some (lI v) = some (lI v') ∧ raO (gI s 15 0 2) (fun i => gI s 13 i 1) (fun i j => gI s 14 i j) r day v') := fun i hr ei hd => by
    subst ei
    have no : ¬ (0 ≤ day.toInt ∧ day.toInt < (gI s 13 r.toNatClampNeg 1).toInt) → ∃ v, some (lI (-1)) = some (lI v) ∧ ∃ v', some (lI v) = some (lI v') ∧ raO (gI s 15 0 2) (fun i => gI s 13 i 1) (fun i j => gI s 14 i j) r day v' := fun c => ⟨_, rfl, _, rfl, Or.inr ⟨hr, Or.inr (Or.inr ⟨hd, c, rfl⟩)⟩⟩
    have n30 : (gI s 13 r.toNatClampNeg 1).toInt ≤ 30 := (hJ.1 13 r.toNatClampNeg 1 (1, 1, 0, 30) (by decide) (by decide) (by decide)).2
    refine qC_of rfl rfl ?_
    refine qa_t1_W (cut := []) 40 ?_
    refine And.intro (fun c => ?_) (fun c => ?_)
    · have c := Int32.lt_iff_toInt_lt.mp c
      rw [i32_0'] at c
      exact no (fun q => by omega)
    · have c : ¬ day < 0 := c
      have c : ¬ day.toInt < (0 : Int32).toInt := fun q => c (Int32.lt_iff_toInt_lt.mpr q)
      rw [i32_0'] at c
      refine And.intro (fun c2 => ?_) (fun c2 => ?_)
      · have c2 := Int32.lt_iff_toInt_lt.mp c2
        have c2 : day.toInt < (gI s 13 r.toNatClampNeg 1).toInt := c2
        have l30 : day < 30 := Int32.lt_iff_toInt_lt.mpr (show day.toInt < 30 by omega)
        refine And.intro (fun _ => ?_) (fun q => absurd l30 q)
        exact And.intro (vin_of (by omega) (show day.toInt < ((30 : Nat) : Int) by omega) (by decide)) ⟨_, rfl, _, rfl, Or.inr ⟨hr, Or.inr (Or.inl ⟨hd, ⟨by omega, c2⟩, rfl⟩)⟩⟩
      · have c2 : ¬ day < gI s 13 r.toNatClampNeg 1 := c2
        have c2 : ¬ day.toInt < (gI s 13 r.toNatClampNeg 1).toInt := fun q => c2 (Int32.lt_iff_toInt_lt.mpr q)
        exact no (fun q => c2 q.2)
  refine qC_of rfl rfl ?_
  refine qa_t1_W (cut := []) 60 ?_
  refine h_findRain hJ (fun x1 x2 => Or.inr (Exists.intro _ (And.intro rfl ?_))) (fun xn => Or.inl (And.intro rfl ?_))
  · refine And.intro (fun e => ?_) (fun e => ?_)
    · refine qC_of rfl rfl ?_
      refine qa_t1_W (cut := []) 20 ?_
      exact ⟨_, rfl, _, rfl, Or.inr ⟨⟨x1, x2⟩, Or.inl ⟨e, rfl⟩⟩⟩
    · exact on _ ⟨x1, x2⟩ rfl e
  · exact ⟨_, rfl, Or.inl ⟨xn, rfl⟩⟩
theorem ra_12 {r day : Int32} (hJ : y_J x_X s) : qC false (d + 10) 241 [lR 33 (some 0), lI r, lI day] s (fun x _ => ∃ v, x = some (lI v) ∧ raO (gI s 33 0 22) (fun i => gI s 46 0 i) (fun i j => gI s 47 0 (30 * i + j)) r day v) := by
  obtain ⟨D, hD2, hD⟩ := y_nIof2 (N := 4) (x := gI s 33 0 22) (hJ.1 33 0 22 (22, 22, 0, 4) (by decide) (by decide) (by decide)).1 (hJ.1 33 0 22 (22, 22, 0, 4) (by decide) (by decide) (by decide)).2
  have tD : (gI s 33 0 22).toInt = D := by rw [hD, nI_toInt (by omega)]
  refine qC_of rfl rfl ?_
  refine qa_t1_W (cut := []) 80 ?_
  refine h_isR2 hD (by omega) (fun x1 x2 => Exists.intro 1 (And.intro rfl ?_)) (fun xn => Exists.intro 0 (And.intro rfl ?_))
  · have v5 : qa_vin r 5 := vin_of x1 (show r.toInt < ((5 : Nat) : Int) by omega) (by decide)
    obtain ⟨i, hi, ei⟩ := nI_up (hi := 3) x1 (by omega) (by decide)
    have ci : r.toNatClampNeg = i := by rw [ei, nI_clamp (by omega)]
    obtain ⟨n, hn2, hn⟩ := y_nIof2 (N := 30) (x := gI s 46 0 r.toNatClampNeg) (hJ.1 46 0 r.toNatClampNeg (0, 4, 0, 30) (by decide) (by show (0 : Int) ≤ (r.toNatClampNeg : Int); omega) (by show (r.toNatClampNeg : Int) ≤ 4; omega)).1 (hJ.1 46 0 r.toNatClampNeg (0, 4, 0, 30) (by decide) (by show (0 : Int) ≤ (r.toNatClampNeg : Int); omega) (by show (r.toNatClampNeg : Int) ≤ 4; omega)).2
    have tn : (gI s 46 0 r.toNatClampNeg).toInt = n := by rw [hn, nI_toInt (by omega)]
    refine And.intro (fun q => absurd q (by decide)) (fun _ => ?_)
    refine And.intro (fun e => ?_) (fun e => ?_)
    · exact And.intro v5 ⟨_, rfl, Or.inr ⟨⟨x1, x2⟩, Or.inl ⟨e, rfl⟩⟩⟩
    · refine And.intro v5 ?_
      have e1 := x_sub1 (D := n) (by omega)
      have main : ∀ K : LPost, ((0 ≤ day.toInt ∧ day.toInt < (gI s 46 0 r.toNatClampNeg).toInt) → K (some (lI 1)) s) → (¬ (0 ≤ day.toInt ∧ day.toInt < (gI s 46 0 r.toNatClampNeg).toInt) → K (some (lI 0)) s) → qC false (d + 9) 198 [lI day, lI 0, lI (gI s 46 0 r.toNatClampNeg - 1)] s K := fun K k1 k0 => by
        rw [tn] at k1 k0
        rw [hn]
        refine h_in (fun g1 g2 => k1 ⟨g1, by rw [e1] at g2; omega⟩) (fun g => k0 (fun q => g ⟨q.1, by rw [e1]; omega⟩))
      refine main _ (fun c => Exists.intro 1 (And.intro rfl ?_)) (fun c => Exists.intro 0 (And.intro rfl ?_))
      · refine And.intro (fun q => absurd q (by decide)) (fun _ => ?_)
        obtain ⟨j, hj, ej⟩ := nI_up (hi := 29) c.1 (by have := c.2; omega) (by decide)
        have cj : day.toNatClampNeg = j := by rw [ej, nI_clamp (by omega)]
        have ix : (30 : Int32) * r + day = nI (30 * i + j) := by rw [ei, ej, show (30 : Int32) = nI 30 from rfl, nI_mul, nI_add]
        have v150 : qa_vin ((30 : Int32) * r + day) 150 := by rw [ix]; exact nI_in (by omega) (by decide)
        have fin : ∃ v, some (lI (gI s 47 0 ((30 : Int32) * r + day).toNatClampNeg)) = some (lI v) ∧ raO (gI s 33 0 22) (fun i => gI s 46 0 i) (fun i j => gI s 47 0 (30 * i + j)) r day v := by
          refine ⟨_, rfl, Or.inr ⟨⟨x1, x2⟩, Or.inr (Or.inl ⟨e, c, ?_⟩)⟩⟩
          show gI s 47 0 ((30 : Int32) * r + day).toNatClampNeg = gI s 47 0 (30 * r.toNatClampNeg + day.toNatClampNeg)
          rw [ix, nI_clamp (by omega), ci, cj]
        exact And.intro v150 fin
      · exact And.intro (fun _ => ⟨_, rfl, Or.inr ⟨⟨x1, x2⟩, Or.inr (Or.inr ⟨e, c, rfl⟩)⟩⟩) (fun q => absurd rfl q)
  · exact And.intro (fun _ => ⟨_, rfl, Or.inl ⟨xn, rfl⟩⟩) (fun q => absurd rfl q)
theorem prk_rain {a b : Int32} (hJ : zK s) (h : ∀ v s1, y_J x_X s1 → (∀ i j, gI s1 65 i j = gI s 65 i j) → (∀ a' b', a' = a → b' = b → qC false 1200 241 [lR 33 (some 0), lI a', lI b'] s1 (prk s1 v)) → Q (some (lI v)) s1) : qC false 1200 159 [lR 0 (some 0), lI a, lI b] s Q := by
  have a0 := ra_11 (d := 1190) (r := a) (day := b) (s := s) hJ.1.1
  have b0 : qC false 1200 159 [lR 0 (some 0), lI a, lI b] s (fun _ m => zK m ∧ ∀ i j, gI m 65 i j = gI s 65 i j) := sfk_X11_rain a b hJ fun v s' z x => ⟨z, x⟩
  have c0 := fr_con (d := 1200) (s := s) (As := [lR 0 (some 0), lI a, lI b]) (y_all x_X_cl h_all0 yk_X11_rain (List.mem_of_getElem? (i := 191) rfl)) (by decide) rfl ⟨y_rcv, z_in_top _, z_in_top _, trivial⟩ hJ.1.1
  refine qC_mono (qC_and (qC_and a0 b0) c0) fun r s1 q => ?_
  obtain ⟨⟨⟨v, rfl, O⟩, z1, x1⟩, _, F1⟩ := q
  refine h v s1 z1.1.1 x1 fun a' b' ea eb => ?_
  subst ea eb
  have a2 := ra_12 (d := 1190) (r := a') (day := b') (s := s1) z1.1.1
  have b2 : qC false 1200 241 [lR 33 (some 0), lI a', lI b'] s1 (fun _ m => zK m ∧ ∀ i j, gI m 65 i j = gI s1 65 i j) := sfk_X12_rain a' b' z1 fun v s' z x => ⟨z, x⟩
  refine qC_mono (qC_and a2 b2) fun r s2 q => ?_
  obtain ⟨⟨w, rfl, O2⟩, z2, x2⟩ := q
  obtain ⟨⟨_, _, _, _, _, _, _, _, _, e22⟩, C⟩ := z1
  have g : ∀ k i j, gI s k i j = gI s1 k i j := fun k i j => ((F1 k i j (fun ⟨w, hw, _⟩ => absurd hw List.not_mem_nil)).1).symm
  rw [← e22] at O2
  simp only [g] at O
  have J1 : y_J x_X s1 := ‹y_J x_X s1›
  have key : (0 ≤ a'.toInt ∧ a'.toInt < (gI s1 15 0 2).toInt) → gI s1 13 a'.toNatClampNeg 1 = gI s1 46 0 a'.toNatClampNeg ∧ (0 ≤ b'.toInt → b'.toInt < (gI s1 46 0 a'.toNatClampNeg).toInt → gI s1 14 a'.toNatClampNeg b'.toNatClampNeg = gI s1 47 0 (30 * a'.toNatClampNeg + b'.toNatClampNeg)) := fun c => by
    rw [e22] at c
    obtain ⟨i, hi, ei⟩ := nI_up (hi := 3) c.1 (by have := (z2.1.1.1 33 0 22 (22, 22, 0, 4) (by decide) (by decide) (by decide)).2; have h4 : (gI s1 33 0 22).toInt ≤ 4 := (J1.1 33 0 22 (22, 22, 0, 4) (by decide) (by decide) (by decide)).2; omega) (by decide)
    have ci : a'.toNatClampNeg = i := by rw [ei, nI_clamp (by omega)]
    have tc : a'.toInt = (i : Int) := by rw [ei, nI_toInt (by omega)]
    have cc := cl_i (x := gI s1 33 0 22) (hi := 4) (by omega) (J1.1 33 0 22 (22, 22, 0, 4) (by decide) (by decide) (by decide)).2
    obtain ⟨D, hD2, hD⟩ := nI_up (x := gI s1 33 0 22) (hi := 4) (by omega) (J1.1 33 0 22 (22, 22, 0, 4) (by decide) (by decide) (by decide)).2 (by decide)
    have eD : (gI s1 33 0 22).toNatClampNeg = D := by rw [hD, nI_clamp (by omega)]
    have tD : (gI s1 33 0 22).toInt = (D : Int) := by rw [hD, nI_toInt (by omega)]
    obtain ⟨k1, k2⟩ := C.2 a'.toNatClampNeg (by rw [ci, eD]; omega)
    exact ⟨k1, fun d1 d2 => k2 b'.toNatClampNeg (by
      have e : b' = nI b'.toInt.toNat := Int32.toInt_inj.mp (by rw [nI_toInt (by have := Int32.toInt_lt b'; omega)]; omega)
      have c : b'.toNatClampNeg = b'.toInt.toNat := by
        rw [e, nI_clamp (by have := Int32.toInt_lt b'; omega), ← e]
      rw [c]
      omega)⟩
  exact ⟨by rw [raO_det key O O2], z2, x2⟩
end RA
/-! reach of the reference, by value. -/
def rhP (kept : Int32) (n : Nat → Int32) (e r w : Int32) : Prop := (0 ≤ e.toInt ∧ e.toInt < kept.toInt) ∧ ((r = -1 ∧ w = 0) ∨ (¬ r = -1 ∧ (0 ≤ r.toInt ∧ r.toInt < (n e.toNatClampNeg).toInt) ∧ (0 ≤ w.toInt ∧ w.toInt ≤ 4)))
def rhO (s m : LMem) (e r w v : Int32) : Prop := (rhP (gI s 33 0 21) (fun i => gI s 44 0 i) e r w ∧ gI m 33 0 0 = 0 ∧ ((r = -1 ∧ v = gI s 44 0 e.toNatClampNeg) ∨ (¬ r = -1 ∧ v = gI s 45 0 (100 * e.toNatClampNeg + 5 * r.toNatClampNeg + w.toNatClampNeg)))) ∨ (¬ rhP (gI s 33 0 21) (fun i => gI s 44 0 i) e r w ∧ gI m 33 0 0 = 1 ∧ v = 0)
section RH
variable {d : Nat} {s : LMem} {Q : LPost}
theorem rh_50a {e r w : Int32} (hn : ¬ rhP (gI s 33 0 21) (fun i => gI s 44 0 i) e r w) : qW false (d + 9) 240 0 0 50 [some (lR 33 (some 0)), some (lI e), some (lI r), some (lI w), none] [lI 0] s (fun x m => ∃ v, x = some (lI v) ∧ rhO s m e r w v) := by
  have fin : ∃ v, some (lI (0 : Int32)) = some (lI v) ∧ rhO s (sI s 33 0 0 1) e r w v := ⟨0, rfl, Or.inr ⟨hn, by rw [gI_sI, if_pos ⟨rfl, rfl, rfl⟩], rfl⟩⟩
  refine qa_t1_W (cut := []) 60 ?_
  refine And.intro (fun _ => ?_) (fun q => absurd rfl q)
  refine And.intro (fun _ => fin) (fun q => absurd rfl q)
theorem rh_50b {e r w : Int32} (hJ : y_J x_X s) (hn : rhP (gI s 33 0 21) (fun i => gI s 44 0 i) e r w) : qW false (d + 9) 240 0 0 50 [some (lR 33 (some 0)), some (lI e), some (lI r), some (lI w), none] [lI 1] s (fun x m => ∃ v, x = some (lI v) ∧ rhO s m e r w v) := by
  have b21 : (gI s 33 0 21).toInt ≤ 4 := (hJ.1 33 0 21 (21, 21, 0, 4) (by decide) (by decide) (by decide)).2
  obtain ⟨i, hi, ei⟩ := nI_up (hi := 3) hn.1.1 (by have := hn.1.2; omega) (by decide)
  have ci : e.toNatClampNeg = i := by rw [ei, nI_clamp (by omega)]
  have v5 : qa_vin e 5 := by rw [ei]; exact nI_in (by omega) (by decide)
  have n20 : (gI s 44 0 e.toNatClampNeg).toInt ≤ 20 := (hJ.1 44 0 e.toNatClampNeg (0, 4, 0, 20) (by decide) (by show (0 : Int) ≤ (e.toNatClampNeg : Int); omega) (by show (e.toNatClampNeg : Int) ≤ 4; omega)).2
  have t0 : gI (sI s 33 0 0 0) 33 0 0 = 0 := by rw [gI_sI, if_pos ⟨rfl, rfl, rfl⟩]
  have g : ∀ k j, k ≠ 33 → gI (sI s 33 0 0 0) k 0 j = gI s k 0 j := fun k j hk => by rw [gI_sI, if_neg (fun q => hk q.1)]
  have fin1 : r = -1 → ∃ v, some (lI (gI (sI s 33 0 0 0) 44 0 e.toNatClampNeg)) = some (lI v) ∧ rhO s (sI s 33 0 0 0) e r w v := fun c => ⟨_, rfl, Or.inl ⟨hn, t0, Or.inl ⟨c, g 44 _ (by decide)⟩⟩⟩
  have fin2 : ¬ r = -1 → qa_vin ((5 : Int32) * ((20 : Int32) * e + r) + w) 500 ∧ ∃ v, some (lI (gI (sI s 33 0 0 0) 45 0 ((5 : Int32) * ((20 : Int32) * e + r) + w).toNatClampNeg)) = some (lI v) ∧ rhO s (sI s 33 0 0 0) e r w v := fun c => by
    have h2 := hn.2
    have h2 : (0 ≤ r.toInt ∧ r.toInt < (gI s 44 0 e.toNatClampNeg).toInt) ∧ (0 ≤ w.toInt ∧ w.toInt ≤ 4) := by
      rcases h2 with ⟨q, _⟩ | ⟨_, q⟩
      · exact absurd q c
      · exact q
    obtain ⟨a, ha, ea⟩ := nI_up (hi := 19) h2.1.1 (by omega) (by decide)
    obtain ⟨z, hz, ez⟩ := nI_up (hi := 4) h2.2.1 (by omega) (by decide)
    have ca : r.toNatClampNeg = a := by rw [ea, nI_clamp (by omega)]
    have cz : w.toNatClampNeg = z := by rw [ez, nI_clamp (by omega)]
    have ix : (5 : Int32) * ((20 : Int32) * e + r) + w = nI (100 * i + 5 * a + z) := by
      rw [ei, ea, ez, show (20 : Int32) = nI 20 from rfl, show (5 : Int32) = nI 5 from rfl, nI_mul, nI_add, nI_mul, nI_add, show 5 * (20 * i + a) + z = 100 * i + 5 * a + z by omega]
    refine ⟨by rw [ix]; exact nI_in (by omega) (by decide), _, rfl, Or.inl ⟨hn, t0, Or.inr ⟨c, ?_⟩⟩⟩
    rw [g 45 _ (by decide), ix, nI_clamp (by omega), ci, ca, cz]
  refine qa_t1_W (cut := []) 80 ?_
  refine And.intro (fun q => absurd q (by decide)) (fun _ => ?_)
  refine And.intro (fun q => absurd q (by decide)) (fun _ => ?_)
  refine And.intro (fun c => ?_) (fun c => ?_)
  · exact And.intro v5 (fin1 c)
  · exact fin2 c
theorem rh_12 {e r w : Int32} (hJ : y_J x_X s) : qC false (d + 10) 240 [lR 33 (some 0), lI e, lI r, lI w] s (fun x m => ∃ v, x = some (lI v) ∧ rhO s m e r w v) := by
  obtain ⟨D, hD2, hD⟩ := y_nIof2 (N := 4) (x := gI s 33 0 21) (hJ.1 33 0 21 (21, 21, 0, 4) (by decide) (by decide) (by decide)).1 (hJ.1 33 0 21 (21, 21, 0, 4) (by decide) (by decide) (by decide)).2
  have tD : (gI s 33 0 21).toInt = D := by rw [hD, nI_toInt (by omega)]
  refine qC_of rfl rfl ?_
  refine qa_t1_W (cut := [50]) 80 ?_
  refine h_isD2 hD (by omega) (fun x1 x2 => Exists.intro 1 (And.intro rfl ?_)) (fun xn => Exists.intro 0 (And.intro rfl ?_))
  · have v5 : qa_vin e 5 := vin_of x1 (show e.toInt < ((5 : Nat) : Int) by omega) (by decide)
    obtain ⟨i, hi, ei⟩ := nI_up (hi := 3) x1 (by omega) (by decide)
    have ci : e.toNatClampNeg = i := by rw [ei, nI_clamp (by omega)]
    obtain ⟨n, hn2, hn⟩ := y_nIof2 (N := 20) (x := gI s 44 0 e.toNatClampNeg) (hJ.1 44 0 e.toNatClampNeg (0, 4, 0, 20) (by decide) (by show (0 : Int) ≤ (e.toNatClampNeg : Int); omega) (by show (e.toNatClampNeg : Int) ≤ 4; omega)).1 (hJ.1 44 0 e.toNatClampNeg (0, 4, 0, 20) (by decide) (by show (0 : Int) ≤ (e.toNatClampNeg : Int); omega) (by show (e.toNatClampNeg : Int) ≤ 4; omega)).2
    have tn : (gI s 44 0 e.toNatClampNeg).toInt = n := by rw [hn, nI_toInt (by omega)]
    have e1 := x_sub1 (D := n) (by omega)
    have main : ∀ K : LPost, ((0 ≤ r.toInt ∧ r.toInt < (gI s 44 0 e.toNatClampNeg).toInt) → K (some (lI 1)) s) → (¬ (0 ≤ r.toInt ∧ r.toInt < (gI s 44 0 e.toNatClampNeg).toInt) → K (some (lI 0)) s) → qC false (d + 9) 198 [lI r, lI 0, lI (gI s 44 0 e.toNatClampNeg - 1)] s K := fun K k1 k0 => by
      rw [tn] at k1 k0
      rw [hn]
      exact h_in (fun g1 g2 => k1 ⟨g1, by rw [e1] at g2; omega⟩) (fun g => k0 (fun q => g ⟨q.1, by rw [e1]; omega⟩))
    refine And.intro (fun q => absurd q (by decide)) (fun _ => ?_)
    refine And.intro (fun c => ?_) (fun c => ?_)
    · refine And.intro (fun cw => ?_) (fun cw => ?_)
      · exact rh_50b hJ ⟨⟨x1, x2⟩, Or.inl ⟨c, cw⟩⟩
      · exact rh_50a (fun q => q.2.elim (fun q => cw q.2) (fun q => q.1 c))
    · refine And.intro v5 ?_
      refine main _ (fun cr => Exists.intro 1 (And.intro rfl ?_)) (fun cr => Exists.intro 0 (And.intro rfl ?_))
      · refine And.intro (fun q => absurd q (by decide)) (fun _ => ?_)
        refine h_in (fun g1 g2 => Exists.intro 1 (And.intro rfl ?_)) (fun gw => Exists.intro 0 (And.intro rfl ?_))
        · exact And.intro (fun q => absurd q (by decide)) (fun _ => rh_50b hJ ⟨⟨x1, x2⟩, Or.inr ⟨c, cr, ⟨g1, g2⟩⟩⟩)
        · exact And.intro (fun _ => rh_50a (fun q => q.2.elim (fun q => c q.1) (fun q => gw ⟨q.2.2.1, q.2.2.2⟩))) (fun q => absurd rfl q)
      · exact And.intro (fun _ => rh_50a (fun q => q.2.elim (fun q => c q.1) (fun q => cr q.2.1))) (fun q => absurd rfl q)
  · exact And.intro (fun _ => rh_50a (fun q => xn q.1)) (fun q => absurd rfl q)
end RH
/-! reach: both sides in a row. -/
section PR
variable {s : LMem} {Q : LPost}
theorem rk_ok {e r w : Int32} (hJ : zK s) : qa_rOK s e r w ↔ rhP (gI s 33 0 21) (fun i => gI s 44 0 i) e r w := by
  obtain ⟨⟨J, l, _, _, _, _, _, h6, _, _⟩, C⟩ := hJ
  have k := kD J
  have b21 : (gI s 33 0 21).toInt ≤ 4 := (J.1 33 0 21 (21, 21, 0, 4) (by decide) (by decide) (by decide)).2
  have t0 : (0 : Int32).toInt = 0 := by decide
  have t5 : (5 : Int32).toInt = 5 := by decide
  have t20 : (20 : Int32).toInt = 20 := by decide
  have dd : 0 ≤ e.toInt → e.toInt < (gI s 33 0 21).toInt → e.toNatClampNeg < (gI s 33 0 21).toNatClampNeg ∧ (gI s 44 0 e.toNatClampNeg).toInt ≤ 20 := fun a b => by
    obtain ⟨i, hi, ei⟩ := nI_up (hi := 3) a (by omega) (by decide)
    obtain ⟨D, hD, eD⟩ := nI_up (x := gI s 33 0 21) (hi := 4) (by omega) (by omega) (by decide)
    have ti : e.toInt = i := by rw [ei, nI_toInt (by omega)]
    have tD : (gI s 33 0 21).toInt = D := by rw [eD, nI_toInt (by omega)]
    have ci : e.toNatClampNeg = i := by rw [ei, nI_clamp (by omega)]
    refine ⟨by rw [ci, eD, nI_clamp (by omega)]; omega, (J.1 44 0 e.toNatClampNeg (0, 4, 0, 20) (by decide) (by show (0 : Int) ≤ (e.toNatClampNeg : Int); omega) (by show (e.toNatClampNeg : Int) ≤ 4; omega)).2⟩
  unfold qa_rOK
  rw [h6]
  constructor
  · rintro ⟨⟨a1, a2, a3⟩, a4⟩
    have a1 := Int32.le_iff_toInt_le.mp a1
    have a3 := Int32.lt_iff_toInt_lt.mp a3
    rw [t0] at a1
    obtain ⟨c1, c2⟩ := dd a1 a3
    refine ⟨⟨a1, a3⟩, ?_⟩
    rcases a4 with a4 | ⟨b1, b2, b3, b4, b5, b6⟩
    · exact Or.inl a4
    · have b1 := Int32.le_iff_toInt_le.mp b1
      have b2 := Int32.lt_iff_toInt_lt.mp b2
      have b4 := Int32.le_iff_toInt_le.mp b4
      have b5 := Int32.lt_iff_toInt_lt.mp b5
      rw [t0] at b1 b4
      rw [t5] at b5
      rw [(C.1 _ c1).1] at b2
      exact Or.inr ⟨fun q => by rw [q] at b1; exact absurd b1 (by decide), ⟨b1, b2⟩, ⟨b4, by omega⟩⟩
  · rintro ⟨⟨a1, a3⟩, a4⟩
    obtain ⟨c1, c2⟩ := dd a1 a3
    obtain ⟨g1, g2⟩ := C.1 _ c1
    refine ⟨⟨Int32.le_iff_toInt_le.mpr (by rw [t0]; exact a1), Int32.lt_iff_toInt_lt.mpr (by rw [t5]; omega), Int32.lt_iff_toInt_lt.mpr a3⟩, ?_⟩
    rcases a4 with a4 | ⟨b0, ⟨b1, b2⟩, b4, b5⟩
    · exact Or.inl a4
    · have b2 : r.toInt < (gI s 44 0 e.toNatClampNeg).toInt := b2
      obtain ⟨i, hi, ei⟩ := nI_up (hi := 19) b1 (by omega) (by decide)
      obtain ⟨z, hz, ez⟩ := nI_up (hi := 4) b4 (by omega) (by decide)
      have ti : r.toInt = i := by rw [ei, nI_toInt (by omega)]
      have ci : r.toNatClampNeg = i := by rw [ei, nI_clamp (by omega)]
      have cz : w.toNatClampNeg = z := by rw [ez, nI_clamp (by omega)]
      obtain ⟨f1, f2⟩ := g2 i z (by omega) (by omega)
      refine Or.inr ⟨Int32.le_iff_toInt_le.mpr (by rw [t0]; exact b1), Int32.lt_iff_toInt_lt.mpr (by rw [g1]; exact b2), Int32.lt_iff_toInt_lt.mpr (by rw [t20]; omega), Int32.le_iff_toInt_le.mpr (by rw [t0]; exact b4), Int32.lt_iff_toInt_lt.mpr (by rw [t5]; omega), ?_⟩
      rw [ci, cz, f1]
      intro q
      rw [q] at f2
      exact absurd f2 (by decide)
theorem zK_L {x : Int64} (hJ : zK s) : zK (sL s 58 0 0 x) := ⟨⟨⟨fun k i j r hr g1 g2 => hJ.1.1.1 k i j r hr g1 g2, ⟨fun i q hq => hJ.1.1.2.1.1 i q hq, fun i q hq => hJ.1.1.2.1.2.1 i q hq, fun i q hq => hJ.1.1.2.1.2.2.1 i q hq, fun i q hq => hJ.1.1.2.1.2.2.2 i q hq⟩, x_X_cl s _ (fun _ _ _ _ => rfl) hJ.1.1.2.2⟩, hJ.1.2⟩, hJ.2⟩
/-- the second call behind the first: k says whether the first threw -/
abbrev prr (s1 : LMem) (k : Int32) : LPost := fun r s2 => ∃ v, r = some (lI v) ∧ zK s2 ∧ (∀ i j, gI s2 65 i j = gI s1 65 i j) ∧ gI s2 33 0 0 = k ∧ (k = 0 → gL s2 58 0 0 = v.toInt64)
theorem rr_2 {a b c : Int32} {s1 : LMem} (z : zK s1) : qC false 1200 240 [lR 33 (some 0), lI a, lI b, lI c] s1 (fun r s2 => ∃ v, r = some (lI v) ∧ rhO s1 s2 a b c v ∧ zK s2 ∧ (∀ i j, gI s2 65 i j = gI s1 65 i j) ∧ gL s2 58 0 0 = gL s1 58 0 0) := by
  have a2 := rh_12 (d := 1190) (e := a) (r := b) (w := c) (s := s1) z.1.1
  have b2 : qC false 1200 240 [lR 33 (some 0), lI a, lI b, lI c] s1 (fun _ m => zK m ∧ ∀ i j, gI m 65 i j = gI s1 65 i j) := sfk_X12_reach a b c z fun v s' z x => ⟨z, x⟩
  have c2 := fr_con (d := 1200) (s := s1) (As := [lR 33 (some 0), lI a, lI b, lI c]) (y_all x_X_cl h_all0 yk_X12_reach (List.mem_of_getElem? (i := 190) rfl)) (by decide) rfl ⟨y_rcv, z_in_top _, z_in_top _, z_in_top _, trivial⟩ z.1.1
  refine qC_mono (qC_and (qC_and a2 b2) c2) fun r s2 q => ?_
  obtain ⟨⟨⟨v, e, O⟩, z2, x2⟩, _, F⟩ := q
  refine ⟨v, e, O, z2, x2, (F 58 0 0 fun ⟨w, hw, e, _⟩ => ?_).2.1⟩
  have hw : w ∈ [((33 : Nat), (0 : Int), (0 : Int), (0 : Int), (0 : Int))] := hw
  rw [List.mem_singleton.mp hw] at e
  exact absurd e (by decide)
theorem rr_v {e r w v : Int32} {m : LMem} (hJ : zK s) (P : rhP (gI s 33 0 21) (fun i => gI s 44 0 i) e r w) (O : rhO s m e r w v) : gI m 33 0 0 = 0 ∧ qa_rV s e r w = v := by
  rcases O with ⟨_, o1, o2⟩ | ⟨n, _⟩
  · refine ⟨o1, ?_⟩
    have ok := (rk_ok hJ).mpr P
    obtain ⟨⟨J, _⟩, C⟩ := hJ
    have b21 : (gI s 33 0 21).toInt ≤ 4 := (J.1 33 0 21 (21, 21, 0, 4) (by decide) (by decide) (by decide)).2
    obtain ⟨⟨x1, x2⟩, x3⟩ := P
    obtain ⟨i, hi, ei⟩ := nI_up (hi := 3) x1 (by omega) (by decide)
    obtain ⟨D, hD, eD⟩ := nI_up (x := gI s 33 0 21) (hi := 4) (by omega) (by omega) (by decide)
    have ti : e.toInt = i := by rw [ei, nI_toInt (by omega)]
    have tD : (gI s 33 0 21).toInt = D := by rw [eD, nI_toInt (by omega)]
    have ci : e.toNatClampNeg = i := by rw [ei, nI_clamp (by omega)]
    have c1 : e.toNatClampNeg < (gI s 33 0 21).toNatClampNeg := by rw [ci, eD, nI_clamp (by omega)]; omega
    obtain ⟨g1, g2⟩ := C.1 _ c1
    have n20 : (gI s 44 0 e.toNatClampNeg).toInt ≤ 20 := (J.1 44 0 e.toNatClampNeg (0, 4, 0, 20) (by decide) (by show (0 : Int) ≤ (e.toNatClampNeg : Int); omega) (by show (e.toNatClampNeg : Int) ≤ 4; omega)).2
    unfold qa_rV
    rcases x3 with ⟨y1, y2⟩ | ⟨y0, ⟨y1, y2⟩, y3, y4⟩
    · rw [if_pos ⟨y1, y2⟩, g1]
      rcases o2 with ⟨_, o2⟩ | ⟨q, _⟩
      · exact o2.symm
      · exact absurd y1 q
    · rw [if_neg (fun q => y0 q.1)]
      have y2 : r.toInt < (gI s 44 0 e.toNatClampNeg).toInt := y2
      obtain ⟨j, hj, ej⟩ := nI_up (hi := 19) y1 (by omega) (by decide)
      obtain ⟨z, hz, ez⟩ := nI_up (hi := 4) y3 (by omega) (by decide)
      have tj : r.toInt = j := by rw [ej, nI_toInt (by omega)]
      have cj : r.toNatClampNeg = j := by rw [ej, nI_clamp (by omega)]
      have cz : w.toNatClampNeg = z := by rw [ez, nI_clamp (by omega)]
      rcases o2 with ⟨q, _⟩ | ⟨_, o2⟩
      · exact absurd q y0
      · rw [o2, cj, cz]
        exact (g2 j z (by omega) (by omega)).1
  · exact absurd P n
theorem prk_reach {a b c : Int32} (hJ : zK s) (h : ∀ k s1, zK s1 → (∀ i j, gI s1 65 i j = gI s 65 i j) → (∀ a' b' c', a' = a → b' = b → c' = c → qC false 1200 240 [lR 33 (some 0), lI a', lI b', lI c'] s1 (prr s1 k)) → Q (some (lI k)) s1) : qC false 1200 1007 [lR 0 (some 0), lI a, lI b, lI c, lR 58 (some 0)] s Q := by
  refine ⟨0, And.intro (fun ok => ?_) (fun nok => ?_)⟩
  · have P := (rk_ok hJ).mp ok
    refine h 0 _ (zK_L hJ) (fun _ _ => rfl) fun a' b' c' ea eb ec => ?_
    subst ea eb ec
    refine qC_mono (rr_2 (zK_L hJ)) fun r s2 q => ?_
    obtain ⟨v, e, O, z2, x2, l2⟩ := q
    have O : rhO s s2 a' b' c' v := O
    obtain ⟨o1, o2⟩ := rr_v hJ P O
    refine ⟨v, e, z2, x2, o1, fun _ => ?_⟩
    rw [l2, ← o2]
    rfl
  · have P : ¬ rhP (gI s 33 0 21) (fun i => gI s 44 0 i) a b c := fun q => nok ((rk_ok hJ).mpr q)
    refine h 1 s hJ (fun _ _ => rfl) fun a' b' c' ea eb ec => ?_
    subst ea eb ec
    refine qC_mono (rr_2 hJ) fun r s2 q => ?_
    obtain ⟨v, e, O, z2, x2, l2⟩ := q
    rcases O with ⟨q, _⟩ | ⟨_, o1, _⟩
    · exact absurd q P
    · exact ⟨v, e, z2, x2, o1, fun q => absurd q (by decide)⟩
end PR
