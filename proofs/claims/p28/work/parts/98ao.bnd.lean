/-! WHAT IS TOLD stays within bounds: ditches, rains, the weather. -/
def hi2 (w : Nat) : Int := if w = 0 then 2 else if w = 2 then 9 else if w = 3 then 5 else 99
def RBw (s : LMem) : Prop := (0 ≤ (gI s 33 0 23).toInt ∧ (gI s 33 0 23).toInt ≤ 99) ∧ (0 ≤ (gI s 33 0 24).toInt ∧ (gI s 33 0 24).toInt ≤ 9) ∧ (gI s 33 0 25 = 0 ∨ gI s 33 0 25 = 1)
def RBd (D : Nat) (s : LMem) : Prop := ∀ dd, dd < D → ∀ r w : Nat, (r : Int) < (gI s 44 0 dd).toInt → w < 5 → (gI s 45 0 (100 * dd + 5 * r + w)).toInt ≤ hi2 w
def RBr (R : Nat) (s : LMem) : Prop := ∀ r, r < R → ∀ j : Nat, (j : Int) < (gI s 46 0 r).toInt → 0 ≤ (gI s 47 0 (30 * r + j)).toInt ∧ (gI s 47 0 (30 * r + j)).toInt ≤ 99
def RB (s : LMem) : Prop := RBd (gI s 33 0 21).toNatClampNeg s ∧ RBr (gI s 33 0 22).toNatClampNeg s ∧ RBw s
theorem RBd_k {D R : Nat} {s m : LMem} (hJ : y_J x_X s) (hD : D ≤ 4) (U : cuK D R s m) (h : RBd D s) : RBd D m := fun dd hd r w g1 g2 => by
  have u := U.1 dd hd
  have n20 : (gI s 44 0 dd).toInt ≤ 20 := (hJ.1 44 0 dd (0, 4, 0, 20) (by decide) (by show (0 : Int) ≤ (dd : Int); omega) (by show (dd : Int) ≤ 4; omega)).2
  rw [u.1] at g1
  rw [u.2 _ (by omega) (by omega)]
  exact h dd hd r w g1 g2
theorem RBr_k {D R : Nat} {s m : LMem} (hJ : y_J x_X s) (hR : R ≤ 4) (U : cuK D R s m) (h : RBr R s) : RBr R m := fun r hr j g1 => by
  have u := U.2 r hr
  have n30 : (gI s 46 0 r).toInt ≤ 30 := (hJ.1 46 0 r (0, 4, 0, 30) (by decide) (by show (0 : Int) ≤ (r : Int); omega) (by show (r : Int) ≤ 4; omega)).2
  rw [u.1] at g1
  rw [u.2 _ (by omega) (by omega)]
  exact h r hr j g1
theorem RBw_k {s m : LMem} (h1 : gI m 33 0 23 = gI s 33 0 23) (h2 : gI m 33 0 24 = gI s 33 0 24) (h3 : gI m 33 0 25 = gI s 33 0 25) (h : RBw s) : RBw m := by
  unfold RBw
  rw [h1, h2, h3]
  exact h
theorem b21_22 {s : LMem} (hJ : y_J x_X s) : (gI s 33 0 21).toNatClampNeg ≤ 4 ∧ (gI s 33 0 22).toNatClampNeg ≤ 4 := by
  have b21 := cl_i (hi := 4) (hJ.1 33 0 21 (21, 21, 0, 4) (by decide) (by decide) (by decide)).1 (hJ.1 33 0 21 (21, 21, 0, 4) (by decide) (by decide) (by decide)).2
  have b22 := cl_i (hi := 4) (hJ.1 33 0 22 (22, 22, 0, 4) (by decide) (by decide) (by decide)).1 (hJ.1 33 0 22 (22, 22, 0, 4) (by decide) (by decide) (by decide)).2
  have c21 : (gI s 33 0 21).toInt ≤ 4 := (hJ.1 33 0 21 (21, 21, 0, 4) (by decide) (by decide) (by decide)).2
  have c22 : (gI s 33 0 22).toInt ≤ 4 := (hJ.1 33 0 22 (22, 22, 0, 4) (by decide) (by decide) (by decide)).2
  omega
theorem RB_k {s m : LMem} (hJ : y_J x_X s) (e : ∀ j, 21 ≤ j → j ≤ 25 → gI m 33 0 j = gI s 33 0 j) (U : cuK (gI s 33 0 21).toNatClampNeg (gI s 33 0 22).toNatClampNeg s m) (h : RB s) : RB m := by
  have b := b21_22 hJ
  unfold RB
  rw [e 21 (by decide) (by decide), e 22 (by decide) (by decide)]
  exact ⟨RBd_k hJ b.1 U h.1, RBr_k hJ b.2 U h.2.1, RBw_k (e 23 (by decide) (by decide)) (e 24 (by decide) (by decide)) (e 25 (by decide) (by decide)) h.2.2⟩
def rb_o (W : List YW) : Bool := [(21 : Nat), 22, 23, 24, 25].all fun j => w_off W 33 0 j
def rb_c (W : List YW) : Bool := W.all fun w => !(Nat.beq w.1 44) && (!(Nat.beq w.1 45) && (!(Nat.beq w.1 46) && !(Nat.beq w.1 47)))
def rb_W (W : List YW) : Bool := rb_o W && rb_c W
theorem rb_e {W : List YW} (h : rb_o W = true) {s m : LMem} (F : y_Fr W s m) (j : Nat) (h1 : 21 ≤ j) (h2 : j ≤ 25) : gI m 33 0 j = gI s 33 0 j := by
  refine (F 33 0 j (w_off_ok (List.all_eq_true.mp h j ?_))).1
  rcases (show j = 21 ∨ j = 22 ∨ j = 23 ∨ j = 24 ∨ j = 25 by omega) with rfl | rfl | rfl | rfl | rfl <;> decide
theorem RB_fr {W : List YW} (h : rb_W W = true) {s m : LMem} (hJ : y_J x_X s) (F : y_Fr W s m) (R : RB s) : RB m := by
  obtain ⟨h1, h2⟩ := qa_and h
  exact RB_k hJ (rb_e h1 F) (fr_cu F h2) R
-- what a text tells is within bounds
theorem numR_hi {b : Nat → Int32} {l p q : Nat} {lo hi : Int32} (h : numR b l lo hi p = (true, q)) : (nvF b l 2 p 0).toInt ≤ hi.toInt := by
  unfold numR at h
  by_cases c1 : dgB (tc b l p) = true
  · rw [if_pos c1] at h
    by_cases c2 : dgB (tc b l (p + dr b l 2 p)) = true
    · rw [if_pos c2] at h
      cases h
    · rw [if_neg c2] at h
      by_cases c3 : lo.toInt ≤ (nvF b l 2 p 0).toInt ∧ (nvF b l 2 p 0).toInt ≤ hi.toInt
      · exact c3.2
      · rw [if_neg c3] at h
        cases h
  · rw [if_neg c1] at h
    cases h
def vU (V : Nat → Int32) : Prop := ∀ w, w < 5 → (V w).toInt ≤ hi2 w
theorem hiW_2 {w : Nat} (h : w ≠ 0) : (hiW w).toInt ≤ hi2 w := by
  unfold hiW hi2
  rw [if_neg h]
  by_cases e : w = 2
  · rw [if_pos e, if_pos e]; decide
  rw [if_neg e, if_neg e]
  by_cases e : w = 3
  · rw [if_pos e, if_pos e]; decide
  rw [if_neg e, if_neg e]
  decide
theorem usV_U {so : Nat} (h : so < 3) : vU (usV so) := fun w hw => by
  have c : w = 0 ∨ w = 1 ∨ w = 2 ∨ w = 3 ∨ w = 4 := by omega
  rcases c with rfl | rfl | rfl | rfl | rfl
  · show (nI so).toInt ≤ 2
    rw [nI_toInt (by omega)]
    omega
  · show (50 : Int32).toInt ≤ (99 : Int)
    decide
  · show (4 : Int32).toInt ≤ (9 : Int)
    decide
  · show (0 : Int32).toInt ≤ (5 : Int)
    decide
  · show (80 : Int32).toInt ≤ (99 : Int)
    decide
theorem itS_U {b : Nat → Int32} {l : Nat} : ∀ f h p V, vU V → vU (itS b l f h p V).2 := by
  intro f
  induction f with
  | zero => intro h p V hV; exact hV
  | succ f ih =>
    intro h p V hV
    by_cases e : itN (tc b l p) = 0
    · rw [its_0 e]
      exact hV
    · cases e2 : Nat.testBit h (itN (tc b l p)) with
      | true =>
        rw [its_h e e2]
        exact hV
      | false =>
        rcases e3 : numR b l (loW (itN (tc b l p))) (hiW (itN (tc b l p))) (sk b l (p + 1)) with ⟨ok, q⟩
        cases ok with
        | true =>
          rw [its_t e e2 e3]
          refine ih _ _ _ (fun w hw => ?_)
          unfold upV
          by_cases c : w = itN (tc b l p)
          · rw [if_pos c]
            have h1 := numR_hi e3
            have h2 := hiW_2 e
            rw [c]
            omega
          · rw [if_neg c]
            exact hV w hw
        | false =>
          rw [its_f e e2 e3]
          exact hV
theorem rcS_U {b : Nat → Int32} {l p : Nat} : vU (rcS b l p).2 := by
  unfold rcS
  by_cases e : soN (tc b l p) = 3
  · rw [if_pos e]
    intro w hw
    show (0 : Int32).toInt ≤ hi2 w
    unfold hi2
    rw [show (0 : Int32).toInt = 0 by decide]
    split
    · decide
    · split
      · decide
      · split <;> decide
  · rw [if_neg e]
    have : soN (tc b l p) ≤ 3 := by
      unfold soN
      by_cases e1 : tc b l p = 99
      · rw [if_pos e1]; decide
      rw [if_neg e1]
      by_cases e2 : tc b l p = 115
      · rw [if_pos e2]; decide
      rw [if_neg e2]
      by_cases e3 : tc b l p = 116
      · rw [if_pos e3]; decide
      rw [if_neg e3]
      decide
    exact itS_U _ _ _ _ (usV_U (by omega))
/-- a number of two digits -/
theorem nvF_s {b : Nat → Int32} {l p : Nat} {a : Int32} (hd : dgB (tc b l p) = true) (h0 : 0 ≤ a.toInt ∧ a.toInt ≤ 9) : 0 ≤ (a * 10 + b p - 48).toInt ∧ (a * 10 + b p - 48).toInt ≤ a.toInt * 10 + 9 := by
  have z10 : (10 : Int32).toInt = 10 := by decide
  have z48 : (48 : Int32).toInt = 48 := by decide
  unfold tc at hd
  by_cases c : p < l
  · rw [if_pos c] at hd
    unfold dgB at hd
    obtain ⟨d1, d2⟩ := qa_and hd
    have d1 := of_decide_eq_true d1
    have d2 := of_decide_eq_true d2
    have e1 : (a * 10).toInt = a.toInt * 10 := by rw [y_mulI (by rw [z10]; omega) (by rw [z10]; omega), z10]
    have e2 : (a * 10 + b p).toInt = a.toInt * 10 + (b p).toInt := by rw [y_addI (by rw [e1]; omega) (by rw [e1]; omega), e1]
    rw [y_subI (by rw [e2, z48]; omega) (by rw [e2, z48]; omega), e2, z48]
    omega
  · rw [if_neg c] at hd
    exact absurd hd (by decide)
theorem nvF_99 {b : Nat → Int32} {l p : Nat} : 0 ≤ (nvF b l 2 p 0).toInt ∧ (nvF b l 2 p 0).toInt ≤ 99 := by
  have z0 : (0 : Int32).toInt = 0 := by decide
  show 0 ≤ (if dgB (tc b l p) = true then nvF b l 1 (p + 1) (0 * 10 + b p - 48) else 0).toInt ∧ (if dgB (tc b l p) = true then nvF b l 1 (p + 1) (0 * 10 + b p - 48) else 0).toInt ≤ 99
  by_cases c : dgB (tc b l p) = true
  · have h1 := nvF_s (a := 0) c (by rw [z0]; decide)
    rw [z0] at h1
    rw [if_pos c]
    generalize (0 : Int32) * 10 + b p - 48 = a at h1
    show 0 ≤ (if dgB (tc b l (p + 1)) = true then a * 10 + b (p + 1) - 48 else a).toInt ∧ (if dgB (tc b l (p + 1)) = true then a * 10 + b (p + 1) - 48 else a).toInt ≤ 99
    by_cases c2 : dgB (tc b l (p + 1)) = true
    · have h2 := nvF_s (a := a) c2 (by omega)
      rw [if_pos c2]
      omega
    · rw [if_neg c2]
      omega
  · rw [if_neg c, z0]
    decide
theorem RB_n0 {s m : LMem} {D l : Nat} {b : Nat → Int32} (hJ : y_J x_X s) (hD : (gI s 33 0 21).toNatClampNeg = D) (e21 : (gI m 33 0 21).toNatClampNeg = D + 1) (e : ∀ j, 22 ≤ j → j ≤ 25 → gI m 33 0 j = gI s 33 0 j) (U : cuK (gI s 33 0 21).toNatClampNeg (gI s 33 0 22).toNatClampNeg s m) (h : RB s) (V2 : tuV b l 0 D m) : RB m := by
  have bb := b21_22 hJ
  unfold RB
  rw [e21, e 22 (by decide) (by decide)]
  refine ⟨fun dd hd => ?_, RBr_k hJ bb.2 U h.2.1, RBw_k (e 23 (by decide) (by decide)) (e 24 (by decide) (by decide)) (e 25 (by decide) (by decide)) h.2.2⟩
  rcases Nat.lt_or_ge dd D with c | c
  · exact RBd_k hJ bb.1 U h.1 dd (by omega)
  · have e : dd = D := by omega
    subst e
    obtain ⟨b1, b2⟩ := V2.1 rfl
    have hn := dtN_le (b := b) (l := l) 20 (sk b l 0)
    intro r w g1 g2
    rw [b1, nI_toInt (by omega)] at g1
    rw [b2 r w (by omega) g2]
    exact rcS_U w g2
theorem RB_n2 {s m : LMem} {D l : Nat} {b : Nat → Int32} (hJ : y_J x_X s) (hD : (gI s 33 0 22).toNatClampNeg = D) (e22 : (gI m 33 0 22).toNatClampNeg = D + 1) (e : ∀ j, (j = 21 ∨ 23 ≤ j) → j ≤ 25 → gI m 33 0 j = gI s 33 0 j) (U : cuK (gI s 33 0 21).toNatClampNeg (gI s 33 0 22).toNatClampNeg s m) (h : RB s) (V2 : tuV b l 2 D m) : RB m := by
  have bb := b21_22 hJ
  unfold RB
  rw [e22, e 21 (by decide) (by decide)]
  refine ⟨RBd_k hJ bb.1 U h.1, fun r hr => ?_, RBw_k (e 23 (by decide) (by decide)) (e 24 (by decide) (by decide)) (e 25 (by decide) (by decide)) h.2.2⟩
  rcases Nat.lt_or_ge r D with c | c
  · exact RBr_k hJ bb.2 U h.2.1 r (by omega)
  · have e : r = D := by omega
    subst e
    obtain ⟨b1, b2⟩ := V2.2 rfl
    have hn := rnN_le (b := b) (l := l) 30 (sk b l 0)
    intro j g1
    rw [b1, nI_toInt (by omega)] at g1
    rw [b2 j (by omega)]
    exact nvF_99
def zV (s : LMem) : Prop := zW s ∧ RB s
def lqv (s : LMem) (Q : LPost) : Prop := ∀ v s', zV s' → (∀ i j, gI s' 65 i j = gI s 65 i j) → Q (some (lI v)) s'
theorem sf_conv {ct : YCt} (H : y_con x_X ct) (hk : (((Nat.ble ct.2.2.2.2.2 1200 && ((ct.2.2.2.1.all rk_w && rq_W ct.2.2.2.1) && ct.2.2.2.2.1.all sf_a)) && rl_W ct.2.2.2.1) && rb_W ct.2.2.2.1) = true) (hp : ct.2.2.1 = ([], [])) {As : List LV} {s : LMem} {Q : LPost} (hA : y_as ct.2.1 As) (hJ : zV s) (h : lqv s Q) : qC false 1200 ct.1 As s Q := by
  obtain ⟨k1, k2⟩ := qa_and hk
  obtain ⟨k3, _⟩ := qa_and k1
  obtain ⟨k3, _⟩ := qa_and k3
  have a := sf_conl H k1 hp (Q := fun r m => ∃ v, r = some (lI v) ∧ zW m ∧ ∀ i j, gI m 65 i j = gI s 65 i j) hA hJ.1 (fun v s' z x => ⟨v, rfl, z, x⟩)
  have b := fr_con (d := 1200) H (Nat.le_of_ble_eq_true k3) hp hA hJ.1.1.1.1.1
  refine qC_mono (qC_and a b) fun r m q => ?_
  obtain ⟨⟨v, rfl, z, x⟩, _, F⟩ := q
  exact h v m ⟨z, RB_fr k2 hJ.1.1.1.1.1 F hJ.2⟩ x
theorem sf_convR {ct : YCt} (H : ∀ s0, y_con (xR s0) ct) (hk : (((Nat.ble ct.2.2.2.2.2 1200 && ((ct.2.2.2.1.all rk_w && rq_S ct.2.2.2.1) && ct.2.2.2.2.1.all sf_a)) && rl_W ct.2.2.2.1) && rb_W ct.2.2.2.1) = true) (hp : ct.2.2.1 = ([], [])) {As : List LV} {s : LMem} {Q : LPost} (hA : y_as ct.2.1 As) (hJ : zV s) (h : lqv s Q) : qC false 1200 ct.1 As s Q := by
  obtain ⟨k1, k2⟩ := qa_and hk
  obtain ⟨k3, _⟩ := qa_and k1
  obtain ⟨k3, _⟩ := qa_and k3
  have a := sf_conlR H k1 hp (Q := fun r m => ∃ v, r = some (lI v) ∧ zW m ∧ ∀ i j, gI m 65 i j = gI s 65 i j) hA hJ.1 (fun v s' z x => ⟨v, rfl, z, x⟩)
  have b : qC false 1200 ct.1 As s (fun _ m => y_Fr ct.2.2.2.1 s m) := H s 1200 (Nat.le_of_ble_eq_true k3) As s _ hA (J_xR hJ.1.1.1.1.1 (RS_rf s)) (by rw [hp]; exact ⟨y_msnil, fun _ q => absurd q List.not_mem_nil⟩) fun r s' hr J' F' => F'
  refine qC_mono (qC_and a b) fun r m q => ?_
  obtain ⟨⟨v, rfl, z, x⟩, F⟩ := q
  exact h v m ⟨z, RB_fr k2 hJ.1.1.1.1.1 F hJ.2⟩ x
abbrev prb (s1 : LMem) (v : Int32) : LPost := fun r s2 => r = some (lI v) ∧ zV s2 ∧ ∀ i j, gI s2 65 i j = gI s1 65 i j
section PLB
variable {s : LMem} {Q : LPost}
theorem rbc {d : Nat} {ct : YCt} (H : y_con x_X ct) (hd : ct.2.2.2.2.2 ≤ d) (hp : ct.2.2.1 = ([], [])) {As : List LV} (hA : y_as ct.2.1 As) (hJ : y_J x_X s) (hw : rb_W ct.2.2.2.1 = true) (R : RB s) : qC false d ct.1 As s (fun _ s' => RB s') := qC_mono (fr_con H hd hp hA hJ) fun _ _ q => RB_fr hw hJ q.2 R
theorem prb_end {p : Int32} (hJ : zV s) (h : ∀ v s1, y_J x_X s1 → (∀ i j, gI s1 65 i j = gI s 65 i j) → (∀ p', p' = p → qC false 1200 203 [lR 33 (some 0), lI p'] s1 (prb s1 v)) → Q (some (lI v)) s1) : qC false 1200 144 [lR 0 (some 0), lI p] s Q := by
  have a0 := prl_end (p := p) (s := s) (Q := fun r s1 => ∃ v, r = some (lI v) ∧ y_J x_X s1 ∧ (∀ i j, gI s1 65 i j = gI s 65 i j) ∧ ∀ p', p' = p → qC false 1200 203 [lR 33 (some 0), lI p'] s1 (prl s1 v)) hJ.1 (fun v s1 a b c => ⟨v, rfl, a, b, c⟩)
  have b0 : qC false 1200 144 [lR 0 (some 0), lI p] s (fun _ m => RB m) := rbc (d := 1200) (As := [lR 0 (some 0), lI p]) (y_all x_X_cl h_all0 yk_X11_end (List.mem_of_getElem? (i := 186) rfl)) (by decide +kernel) rfl ⟨y_rcv, z_in_top _, trivial⟩ hJ.1.1.1.1.1 (by decide +kernel) hJ.2
  refine qC_mono (qC_and a0 b0) fun r s1 q => ?_
  obtain ⟨⟨v, rfl, J1, X1, c⟩, R1⟩ := q
  refine h v s1 J1 X1 (fun p' ep => ?_)
  have b2 : qC false 1200 203 [lR 33 (some 0), lI p'] s1 (fun _ m => RB m) := rbc (d := 1200) (As := [lR 33 (some 0), lI p']) (y_all x_X_cl h_all0 yk_X12_end (List.mem_of_getElem? (i := 187) rfl)) (by decide +kernel) rfl ⟨y_rcv, z_in_top _, trivial⟩ J1 (by decide +kernel) R1
  refine qC_mono (qC_and (c _ ep) b2) fun r s2 q => ?_
  obtain ⟨⟨e, z2, x2⟩, R2⟩ := q
  exact ⟨e, ⟨z2, R2⟩, x2⟩
theorem prb_feed {a : Int32} {b : Int32} {e : Int32} {f : Int32} {g : Int32} (hJ : zV s) (h : ∀ v s1, y_J x_X s1 → (∀ i j, gI s1 65 i j = gI s 65 i j) → (∀ a' b' e' f' g', a' = a → b' = b → e' = e → f' = f → g' = g → qC false 1200 202 [lR 33 (some 0), lI a', lI b', lI e', lI f', lI g'] s1 (prb s1 v)) → Q (some (lI v)) s1) : qC false 1200 143 [lR 0 (some 0), lI a, lI b, lI e, lI f, lI g] s Q := by
  have a0 := prl_feed (a := a) (b := b) (e := e) (f := f) (g := g) (s := s) (Q := fun r s1 => ∃ v, r = some (lI v) ∧ y_J x_X s1 ∧ (∀ i j, gI s1 65 i j = gI s 65 i j) ∧ ∀ a' b' e' f' g', a' = a → b' = b → e' = e → f' = f → g' = g → qC false 1200 202 [lR 33 (some 0), lI a', lI b', lI e', lI f', lI g'] s1 (prl s1 v)) hJ.1 (fun v s1 a b c => ⟨v, rfl, a, b, c⟩)
  have b0 : qC false 1200 143 [lR 0 (some 0), lI a, lI b, lI e, lI f, lI g] s (fun _ m => RB m) := rbc (d := 1200) (As := [lR 0 (some 0), lI a, lI b, lI e, lI f, lI g]) (y_all x_X_cl h_all0 yk_X11_feed (List.mem_of_getElem? (i := 149) rfl)) (by decide +kernel) rfl ⟨y_rcv, z_in_top _, z_in_top _, z_in_top _, z_in_top _, z_in_top _, trivial⟩ hJ.1.1.1.1.1 (by decide +kernel) hJ.2
  refine qC_mono (qC_and a0 b0) fun r s1 q => ?_
  obtain ⟨⟨v, rfl, J1, X1, c⟩, R1⟩ := q
  refine h v s1 J1 X1 (fun a' b' e' f' g' ea eb ee ef eg => ?_)
  have b2 : qC false 1200 202 [lR 33 (some 0), lI a', lI b', lI e', lI f', lI g'] s1 (fun _ m => RB m) := rbc (d := 1200) (As := [lR 33 (some 0), lI a', lI b', lI e', lI f', lI g']) h_X12_feed (by decide +kernel) rfl ⟨y_rcv, z_in_top _, z_in_top _, z_in_top _, z_in_top _, z_in_top _, trivial⟩ J1 (by decide +kernel) R1
  refine qC_mono (qC_and (c _ _ _ _ _ ea eb ee ef eg) b2) fun r s2 q => ?_
  obtain ⟨⟨e, z2, x2⟩, R2⟩ := q
  exact ⟨e, ⟨z2, R2⟩, x2⟩
theorem prb_text1 (hJ : zV s) (h : ∀ v s1, y_J x_X s1 → (∀ i j, gI s1 65 i j = gI s 65 i j) → (qC false 1200 236 [lR 33 (some 0), lI 1] s1 (prb s1 v)) → Q (some (lI v)) s1) : qC false 1200 146 [lR 0 (some 0), lI 1] s Q := by
  have a0 := prl_text1 (s := s) (Q := fun r s1 => ∃ v, r = some (lI v) ∧ y_J x_X s1 ∧ (∀ i j, gI s1 65 i j = gI s 65 i j) ∧ qC false 1200 236 [lR 33 (some 0), lI 1] s1 (prl s1 v)) hJ.1 (fun v s1 a b c => ⟨v, rfl, a, b, c⟩)
  have b0 : qC false 1200 146 [lR 0 (some 0), lI 1] s (fun _ m => RB m) := rbc (d := 1200) (As := [lR 0 (some 0), lI 1]) (y_all x_X_cl h_all0 yk_X11_text_2 (List.mem_of_getElem? (i := 1) rfl)) (by decide +kernel) rfl ⟨y_rcv, ⟨by decide, by decide⟩, trivial⟩ hJ.1.1.1.1.1 (by decide +kernel) hJ.2
  refine qC_mono (qC_and a0 b0) fun r s1 q => ?_
  obtain ⟨⟨v, rfl, J1, X1, c⟩, R1⟩ := q
  refine h v s1 J1 X1 ?_
  have b2 : qC false 1200 236 [lR 33 (some 0), lI 1] s1 (fun _ m => RB m) := rbc (d := 1200) (As := [lR 33 (some 0), lI 1]) h_X12_text_1 (by decide +kernel) rfl ⟨y_rcv, ⟨by decide, by decide⟩, trivial⟩ J1 (by decide +kernel) R1
  refine qC_mono (qC_and c b2) fun r s2 q => ?_
  obtain ⟨⟨e, z2, x2⟩, R2⟩ := q
  exact ⟨e, ⟨z2, R2⟩, x2⟩
theorem prb_text0 (hJ : zV s) (h : ∀ v s1, y_J x_X s1 → (∀ i j, gI s1 65 i j = gI s 65 i j) → qC false 1200 236 [lR 33 (some 0), lI 0] s1 (prb s1 v) → Q (some (lI v)) s1) : qC false 1200 146 [lR 0 (some 0), lI 0] s Q := by
  have J := hJ.1.1.1.1.1
  obtain ⟨l, h1, h2, h3, h4, h5, h6, h7, h8⟩ := hJ.1.1.1.1.2
  have a0 := prl_text0 (s := s) (Q := fun r s1 => ∃ v, r = some (lI v) ∧ y_J x_X s1 ∧ (∀ i j, gI s1 65 i j = gI s 65 i j) ∧ qC false 1200 236 [lR 33 (some 0), lI 0] s1 (prl s1 v)) hJ.1 (fun v s1 a b c => ⟨v, rfl, a, b, c⟩)
  have b0 := fr_con (d := 1200) (s := s) (As := [lR 0 (some 0), lI 0]) (y_all x_X_cl h_all0 yk_X11_text_1 (List.mem_of_getElem? (i := 100) rfl)) (by decide) rfl ⟨y_rcv, ⟨by decide, by decide⟩, trivial⟩ J
  refine qC_mono (qC_and a0 b0) fun r s1 q => ?_
  obtain ⟨⟨v, rfl, J1, X1, c⟩, _, F1⟩ := q
  have e33 : ∀ j, gI s1 33 0 j = gI s 33 0 j := fun j => fr_K F1 33 (by decide) 0 j
  have R1 : RB s1 := RB_fr (by decide +kernel) J F1 hJ.2
  refine h v s1 J1 X1 ?_
  have b2 := fr_con (d := 1200) (s := s1) (As := [lR 33 (some 0), lI 0]) h_X12_text_0 (by decide) rfl ⟨y_rcv, ⟨by decide, by decide⟩, trivial⟩ J1
  have c2 := tc_120 (d := 1077) (s := s1) J1 ((e33 2).trans h3) h1
  have d2 := tx_120 (d := 1077) (s := s1) J1 ((e33 2).trans h3) h1
  refine qC_mono (qC_and (qC_and (qC_and c b2) c2) d2) fun r s2 q => ?_
  obtain ⟨⟨⟨⟨er, z2, x2⟩, _, F2⟩, U2, V2⟩, w, ew, O2⟩ := q
  have evw : v = w := by
    have := er.symm.trans ew
    cases this
    rfl
  refine ⟨er, ⟨z2, ?_⟩, x2⟩
  have lo := (J1.1 33 0 21 (21, 21, 0, 4) (by decide) (by decide) (by decide)).1
  have lo : 0 ≤ (gI s1 33 0 21).toInt := lo
  have ej : ∀ j, 21 ≤ j → j ≤ 25 → j ≠ 21 → gI s2 33 0 j = gI s1 33 0 j := fun j g1 g2 g3 => by
    rcases (show j = 22 ∨ j = 23 ∨ j = 24 ∨ j = 25 by omega) with rfl | rfl | rfl | rfl
    · exact fr_k F2 33 0 22 (by decide +kernel)
    · exact fr_k F2 33 0 23 (by decide +kernel)
    · exact fr_k F2 33 0 24 (by decide +kernel)
    · exact fr_k F2 33 0 25 (by decide +kernel)
  unfold tuO at O2
  rcases O2 with ⟨o1, o2, _, _, o5⟩ | ⟨_, _, _, o4⟩
  · have ne : v ≠ -1 := fun q => by
      rw [evw, o1] at q
      have := congrArg Int32.toInt q
      rw [show (-1 : Int32).toInt = -1 by decide] at this
      omega
    have V2 := V2 (fun q => by
      rw [er] at q
      cases q
      exact ne rfl)
    obtain ⟨D, hD2, hD⟩ := nI_up (hi := 3) lo (by omega) (by decide)
    have eD : (gI s1 33 0 21).toNatClampNeg = D := by rw [hD, nI_clamp (by omega)]
    rw [eD] at V2
    exact RB_n0 J1 eD (by rw [o5, hD, nI_1, nI_clamp (by omega)]) (fun j g1 g2 => ej j (by omega) g2 (by omega)) U2 R1 V2
  · exact RB_k J1 (fun j g1 g2 => by
      by_cases c : j = 21
      · rw [c]
        exact o4
      · exact ej j g1 g2 c) U2 R1
theorem prb_text2 (hJ : zV s) (h : ∀ v s1, y_J x_X s1 → (∀ i j, gI s1 65 i j = gI s 65 i j) → qC false 1200 236 [lR 33 (some 0), lI 2] s1 (prb s1 v) → Q (some (lI v)) s1) : qC false 1200 146 [lR 0 (some 0), lI 2] s Q := by
  have J := hJ.1.1.1.1.1
  obtain ⟨l, h1, h2, h3, h4, h5, h6, h7, h8⟩ := hJ.1.1.1.1.2
  have a0 := prl_text2 (s := s) (Q := fun r s1 => ∃ v, r = some (lI v) ∧ y_J x_X s1 ∧ (∀ i j, gI s1 65 i j = gI s 65 i j) ∧ qC false 1200 236 [lR 33 (some 0), lI 2] s1 (prl s1 v)) hJ.1 (fun v s1 a b c => ⟨v, rfl, a, b, c⟩)
  have b0 := fr_con (d := 1200) (s := s) (As := [lR 0 (some 0), lI 2]) (y_all x_X_cl h_all0 yk_X11_text_3 (List.mem_of_getElem? (i := 111) rfl)) (by decide) rfl ⟨y_rcv, ⟨by decide, by decide⟩, trivial⟩ J
  refine qC_mono (qC_and a0 b0) fun r s1 q => ?_
  obtain ⟨⟨v, rfl, J1, X1, c⟩, _, F1⟩ := q
  have e33 : ∀ j, gI s1 33 0 j = gI s 33 0 j := fun j => fr_K F1 33 (by decide) 0 j
  have R1 : RB s1 := RB_fr (by decide +kernel) J F1 hJ.2
  refine h v s1 J1 X1 ?_
  have b2 := fr_con (d := 1200) (s := s1) (As := [lR 33 (some 0), lI 2]) h_X12_text_2 (by decide) rfl ⟨y_rcv, ⟨by decide, by decide⟩, trivial⟩ J1
  have c2 := tc_122 (d := 1077) (s := s1) J1 ((e33 2).trans h3) h1
  have d2 := tx_122 (d := 1077) (s := s1) J1 ((e33 2).trans h3) h1
  refine qC_mono (qC_and (qC_and (qC_and c b2) c2) d2) fun r s2 q => ?_
  obtain ⟨⟨⟨⟨er, z2, x2⟩, _, F2⟩, U2, V2⟩, w, ew, O2⟩ := q
  have evw : v = w := by
    have := er.symm.trans ew
    cases this
    rfl
  refine ⟨er, ⟨z2, ?_⟩, x2⟩
  have lo := (J1.1 33 0 22 (22, 22, 0, 4) (by decide) (by decide) (by decide)).1
  have lo : 0 ≤ (gI s1 33 0 22).toInt := lo
  have ej : ∀ j, 21 ≤ j → j ≤ 25 → j ≠ 22 → gI s2 33 0 j = gI s1 33 0 j := fun j g1 g2 g3 => by
    rcases (show j = 21 ∨ j = 23 ∨ j = 24 ∨ j = 25 by omega) with rfl | rfl | rfl | rfl
    · exact fr_k F2 33 0 21 (by decide +kernel)
    · exact fr_k F2 33 0 23 (by decide +kernel)
    · exact fr_k F2 33 0 24 (by decide +kernel)
    · exact fr_k F2 33 0 25 (by decide +kernel)
  unfold tuO at O2
  rcases O2 with ⟨o1, o2, _, _, o5⟩ | ⟨_, _, _, o4⟩
  · have ne : v ≠ -1 := fun q => by
      rw [evw, o1] at q
      have := congrArg Int32.toInt q
      rw [show (-1 : Int32).toInt = -1 by decide] at this
      omega
    have V2 := V2 (fun q => by
      rw [er] at q
      cases q
      exact ne rfl)
    obtain ⟨D, hD2, hD⟩ := nI_up (hi := 3) lo (by omega) (by decide)
    have eD : (gI s1 33 0 22).toNatClampNeg = D := by rw [hD, nI_clamp (by omega)]
    rw [eD] at V2
    exact RB_n2 J1 eD (by rw [o5, hD, nI_1, nI_clamp (by omega)]) (fun j g1 g2 => ej j (by omega) g2 (by omega)) U2 R1 V2
  · exact RB_k J1 (fun j g1 g2 => by
      by_cases c : j = 22
      · rw [c]
        exact o4
      · exact ej j g1 g2 c) U2 R1
theorem prb_text {p : Int32} (hJ : zV s) (h : ∀ v s1, y_J x_X s1 → (∀ i j, gI s1 65 i j = gI s 65 i j) → (∀ p', p' = p → qC false 1200 236 [lR 33 (some 0), lI p'] s1 (prb s1 v)) → Q (some (lI v)) s1) : qC false 1200 146 [lR 0 (some 0), lI p] s Q := by
  by_cases c0 : p = 0
  · subst c0
    exact prb_text0 hJ fun v s1 J1 X1 c => h v s1 J1 X1 fun p' ep => by
      subst ep
      exact c
  by_cases c1 : p = 1
  · subst c1
    exact prb_text1 hJ fun v s1 J1 X1 c => h v s1 J1 X1 fun p' ep => by
      subst ep
      exact c
  by_cases c2 : p = 2
  · subst c2
    exact prb_text2 hJ fun v s1 J1 X1 c => h v s1 J1 X1 fun p' ep => by
      subst ep
      exact c
  refine qC_mono (tx_11N (d := 1077) c0 c1 c2) fun r m q => ?_
  obtain ⟨rfl, rfl⟩ := q
  refine h _ m hJ.1.1.1.1.1 (fun _ _ => rfl) fun p' ep => ?_
  subst ep
  refine qC_mono (tx_12N (d := 1077) c0 c1 c2) fun r m' q => ?_
  obtain ⟨rfl, rfl⟩ := q
  exact ⟨rfl, hJ, fun _ _ => rfl⟩
variable {d l : Nat}
theorem fb_12 {p : Int32} {s : LMem} (hJ : y_J x_X s) : qC false 1200 235 [lR 33 (some 0), lI p] s (fun _ m => ∀ j, 21 ≤ j → j ≤ 25 → gI m 33 0 j = gI s 33 0 j) := by
  by_cases e0 : p = 0
  · subst e0
    exact qC_mono (fr_con (d := 1200) (s := s) (As := [lR 33 (some 0), lI 0]) h_X12_fault_0 (by decide) rfl ⟨y_rcv, ⟨by decide, by decide⟩, trivial⟩ hJ) fun r m q => rb_e (by decide +kernel) q.2
  by_cases e1 : p = 1
  · subst e1
    exact qC_mono (fr_con (d := 1200) (s := s) (As := [lR 33 (some 0), lI 1]) h_X12_fault_1 (by decide) rfl ⟨y_rcv, ⟨by decide, by decide⟩, trivial⟩ hJ) fun r m q => rb_e (by decide +kernel) q.2
  by_cases e2 : p = 2
  · subst e2
    exact qC_mono (fr_con (d := 1200) (s := s) (As := [lR 33 (some 0), lI 2]) h_X12_fault_2 (by decide) rfl ⟨y_rcv, ⟨by decide, by decide⟩, trivial⟩ hJ) fun r m q => rb_e (by decide +kernel) q.2
  exact h_fault_no (d := 1199) e0 e1 e2 (fun _ _ _ => rfl)
theorem prb_fault {p : Int32} (hJ : zV s) (h : ∀ v s1, y_J x_X s1 → (∀ i j, gI s1 65 i j = gI s 65 i j) → (∀ p', p' = p → qC false 1200 235 [lR 33 (some 0), lI p'] s1 (prb s1 v)) → Q (some (lI v)) s1) : qC false 1200 145 [lR 0 (some 0), lI p] s Q := by
  have J := hJ.1.1.1.1.1
  obtain ⟨l, h1, h2, h3, h4, h5, h6, h7, h8⟩ := hJ.1.1.1.1.2
  have a0 := prl_fault (p := p) (s := s) (Q := fun r s1 => ∃ v, r = some (lI v) ∧ y_J x_X s1 ∧ (∀ i j, gI s1 65 i j = gI s 65 i j) ∧ ∀ p', p' = p → qC false 1200 235 [lR 33 (some 0), lI p'] s1 (prl s1 v)) hJ.1 (fun v s1 a b c => ⟨v, rfl, a, b, c⟩)
  have b0 := fr_con (d := 1200) (s := s) (As := [lR 0 (some 0), lI p]) (y_all x_X_cl h_all0 yk_X11_fault (List.mem_of_getElem? (i := 0) rfl)) (by decide) rfl ⟨y_rcv, z_in_top _, trivial⟩ J
  refine qC_mono (qC_and a0 b0) fun r s1 q => ?_
  obtain ⟨⟨v, rfl, J1, X1, c⟩, _, F1⟩ := q
  have R1 : RB s1 := RB_fr (by decide +kernel) J F1 hJ.2
  have bb := b21_22 J1
  refine h v s1 J1 X1 fun p' ep => ?_
  have b2 := fc_12 (d := 1077) (p := p') (s := s1) J1 ((fr_k F1 33 0 2 (by decide +kernel)).trans h3) h1 bb.1 bb.2
  refine qC_mono (qC_and (qC_and (c p' ep) b2) (fb_12 J1)) fun r s2 q => ?_
  obtain ⟨⟨⟨e, z2, x2⟩, U⟩, f⟩ := q
  exact ⟨e, ⟨z2, RB_k J1 f U R1⟩, x2⟩
theorem RBw_R {s m : LMem} {a b : Int32} (T : ∀ j, j < 3 → gI m 33 0 (23 + j) = gI s 33 0 (23 + j) ∨ (stOK a b ∧ a = nI j ∧ gI m 33 0 (23 + j) = b)) (h : RBw s) : RBw m := by
  obtain ⟨h1, h2, h3⟩ := h
  refine ⟨?_, ?_, ?_⟩
  · rcases T 0 (by decide) with e | ⟨⟨q0, q⟩, ea, e⟩
    · have e : gI m 33 0 23 = gI s 33 0 23 := e
      rw [e]
      exact h1
    · have e : gI m 33 0 23 = b := e
      rw [e]
      rcases q with q | q | q
      · exact ⟨q0, q.2⟩
      · exact absurd (ea.symm.trans q.1) (by decide)
      · exact absurd (ea.symm.trans q.1) (by decide)
  · rcases T 1 (by decide) with e | ⟨⟨q0, q⟩, ea, e⟩
    · have e : gI m 33 0 24 = gI s 33 0 24 := e
      rw [e]
      exact h2
    · have e : gI m 33 0 24 = b := e
      rw [e]
      rcases q with q | q | q
      · exact absurd (ea.symm.trans q.1) (by decide)
      · exact ⟨q0, q.2⟩
      · exact absurd (ea.symm.trans q.1) (by decide)
  · rcases T 2 (by decide) with e | ⟨⟨q0, q⟩, ea, e⟩
    · have e : gI m 33 0 25 = gI s 33 0 25 := e
      rw [e]
      exact h3
    · have e : gI m 33 0 25 = b := e
      rw [e]
      rcases q with q | q | q
      · exact absurd (ea.symm.trans q.1) (by decide)
      · exact absurd (ea.symm.trans q.1) (by decide)
      · have z0 : (0 : Int32).toInt = 0 := by decide
        have z1 : (1 : Int32).toInt = 1 := by decide
        rcases (show b.toInt = 0 ∨ b.toInt = 1 by omega) with g | g
        · exact Or.inl (Int32.toInt_inj.mp (g.trans z0.symm))
        · exact Or.inr (Int32.toInt_inj.mp (g.trans z1.symm))
theorem prb_set {a b : Int32} (hJ : zV s) (h : ∀ v s1, y_J x_X s1 → (∀ i j, gI s1 65 i j = gI s 65 i j) → (∀ a' b', a' = a → b' = b → qC false 1200 242 [lR 33 (some 0), lI a', lI b'] s1 (prb s1 v)) → Q (some (lI v)) s1) : qC false 1200 161 [lR 0 (some 0), lI a, lI b] s Q := by
  have J := hJ.1.1.1.1.1
  have a0 := prl_set (a := a) (b := b) (s := s) (Q := fun r s1 => ∃ v, r = some (lI v) ∧ y_J x_X s1 ∧ (∀ i j, gI s1 65 i j = gI s 65 i j) ∧ ∀ a' b', a' = a → b' = b → qC false 1200 242 [lR 33 (some 0), lI a', lI b'] s1 (prl s1 v)) hJ.1 (fun v s1 a b c => ⟨v, rfl, a, b, c⟩)
  have b0 := fr_con (d := 1200) (s := s) (As := [lR 0 (some 0), lI a, lI b]) (y_all x_X_cl h_all0 yk_X11_set (List.mem_of_getElem? (i := 193) rfl)) (by decide) rfl ⟨y_rcv, z_in_top _, z_in_top _, trivial⟩ J
  refine qC_mono (qC_and a0 b0) fun r s1 q => ?_
  obtain ⟨⟨v, rfl, J1, X1, c⟩, _, F1⟩ := q
  have R1 : RB s1 := RB_fr (by decide +kernel) J F1 hJ.2
  refine h v s1 J1 X1 fun a' b' ea eb => ?_
  have b2 := fr_con (d := 1200) (s := s1) (As := [lR 33 (some 0), lI a', lI b']) (y_all x_X_cl h_all0 yk_X12_set (List.mem_of_getElem? (i := 194) rfl)) (by decide) rfl ⟨y_rcv, z_in_top _, z_in_top _, trivial⟩ J1
  have c2 := st_12R (d := 1198) (w := a') (v := b') (s := s1)
  refine qC_mono (qC_and (qC_and (c a' b' ea eb) b2) c2) fun r s2 q => ?_
  obtain ⟨⟨⟨e, z2, x2⟩, _, F2⟩, _, T⟩ := q
  refine ⟨e, ⟨z2, ?_⟩, x2⟩
  have bb := b21_22 J1
  have U : cuK (gI s1 33 0 21).toNatClampNeg (gI s1 33 0 22).toNatClampNeg s1 s2 := fr_cu F2 (by decide +kernel)
  have W : RBw s2 := RBw_R (a := a') (b := b') (fun j hj => by
    by_cases ok : stOK a' b'
    · obtain ⟨t1, t2⟩ := T.1 ok j hj
      by_cases e : a' = nI j
      · exact Or.inr ⟨ok, e, t1 e⟩
      · exact Or.inl (t2 e)
    · exact Or.inl (T.2 ok j hj)) R1.2.2
  unfold RB
  rw [fr_k F2 33 0 21 (by decide +kernel), fr_k F2 33 0 22 (by decide +kernel)]
  exact ⟨RBd_k J1 bb.1 U R1.1, RBr_k J1 bb.2 U R1.2.1, W⟩
theorem prb_dig {a : Int32} {b : Int32} {c : Int32} {l : Int64} (hJ : zV s) (h : ∀ v s1, y_J x_X s1 → (∀ i j, gI s1 65 i j = gI s 65 i j) → (∀ a' b' c' l', a' = a → b' = b → c' = c → l' = l → qC false 1200 246 [lR 33 (some 0), lI a', lI b', lI c', lL l'] s1 (prb s1 v)) → Q (some (lI v)) s1) : qC false 1200 162 [lR 0 (some 0), lI a, lI b, lI c, lL l] s Q := by
  have a0 := prl_dig (a := a) (b := b) (c := c) (l := l) (s := s) (Q := fun r s1 => ∃ v, r = some (lI v) ∧ y_J x_X s1 ∧ (∀ i j, gI s1 65 i j = gI s 65 i j) ∧ ∀ a' b' c' l', a' = a → b' = b → c' = c → l' = l → qC false 1200 246 [lR 33 (some 0), lI a', lI b', lI c', lL l'] s1 (prl s1 v)) hJ.1 (fun v s1 a b c => ⟨v, rfl, a, b, c⟩)
  have b0 : qC false 1200 162 [lR 0 (some 0), lI a, lI b, lI c, lL l] s (fun _ m => RB m) := rbc (d := 1200) (As := [lR 0 (some 0), lI a, lI b, lI c, lL l]) (y_all x_X_cl h_all0 yk_X11_dig (List.mem_of_getElem? (i := 122) rfl)) (by decide +kernel) rfl ⟨y_rcv, z_in_top _, z_in_top _, z_in_top _, trivial, trivial⟩ hJ.1.1.1.1.1 (by decide +kernel) hJ.2
  refine qC_mono (qC_and a0 b0) fun r s1 q => ?_
  obtain ⟨⟨v, rfl, J1, X1, c⟩, R1⟩ := q
  refine h v s1 J1 X1 (fun a' b' c' l' ea eb ec el => ?_)
  have b2 : qC false 1200 246 [lR 33 (some 0), lI a', lI b', lI c', lL l'] s1 (fun _ m => RB m) := rbc (d := 1200) (As := [lR 33 (some 0), lI a', lI b', lI c', lL l']) h_X12_dig (by decide +kernel) rfl ⟨y_rcv, z_in_top _, z_in_top _, z_in_top _, trivial, trivial⟩ J1 (by decide +kernel) R1
  refine qC_mono (qC_and (c _ _ _ _ ea eb ec el) b2) fun r s2 q => ?_
  obtain ⟨⟨e, z2, x2⟩, R2⟩ := q
  exact ⟨e, ⟨z2, R2⟩, x2⟩
theorem prb_day {a : Int32} (hJ : zV s) (h : ∀ v s1, y_J x_X s1 → (∀ i j, gI s1 65 i j = gI s 65 i j) → (∀ a', a' = a → qC false 1200 255 [lR 33 (some 0), lI a'] s1 (prb s1 v)) → Q (some (lI v)) s1) : qC false 1200 163 [lR 0 (some 0), lI a] s Q := by
  have a0 := prl_day (a := a) (s := s) (Q := fun r s1 => ∃ v, r = some (lI v) ∧ y_J x_X s1 ∧ (∀ i j, gI s1 65 i j = gI s 65 i j) ∧ ∀ a', a' = a → qC false 1200 255 [lR 33 (some 0), lI a'] s1 (prl s1 v)) hJ.1 (fun v s1 a b c => ⟨v, rfl, a, b, c⟩)
  have b0 : qC false 1200 163 [lR 0 (some 0), lI a] s (fun _ m => RB m) := rbc (d := 1200) (As := [lR 0 (some 0), lI a]) (y_all x_X_cl h_all0 yk_X11_day (List.mem_of_getElem? (i := 101) rfl)) (by decide +kernel) rfl ⟨y_rcv, z_in_top _, trivial⟩ hJ.1.1.1.1.1 (by decide +kernel) hJ.2
  refine qC_mono (qC_and a0 b0) fun r s1 q => ?_
  obtain ⟨⟨v, rfl, J1, X1, c⟩, R1⟩ := q
  refine h v s1 J1 X1 (fun a' ea => ?_)
  have b2 : qC false 1200 255 [lR 33 (some 0), lI a'] s1 (fun _ m => RB m) := rbc (d := 1200) (As := [lR 33 (some 0), lI a']) (y_all x_X_cl h_all0 yk_X12_day (List.mem_of_getElem? (i := 195) rfl)) (by decide +kernel) rfl ⟨y_rcv, z_in_top _, trivial⟩ J1 (by decide +kernel) R1
  refine qC_mono (qC_and (c _ ea) b2) fun r s2 q => ?_
  obtain ⟨⟨e, z2, x2⟩, R2⟩ := q
  exact ⟨e, ⟨z2, R2⟩, x2⟩
theorem prb_run {a : Int32} (hJ : zV s) (h : ∀ v s1, y_J x_X s1 → (∀ i j, gI s1 65 i j = gI s 65 i j) → (∀ a', a' = a → qC false 1200 256 [lR 33 (some 0), lI a'] s1 (prb s1 v)) → Q (some (lI v)) s1) : qC false 1200 164 [lR 0 (some 0), lI a] s Q := by
  have a0 := prl_run (a := a) (s := s) (Q := fun r s1 => ∃ v, r = some (lI v) ∧ y_J x_X s1 ∧ (∀ i j, gI s1 65 i j = gI s 65 i j) ∧ ∀ a', a' = a → qC false 1200 256 [lR 33 (some 0), lI a'] s1 (prl s1 v)) hJ.1 (fun v s1 a b c => ⟨v, rfl, a, b, c⟩)
  have b0 : qC false 1200 164 [lR 0 (some 0), lI a] s (fun _ m => RB m) := rbc (d := 1200) (As := [lR 0 (some 0), lI a]) (y_all x_X_cl h_all0 yk_X11_run (List.mem_of_getElem? (i := 79) rfl)) (by decide +kernel) rfl ⟨y_rcv, z_in_top _, trivial⟩ hJ.1.1.1.1.1 (by decide +kernel) hJ.2
  refine qC_mono (qC_and a0 b0) fun r s1 q => ?_
  obtain ⟨⟨v, rfl, J1, X1, c⟩, R1⟩ := q
  refine h v s1 J1 X1 (fun a' ea => ?_)
  have b2 : qC false 1200 256 [lR 33 (some 0), lI a'] s1 (fun _ m => RB m) := rbc (d := 1200) (As := [lR 33 (some 0), lI a']) (y_all x_X_cl h_all0 yk_X12_run (List.mem_of_getElem? (i := 150) rfl)) (by decide +kernel) rfl ⟨y_rcv, z_in_top _, trivial⟩ J1 (by decide +kernel) R1
  refine qC_mono (qC_and (c _ ea) b2) fun r s2 q => ?_
  obtain ⟨⟨e, z2, x2⟩, R2⟩ := q
  exact ⟨e, ⟨z2, R2⟩, x2⟩
theorem prb_image (hJ : zV s) (h : ∀ v s1, y_J x_X s1 → (∀ i j, gI s1 65 i j = gI s 65 i j) → (qC false 1200 311 [lR 33 (some 0)] s1 (prb s1 v)) → Q (some (lI v)) s1) : qC false 1200 171 [lR 0 (some 0)] s Q := by
  have a0 := prl_image (s := s) (Q := fun r s1 => ∃ v, r = some (lI v) ∧ y_J x_X s1 ∧ (∀ i j, gI s1 65 i j = gI s 65 i j) ∧ qC false 1200 311 [lR 33 (some 0)] s1 (prl s1 v)) hJ.1 (fun v s1 a b c => ⟨v, rfl, a, b, c⟩)
  have b0 : qC false 1200 171 [lR 0 (some 0)] s (fun _ m => RB m) := rbc (d := 1200) (As := [lR 0 (some 0)]) (y_all x_X_cl h_all0 yk_X11_image (List.mem_of_getElem? (i := 114) rfl)) (by decide +kernel) rfl ⟨y_rcv, trivial⟩ hJ.1.1.1.1.1 (by decide +kernel) hJ.2
  refine qC_mono (qC_and a0 b0) fun r s1 q => ?_
  obtain ⟨⟨v, rfl, J1, X1, c⟩, R1⟩ := q
  refine h v s1 J1 X1 ?_
  have b2 : qC false 1200 311 [lR 33 (some 0)] s1 (fun _ m => RB m) := rbc (d := 1200) (As := [lR 33 (some 0)]) h_X12_image (by decide +kernel) rfl ⟨y_rcv, trivial⟩ J1 (by decide +kernel) R1
  refine qC_mono (qC_and c b2) fun r s2 q => ?_
  obtain ⟨⟨e, z2, x2⟩, R2⟩ := q
  exact ⟨e, ⟨z2, R2⟩, x2⟩
theorem prb_back (hJ : zV s) (h : ∀ v s1, y_J x_X s1 → (∀ i j, gI s1 65 i j = gI s 65 i j) → (qC false 1200 312 [lR 33 (some 0)] s1 (prb s1 v)) → Q (some (lI v)) s1) : qC false 1200 172 [lR 0 (some 0)] s Q := by
  have a0 := prl_back (s := s) (Q := fun r s1 => ∃ v, r = some (lI v) ∧ y_J x_X s1 ∧ (∀ i j, gI s1 65 i j = gI s 65 i j) ∧ qC false 1200 312 [lR 33 (some 0)] s1 (prl s1 v)) hJ.1 (fun v s1 a b c => ⟨v, rfl, a, b, c⟩)
  have b0 : qC false 1200 172 [lR 0 (some 0)] s (fun _ m => RB m) := rbc (d := 1200) (As := [lR 0 (some 0)]) (y_all x_X_cl h_all0 yk_X11_back (List.mem_of_getElem? (i := 115) rfl)) (by decide +kernel) rfl ⟨y_rcv, trivial⟩ hJ.1.1.1.1.1 (by decide +kernel) hJ.2
  refine qC_mono (qC_and a0 b0) fun r s1 q => ?_
  obtain ⟨⟨v, rfl, J1, X1, c⟩, R1⟩ := q
  refine h v s1 J1 X1 ?_
  have b2 : qC false 1200 312 [lR 33 (some 0)] s1 (fun _ m => RB m) := rbc (d := 1200) (As := [lR 33 (some 0)]) h_X12_back (by decide +kernel) rfl ⟨y_rcv, trivial⟩ J1 (by decide +kernel) R1
  refine qC_mono (qC_and c b2) fun r s2 q => ?_
  obtain ⟨⟨e, z2, x2⟩, R2⟩ := q
  exact ⟨e, ⟨z2, R2⟩, x2⟩
theorem prb_count {a : Int32} (hJ : zV s) (h : ∀ v s1, y_J x_X s1 → (∀ i j, gI s1 65 i j = gI s 65 i j) → (∀ a', a' = a → qC false 1200 313 [lR 33 (some 0), lI a'] s1 (prb s1 v)) → Q (some (lI v)) s1) : qC false 1200 160 [lR 0 (some 0), lI a] s Q := by
  have a0 := prl_count (a := a) (s := s) (Q := fun r s1 => ∃ v, r = some (lI v) ∧ y_J x_X s1 ∧ (∀ i j, gI s1 65 i j = gI s 65 i j) ∧ ∀ a', a' = a → qC false 1200 313 [lR 33 (some 0), lI a'] s1 (prl s1 v)) hJ.1 (fun v s1 a b c => ⟨v, rfl, a, b, c⟩)
  have b0 : qC false 1200 160 [lR 0 (some 0), lI a] s (fun _ m => RB m) := rbc (d := 1200) (As := [lR 0 (some 0), lI a]) (y_all x_X_cl h_all0 yk_X11_count (List.mem_of_getElem? (i := 222) rfl)) (by decide +kernel) rfl ⟨y_rcv, z_in_top _, trivial⟩ hJ.1.1.1.1.1 (by decide +kernel) hJ.2
  refine qC_mono (qC_and a0 b0) fun r s1 q => ?_
  obtain ⟨⟨v, rfl, J1, X1, c⟩, R1⟩ := q
  refine h v s1 J1 X1 (fun a' ea => ?_)
  have b2 : qC false 1200 313 [lR 33 (some 0), lI a'] s1 (fun _ m => RB m) := rbc (d := 1200) (As := [lR 33 (some 0), lI a']) (y_all x_X_cl h_all0 yk_X12_count (List.mem_of_getElem? (i := 223) rfl)) (by decide +kernel) rfl ⟨y_rcv, z_in_top _, trivial⟩ J1 (by decide +kernel) R1
  refine qC_mono (qC_and (c _ ea) b2) fun r s2 q => ?_
  obtain ⟨⟨e, z2, x2⟩, R2⟩ := q
  exact ⟨e, ⟨z2, R2⟩, x2⟩
theorem prb_shut {a : Int32} {b : Int32} (hb : (0 : Int) ≤ b.toInt ∧ b.toInt ≤ 1) (hJ : zV s) (h : ∀ v s1, y_J x_X s1 → (∀ i j, gI s1 65 i j = gI s 65 i j) → (∀ a' b', a' = a → b' = b → qC false 1200 264 [lR 33 (some 0), lI a', lI b'] s1 (prb s1 v)) → Q (some (lI v)) s1) : qC false 1200 169 [lR 0 (some 0), lI a, lI b] s Q := by
  have a0 := prl_shut (a := a) (b := b) hb (s := s) (Q := fun r s1 => ∃ v, r = some (lI v) ∧ y_J x_X s1 ∧ (∀ i j, gI s1 65 i j = gI s 65 i j) ∧ ∀ a' b', a' = a → b' = b → qC false 1200 264 [lR 33 (some 0), lI a', lI b'] s1 (prl s1 v)) hJ.1 (fun v s1 a b c => ⟨v, rfl, a, b, c⟩)
  have b0 : qC false 1200 169 [lR 0 (some 0), lI a, lI b] s (fun _ m => RB m) := rbc (d := 1200) (As := [lR 0 (some 0), lI a, lI b]) (y_all x_X_cl h_all0 yk_X11_shut (List.mem_of_getElem? (i := 197) rfl)) (by decide +kernel) rfl ⟨y_rcv, z_in_top _, ⟨hb.1, hb.2⟩, trivial⟩ hJ.1.1.1.1.1 (by decide +kernel) hJ.2
  refine qC_mono (qC_and a0 b0) fun r s1 q => ?_
  obtain ⟨⟨v, rfl, J1, X1, c⟩, R1⟩ := q
  refine h v s1 J1 X1 (fun a' b' ea eb => ?_)
  have b2 : qC false 1200 264 [lR 33 (some 0), lI a', lI b'] s1 (fun _ m => RB m) := rbc (d := 1200) (As := [lR 33 (some 0), lI a', lI b']) (y_all x_X_cl h_all0 yk_X12_shut (List.mem_of_getElem? (i := 198) rfl)) (by decide +kernel) rfl ⟨y_rcv, z_in_top _, ⟨by rw [eb]; exact hb.1, by rw [eb]; exact hb.2⟩, trivial⟩ J1 (by decide +kernel) R1
  refine qC_mono (qC_and (c _ _ ea eb) b2) fun r s2 q => ?_
  obtain ⟨⟨e, z2, x2⟩, R2⟩ := q
  exact ⟨e, ⟨z2, R2⟩, x2⟩
theorem sfv_X12_whose (a0 : Int32) (a1 : Int32) (a2 : Int32) {s : LMem} {Q : LPost} (hJ : zV s) (h : lqv s Q) : qC false 1200 299 [lR 33 (some 0), lI a0, lI a1, lI a2] s Q := by
  have a := sfd_X12_whose a0 a1 a2 (s := s) (Q := fun r m => ∃ v, r = some (lI v) ∧ zD m ∧ ∀ i j, gI m 65 i j = gI s 65 i j) hJ.1.1 (fun v m z x => ⟨v, rfl, z, x⟩)
  have b : qC false 1200 299 [lR 33 (some 0), lI a0, lI a1, lI a2] s (fun _ m => y_Fr vk_X12_whose.2.2.2.1 s m) := by
    have C := v_all (xR_cl (s0 := s) (V := []) rfl) (v_hand s) vk_X12_whose (List.mem_of_getElem? (i := 11) rfl)
    refine C 1200 (by decide) [lR 33 (some 0), lI a0, lI a1, lI a2] s _ ⟨y_rcv, z_in_top _, z_in_top _, z_in_top _, trivial⟩ (J_xR hJ.1.1.1.1.1 (RS_rf s)) ⟨fun q hq => ?_, fun _ q => absurd q List.not_mem_nil⟩ fun r s' hr J' F' => F'
    have hq : q ∈ [((33 : Nat), (0 : Nat), (37 : Nat), (Sum.inl (-1, -1) : YA))] := hq
    rw [List.mem_singleton.mp hq]
    show (-1 : Int) ≤ (gI s 33 0 37).toInt ∧ (gI s 33 0 37).toInt ≤ -1
    rw [hJ.1.1.2.2.1]
    decide
  refine qC_mono (qC_and a b) fun r m q => ?_
  obtain ⟨⟨v, rfl, z, x⟩, F⟩ := q
  exact h v m ⟨⟨z, RLw_fr (by decide +kernel) F hJ.1.2⟩, RB_fr (by decide +kernel) hJ.1.1.1.1.1 F hJ.2⟩ x
end PLB
