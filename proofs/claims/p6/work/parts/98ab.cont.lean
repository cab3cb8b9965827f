/-! BOTH KEEP THE SAME DITCHES AND RAINS. -/
def RC (s : LMem) : Prop := (∀ dd, dd < (gI s 33 0 21).toNatClampNeg → gI s 4 dd 1 = gI s 44 0 dd ∧ ∀ r w : Nat, (r : Int) < (gI s 44 0 dd).toInt → w < 5 → gI s 6 (20 * dd + r) w = gI s 45 0 (100 * dd + 5 * r + w) ∧ 0 ≤ (gI s 45 0 (100 * dd + 5 * r + w)).toInt) ∧ (∀ r, r < (gI s 33 0 22).toNatClampNeg → gI s 13 r 1 = gI s 46 0 r ∧ ∀ j : Nat, (j : Int) < (gI s 46 0 r).toInt → gI s 14 r j = gI s 47 0 (30 * r + j))
theorem ctK_tr {D R : Nat} {s m m2 : LMem} (h : ctK D R s m) (h2 : ctK D R m m2) : ctK D R s m2 := ⟨fun dd hd => ⟨(h2.1 dd hd).1.trans (h.1 dd hd).1, fun i w a b => ((h2.1 dd hd).2 i w a b).trans ((h.1 dd hd).2 i w a b)⟩, fun r hr => ⟨(h2.2 r hr).1.trans (h.2 r hr).1, fun j => ((h2.2 r hr).2 j).trans ((h.2 r hr).2 j)⟩⟩
theorem cuK_tr {D R : Nat} {s m m2 : LMem} (h : cuK D R s m) (h2 : cuK D R m m2) : cuK D R s m2 := ⟨fun dd hd => ⟨(h2.1 dd hd).1.trans (h.1 dd hd).1, fun j a b => ((h2.1 dd hd).2 j a b).trans ((h.1 dd hd).2 j a b)⟩, fun r hr => ⟨(h2.2 r hr).1.trans (h.2 r hr).1, fun j a b => ((h2.2 r hr).2 j a b).trans ((h.2 r hr).2 j a b)⟩⟩
theorem fr_ct {W : List YW} {D R : Nat} {s m : LMem} (F : y_Fr W s m) (h : (W.all fun w => !(Nat.beq w.1 4) && (!(Nat.beq w.1 6) && (!(Nat.beq w.1 13) && !(Nat.beq w.1 14)))) = true) : ctK D R s m := by
  have a : ∀ k, (k = 4 ∨ k = 6 ∨ k = 13 ∨ k = 14) → (W.all fun w => !(Nat.beq w.1 k)) = true := fun k hk => List.all_eq_true.mpr fun w hw => by
    have g := List.all_eq_true.mp h w hw
    rcases hk with rfl | rfl | rfl | rfl
    · exact (qa_and g).1
    · exact (qa_and (qa_and g).2).1
    · exact (qa_and (qa_and (qa_and g).2).2).1
    · exact (qa_and (qa_and (qa_and g).2).2).2
  exact ⟨fun d _ => ⟨fr_K F 4 (a 4 (by omega)) d 1, fun i w _ _ => fr_K F 6 (a 6 (by omega)) i w⟩, fun r _ => ⟨fr_K F 13 (a 13 (by omega)) r 1, fun j => fr_K F 14 (a 14 (by omega)) r j⟩⟩
theorem RC_k {s m : LMem} (hJ : y_J x_X s) (e21 : gI m 33 0 21 = gI s 33 0 21) (e22 : gI m 33 0 22 = gI s 33 0 22) (C : ctK (gI s 33 0 21).toNatClampNeg (gI s 33 0 22).toNatClampNeg s m) (U : cuK (gI s 33 0 21).toNatClampNeg (gI s 33 0 22).toNatClampNeg s m) (h : RC s) : RC m := by
  have b21 := cl_i (hi := 4) (hJ.1 33 0 21 (21, 21, 0, 4) (by decide) (by decide) (by decide)).1 (hJ.1 33 0 21 (21, 21, 0, 4) (by decide) (by decide) (by decide)).2
  have b22 := cl_i (hi := 4) (hJ.1 33 0 22 (22, 22, 0, 4) (by decide) (by decide) (by decide)).1 (hJ.1 33 0 22 (22, 22, 0, 4) (by decide) (by decide) (by decide)).2
  unfold RC
  rw [e21, e22]
  refine ⟨fun dd hd => ?_, fun r hr => ?_⟩
  · obtain ⟨h1, h2⟩ := h.1 dd hd
    have u := U.1 dd hd
    have c := C.1 dd hd
    have n20 : (gI s 44 0 dd).toInt ≤ 20 := (hJ.1 44 0 dd (0, 4, 0, 20) (by decide) (by show (0 : Int) ≤ (dd : Int); omega) (by show (dd : Int) ≤ 4; omega)).2
    refine ⟨by rw [c.1, u.1, h1], fun r w g1 g2 => ?_⟩
    rw [u.1] at g1
    rw [c.2 _ w (by omega) (by omega), u.2 _ (by omega) (by omega)]
    exact h2 r w g1 g2
  · obtain ⟨h1, h2⟩ := h.2 r hr
    have u := U.2 r hr
    have c := C.2 r hr
    have n30 : (gI s 46 0 r).toInt ≤ 30 := (hJ.1 46 0 r (0, 4, 0, 30) (by decide) (by show (0 : Int) ≤ (r : Int); omega) (by show (r : Int) ≤ 4; omega)).2
    refine ⟨by rw [c.1, u.1, h1], fun j g1 => ?_⟩
    rw [u.1] at g1
    rw [c.2 j, u.2 _ (by omega) (by omega), h2 j g1]
def rk_w (w : YW) : Bool := rt_w w && ((!(Nat.beq w.1 4) && (!(Nat.beq w.1 6) && (!(Nat.beq w.1 13) && !(Nat.beq w.1 14)))) && (!(Nat.beq w.1 44) && (!(Nat.beq w.1 45) && (!(Nat.beq w.1 46) && !(Nat.beq w.1 47)))))
theorem rk_s {W : List YW} (h : W.all rk_w = true) : W.all rt_w = true ∧ (W.all fun w => !(Nat.beq w.1 4) && (!(Nat.beq w.1 6) && (!(Nat.beq w.1 13) && !(Nat.beq w.1 14)))) = true ∧ (W.all fun w => !(Nat.beq w.1 44) && (!(Nat.beq w.1 45) && (!(Nat.beq w.1 46) && !(Nat.beq w.1 47)))) = true := ⟨List.all_eq_true.mpr fun w hw => (qa_and (List.all_eq_true.mp h w hw)).1, List.all_eq_true.mpr fun w hw => (qa_and (qa_and (List.all_eq_true.mp h w hw)).2).1, List.all_eq_true.mpr fun w hw => (qa_and (qa_and (List.all_eq_true.mp h w hw)).2).2⟩
theorem RC_fr {W : List YW} (h : W.all rk_w = true) {s s' : LMem} (hJ : y_J x_X s) (F : y_Fr W s s') (R : RC s) : RC s' := by
  obtain ⟨a, b, c⟩ := rk_s h
  exact RC_k hJ ((rt_k a F).2.2.2.2.2 21 (by decide)) ((rt_k a F).2.2.2.2.2 22 (by decide)) (fr_ct F b) (fr_cu F c) R
def zK (s : LMem) : Prop := zJ s ∧ RC s
def lqk (s : LMem) (Q : LPost) : Prop := ∀ v s', zK s' → (∀ i j, gI s' 65 i j = gI s 65 i j) → Q (some (lI v)) s'
theorem sf_conk {ct : YCt} (H : y_con x_X ct) (hk : (Nat.ble ct.2.2.2.2.2 1200 && ((ct.2.2.2.1.all rk_w) && ct.2.2.2.2.1.all sf_a)) = true) (hp : ct.2.2.1 = ([], [])) {As : List LV} {s : LMem} {Q : LPost} (hA : y_as ct.2.1 As) (hJ : zK s) (h : lqk s Q) : qC false 1200 ct.1 As s Q := by
  obtain ⟨k1, k2⟩ := qa_and hk
  obtain ⟨k2, k3⟩ := qa_and k2
  have k4 := (rk_s k2).1
  refine H 1200 (Nat.le_of_ble_eq_true k1) As s Q hA hJ.1.1 (by rw [hp]; exact ⟨y_msnil, fun _ q => absurd q List.not_mem_nil⟩) fun r s' hr J' F' => ?_
  obtain ⟨a, ha, h1, _⟩ := hr
  have h3 := List.all_eq_true.mp k3 a ha
  obtain ⟨a1, a2⟩ := a
  rcases a1 with _ | b | b
  · cases h3
  · rcases r with _ | v
    · exact h1.elim
    · have h1 : y_sv (.inl b) v := h1
      obtain ⟨x, rfl, _, _⟩ := y_aI h1
      exact h x s' ⟨⟨J', rt_fr k4 F' hJ.1.2⟩, RC_fr k2 hJ.1.1 F' hJ.2⟩ (rt_k k4 F').2.2.2.1
  · cases h3
