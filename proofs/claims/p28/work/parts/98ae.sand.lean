/-! WHAT IS TRIED APART LEAVES WHAT STANDS: now, draws, seed of the reference are as they were. -/
def RS (s s' : LMem) : Prop := (∀ j, j < 279 → gI s' 48 0 j = gI s 48 0 j) ∧ gL s' 33 0 29 = gL s 33 0 29 ∧ gL s' 33 0 30 = gL s 33 0 30
theorem RS_rf (s : LMem) : RS s s := ⟨fun _ _ => rfl, rfl, rfl⟩
theorem RS_tr {a b c : LMem} (h1 : RS a b) (h2 : RS b c) : RS a c := ⟨fun j hj => (h2.1 j hj).trans (h1.1 j hj), h2.2.1.trans h1.2.1, h2.2.2.trans h1.2.2⟩
def xR (s0 s : LMem) : Prop := x_X s ∧ RS s0 s
def rs_v (w : YW) : Bool := !(Nat.beq w.1 48) && (!(Nat.beq w.1 33) || (decide (30 < w.2.2.2.1) || decide (w.2.2.2.2 < 29)))
theorem rs_n {W : List YW} (h : W.all rs_v = true) : (∀ i j, ¬ y_iW W 48 i j) ∧ (∀ i, ¬ y_iW W 33 i 29) ∧ ∀ i, ¬ y_iW W 33 i 30 := by
  have K : ∀ k i j, y_iW W k i j → ∃ w, w.1 = k ∧ (w.2.2.2.1 ≤ (j : Int) ∧ (j : Int) ≤ w.2.2.2.2) ∧ rs_v w = true := fun k i j ⟨w, hw, e, _, e2⟩ => ⟨w, e, e2, List.all_eq_true.mp h w hw⟩
  refine ⟨fun i j q => ?_, fun i q => ?_, fun i q => ?_⟩
  · obtain ⟨w, e, _, r⟩ := K _ _ _ q
    exact rt_n (qa_and r).1 e
  · obtain ⟨w, e, ⟨e1, e2⟩, r⟩ := K _ _ _ q
    have r := rt_o (qa_and r).2 (by rw [e]; rfl)
    rcases (Bool.or_eq_true _ _).mp r with r | r <;> (have r := of_decide_eq_true r; omega)
  · obtain ⟨w, e, ⟨e1, e2⟩, r⟩ := K _ _ _ q
    have r := rt_o (qa_and r).2 (by rw [e]; rfl)
    rcases (Bool.or_eq_true _ _).mp r with r | r <;> (have r := of_decide_eq_true r; omega)
theorem RS_fr {W : List YW} (h : W.all rs_v = true) {s s' : LMem} (F : y_Fr W s s') : RS s s' := by
  obtain ⟨a, b, c⟩ := rs_n h
  exact ⟨fun j _ => (F 48 0 j (a 0 j)).1, (F 33 0 29 (b 0)).2.1, (F 33 0 30 (c 0)).2.1⟩
theorem xR_cl {s0 : LMem} {V : List YW} (h : V.all rs_v = true) : y_clv (xR s0) V := by
  obtain ⟨a, b, c⟩ := rs_n h
  obtain ⟨c1, c2, c3⟩ := y_cl_v x_X_cl V
  refine ⟨fun s k i j x hw hn q => ⟨c1 s k i j x hw hn q.1, fun j2 h2 => ?_, q.2.2.1, q.2.2.2⟩, fun s k i j x hw q => ⟨c2 s k i j x hw q.1, q.2.1, ?_, ?_⟩, fun s k i j x hw q => ⟨c3 s k i j x hw q.1, q.2⟩⟩
  · rw [gI_sI, if_neg (fun e => a i j (by rw [e.1]; exact hw))]
    exact q.2.1 j2 h2
  · rw [gL_sL, if_neg (fun e => b i (by rw [e.1, e.2.2]; exact hw))]
    exact q.2.2.1
  · rw [gL_sL, if_neg (fun e => c i (by rw [e.1, e.2.2]; exact hw))]
    exact q.2.2.2
theorem xR_J {s0 s : LMem} (h : y_J (xR s0) s) : y_J x_X s := ⟨h.1, h.2.1, h.2.2.1⟩
theorem J_xR {s0 s : LMem} (h : y_J x_X s) (r : RS s0 s) : y_J (xR s0) s := ⟨h.1, h.2.1, h.2.2, r⟩
/-- a contract that leaves alone what stands -/
theorem con_R {s0 : LMem} {ct : YCt} (H : y_con x_X ct) (h : ct.2.2.2.1.all rs_v = true) : y_con (xR s0) ct := fun d hd As s Q hA hJ hp hQ => H d hd As s Q hA (xR_J hJ) hp fun r s' a J F => hQ r s' a (J_xR J (RS_tr hJ.2.2.2 (RS_fr h F))) F
/-! putAside, takeBack: all that they do -/
theorem h_putG {d : Nat} {s : LMem} {Q : LPost} (hJ : y_J x_X s) (h : ∀ m, y_J x_X m → y_Fr yh_X12_putAside.2.2.2.1 s m → (∀ j, j < 279 → gI m 49 0 j = gI s 48 0 j) → gL m 33 0 31 = gL s 33 0 29 → gL m 33 0 33 = gL s 33 0 30 → Q none m) : qC false (d + 1) 265 [lR 33 (some 0)] s Q := by
  refine qC_of rfl rfl ?_
  refine qa_t1_W (cut := [2]) 10 ?_
  refine h_X12_putAside_l (fun m hm => ?_) 279 0 s rfl (x_cp_0 48 49 s)
  refine qa_t1_W (cut := []) 20 ?_
  have hJ1 := x_cp_J (by decide) (by decide) (by decide) hJ hm
  have hF1 : y_Fr yh_X12_putAside.2.2.2.1 s m := x_cp_Fr hm (by decide)
  refine h _ (y_J_sL (y_J_sL hJ1)) (y_Fr_sL (y_Fr_sL hF1 (x_iW1 (by decide))) (x_iW1 (by decide))) hm.2.1 ?_ ?_
  · rw [gL_sL, if_neg (by decide), gL_sL, if_pos ⟨rfl, rfl, rfl⟩]
    exact hm.2.2.1 33 0 29
  · rw [gL_sL, if_pos ⟨rfl, rfl, rfl⟩, gL_sL, if_neg (by decide)]
    exact hm.2.2.1 33 0 30
theorem h_takeG {d : Nat} {s : LMem} {Q : LPost} (hJ : y_J x_X s) (h : ∀ m, y_J x_X m → y_Fr yh_X12_takeBack.2.2.2.1 s m → (∀ j, j < 279 → gI m 48 0 j = gI s 49 0 j) → gL m 33 0 29 = gL s 33 0 31 → gL m 33 0 30 = gL s 33 0 33 → Q none m) : qC false (d + 1) 266 [lR 33 (some 0)] s Q := by
  refine qC_of rfl rfl ?_
  refine qa_t1_W (cut := [2]) 10 ?_
  refine h_X12_takeBack_l (fun m hm => ?_) 279 0 s rfl (x_cp_0 49 48 s)
  refine qa_t1_W (cut := []) 20 ?_
  have hJ1 := x_cp_J (by decide) (by decide) (by decide) hJ hm
  have hF1 : y_Fr yh_X12_takeBack.2.2.2.1 s m := x_cp_Fr hm (by decide)
  refine h _ (y_J_sL (y_J_sL hJ1)) (y_Fr_sL (y_Fr_sL hF1 (x_iW1 (by decide))) (x_iW1 (by decide))) hm.2.1 ?_ ?_
  · rw [gL_sL, if_neg (by decide), gL_sL, if_pos ⟨rfl, rfl, rfl⟩]
    exact hm.2.2.1 33 0 31
  · rw [gL_sL, if_pos ⟨rfl, rfl, rfl⟩, gL_sL, if_neg (by decide)]
    exact hm.2.2.1 33 0 33
/-! THE SANDWICH: putAside, something, takeBack. -/
def y_nw (W : List YW) (q : YMS) : Bool := W.all fun w => !(Nat.beq w.1 q.1) || (decide ((q.2.2.1 : Int) < w.2.2.2.1) || decide (w.2.2.2.2 < (q.2.2.1 : Int)))
theorem mss_fr {W : List YW} {s m : LMem} (F : y_Fr W s m) {l : List YMS} (h : l.all (y_nw W) = true) (hs : y_mss s l) : y_mss m l := fun q hq => by
  have n : ¬ y_iW W q.1 q.2.1 q.2.2.1 := x_nW q.2.2.1 q.2.2.1 (List.all_eq_true.mp h q hq) (Int.le_refl _) (Int.le_refl _)
  obtain ⟨f1, _, f3⟩ := F _ _ _ n
  have := hs q hq
  unfold y_msv at this ⊢
  split
  · rename_i b e
    rw [e] at this
    rw [f1]
    exact this
  · trivial
  · rename_i t e
    rw [e] at this
    rw [f3]
    exact this
def sw_v (w : YW) : Bool := !(Nat.beq w.1 49) && (!(Nat.beq w.1 33) || (decide (33 < w.2.2.2.1) || decide (w.2.2.2.2 < 31)))
theorem sw_n {W : List YW} (h : W.all sw_v = true) : (∀ i j, ¬ y_iW W 49 i j) ∧ (∀ i, ¬ y_iW W 33 i 31) ∧ ∀ i, ¬ y_iW W 33 i 33 := by
  have K : ∀ k i j, y_iW W k i j → ∃ w, w.1 = k ∧ (w.2.2.2.1 ≤ (j : Int) ∧ (j : Int) ≤ w.2.2.2.2) ∧ sw_v w = true := fun k i j ⟨w, hw, e, _, e2⟩ => ⟨w, e, e2, List.all_eq_true.mp h w hw⟩
  refine ⟨fun i j q => ?_, fun i q => ?_, fun i q => ?_⟩
  · obtain ⟨w, e, _, r⟩ := K _ _ _ q
    exact rt_n (qa_and r).1 e
  · obtain ⟨w, e, ⟨e1, e2⟩, r⟩ := K _ _ _ q
    have r := rt_o (qa_and r).2 (by rw [e]; rfl)
    rcases (Bool.or_eq_true _ _).mp r with r | r <;> (have r := of_decide_eq_true r; omega)
  · obtain ⟨w, e, ⟨e1, e2⟩, r⟩ := K _ _ _ q
    have r := rt_o (qa_and r).2 (by rw [e]; rfl)
    rcases (Bool.or_eq_true _ _).mp r with r | r <;> (have r := of_decide_eq_true r; omega)
/-- RS, out of what the three parts do -/
theorem sw_RS {W1 : List YW} (h1 : W1.all sw_v = true) {s s1 s2 s3 : LMem} (c1 : ∀ j, j < 279 → gI s1 49 0 j = gI s 48 0 j) (c2 : gL s1 33 0 31 = gL s 33 0 29) (c3 : gL s1 33 0 33 = gL s 33 0 30) (F2 : y_Fr W1 s1 s2) (e1 : ∀ j, j < 279 → gI s3 48 0 j = gI s2 49 0 j) (e2 : gL s3 33 0 29 = gL s2 33 0 31) (e3 : gL s3 33 0 30 = gL s2 33 0 33) : RS s s3 := by
  obtain ⟨a, b, c⟩ := sw_n h1
  exact ⟨fun j hj => ((e1 j hj).trans (F2 49 0 j (a 0 j)).1).trans (c1 j hj), (e2.trans (F2 33 0 31 (b 0)).2.1).trans c2, (e3.trans (F2 33 0 33 (c 0)).2.1).trans c3⟩
theorem y_sand0 {CT : List YCt} (hCT : ∀ ct ∈ CT, y_con x_X ct) {mi h f nB nC : Nat} {V W1 WM : List YW} {alts : List (Option YA × List YMS)} {pP cB pT cC : YCut} {kB : List YCut}
    (hB : y_seg CT V W1 mi h [] (cB :: kB) [pT] f nB = true) (hC : y_seg CT [] [] mi h alts [cC] [] f nC = true)
    (hP : ∀ (d bc bs : Nat) (L : LLoc) (s : LMem) (Q : LPost), y_sls pP.2.1 L → qC false d 265 [lR 33 (some 0)] s (fun r s' => r = none ∧ qW false d mi bc bs cB.1 L [] s' Q) → qW false d mi bc bs pP.1 L [] s Q)
    (hT : ∀ (d bc bs : Nat) (L : LLoc) (s : LMem) (Q : LPost), y_sls pT.2.1 L → qC false d 266 [lR 33 (some 0)] s (fun r s' => r = none ∧ qW false d mi bc bs cC.1 L [] s' Q) → qW false d mi bc bs pT.1 L [] s Q)
    (eB : cB.2.1 = pP.2.1 ∧ cB.2.2.1 = pP.2.2.1 ∧ pP.2.2.1.all (y_nw yh_X12_putAside.2.2.2.1) = true) (eC : cC.2.1 = pT.2.1 ∧ cC.2.2.1 = pT.2.2.1 ∧ pT.2.2.1.all (y_nw yh_X12_takeBack.2.2.2.1) = true)
    (hW : W1.all sw_v = true ∧ y_sub2 W1 WM = true ∧ y_sub2 yh_X12_putAside.2.2.2.1 WM = true ∧ y_sub2 yh_X12_takeBack.2.2.2.1 WM = true) (hh : 1 ≤ h)
    {d bc bs : Nat} (hd : h ≤ d) {L : LLoc} {s : LMem} {Q : LPost} (hL : y_sls pP.2.1 L) (hm : y_mss s pP.2.2.1) (hJ : y_J x_X s) (hQ : ∀ r s', (∃ a ∈ alts, y_ro a.1 r ∧ y_mss s' a.2) → y_J x_X s' → y_Fr WM s s' → RS s s' → Q r s') : qW false d mi bc bs pP.1 L [] s Q := by
  obtain ⟨d', rfl⟩ : ∃ d', d = d' + 1 := ⟨d - 1, by omega⟩
  obtain ⟨b1, b2, b3⟩ := eB
  obtain ⟨t1, t2, t3⟩ := eC
  obtain ⟨w1, w2, w3, w4⟩ := hW
  refine hP (d' + 1) bc bs L s Q hL ?_
  refine h_putG hJ fun s1 J1 F1 c1 c2 c3 => ⟨rfl, ?_⟩
  refine y_seg_ok (y_cl_v x_X_cl V) hCT hB hd (s0 := s1) (fun r s' ha _ _ => ?_) (fun c hc L2 s2 hL2 hm2 J2 F2 => ?_) cB List.mem_cons_self L s1 (by rw [b1]; exact hL) (by rw [b2]; exact mss_fr F1 b3 hm) J1 (y_Fr_rf _ _)
  · obtain ⟨a, ha, _⟩ := ha
    exact absurd ha List.not_mem_nil
  · have hc := List.mem_singleton.mp hc
    subst hc
    refine hT (d' + 1) bc bs L2 s2 Q hL2 ?_
    refine h_takeG J2 fun s3 J3 F3 e1 e2 e3 => ⟨rfl, ?_⟩
    refine y_seg_ok (y_cl_v x_X_cl []) hCT hC hd (s0 := s3) (fun r s4 ha J4 F4 => ?_) (fun c hc => absurd hc List.not_mem_nil) cC List.mem_cons_self L2 s3 (by rw [t1]; exact hL2) (by rw [t2]; exact mss_fr F3 t3 hm2) J3 (y_Fr_rf _ _)
    refine hQ r s4 ha J4 ?_ (RS_tr (sw_RS w1 c1 c2 c3 F2 e1 e2 e3) (RS_fr (W := []) rfl F4))
    exact y_Fr_tr (by rfl) (y_Fr_tr w4 (y_Fr_tr w2 (y_Fr_tr w3 (y_Fr_rf _ _) F1) F2) F3) F4
/-- arguments, no longs among them -/
def y_noL : YA → Bool
  | .inr (.inl _) => false
  | _ => true
theorem y_as_exp : ∀ {l : List YA} {As : List LV}, l.all y_noL = true → y_as l As → qa_exp As = As.map some ∧ y_sls (l.map some) (As.map some)
  | [], [], _, _ => ⟨rfl, trivial⟩
  | [], _ :: _, _, h => h.elim
  | _ :: _, [], _, h => h.elim
  | a :: l, v :: As, hn, h => by
    obtain ⟨n1, n2⟩ := qa_and (show (y_noL a && l.all y_noL) = true from hn)
    obtain ⟨e1, e2⟩ := y_as_exp (l := l) n2 h.2
    refine ⟨?_, ⟨h.1, e2⟩⟩
    rcases a with b | u | t
    · rcases v with x | x | x
      · show some (lI x) :: qa_exp As = _
        rw [e1]
        rfl
      · exact h.1.elim
      · exact h.1.elim
    · cases n1
    · rcases v with x | x | x
      · exact h.1.elim
      · exact h.1.elim
      · show some (.inr (.inr x)) :: qa_exp As = _
        rw [e1]
        rfl
theorem y_as_len : ∀ {l : List YA} {As : List LV}, y_as l As → As.length = l.length
  | [], [], _ => rfl
  | [], _ :: _, h => h.elim
  | _ :: _, [], h => h.elim
  | _ :: l, _ :: As, h => congrArg (· + 1) (y_as_len (l := l) (As := As) h.2)
theorem y_sls_app : ∀ {l : List (Option YA)} {L : LLoc} {n : Nat}, y_sls l L → y_sls (l ++ List.replicate n none) (L ++ List.replicate n none)
  | [], [], n, _ => by
    show y_sls (List.replicate n none) (List.replicate n none)
    induction n with
    | zero => trivial
    | succ n ih => exact ih
  | [], _ :: _, _, h => h.elim
  | none :: _, [], _, h => h.elim
  | some _ :: _, [], _, h => h.elim
  | none :: l, _ :: L, n, h => y_sls_app (l := l) (L := L) h
  | some _ :: l, none :: L, _, h => h.elim
  | some _ :: l, some _ :: L, n, h => ⟨h.1, y_sls_app (l := l) (L := L) h.2⟩
def y_lsA (l : List YA) (n : Nat) : List (Option YA) := l.map some ++ List.replicate (n - l.length) none
theorem y_lsA_ok {l : List YA} {As : List LV} (hn : l.all y_noL = true) (h : y_as l As) (n : Nat) : y_sls (y_lsA l n) (qa_mk As n) := by
  obtain ⟨e1, e2⟩ := y_as_exp hn h
  unfold qa_mk y_lsA
  rw [e1, List.length_map, y_as_len h]
  exact y_sls_app e2
/-- into a method -/
theorem y_into {ct : YCt} (hmi : Nat.blt ct.1 1000 = true) (hn : ct.2.1.all y_noL = true) (hl : Nat.ble ct.2.1.length (qa_mL ct.1) = true) {d : Nat} {As : List LV} {s : LMem} {Q : LPost} (hA : y_as ct.2.1 As) (h : ∀ bc bs, qW false d ct.1 bc bs 0 (qa_mk As (qa_mL ct.1)) [] s Q) : qC false (d + 1) ct.1 As s Q := by
  have hc : Nat.ble 1000 ct.1 = false := by
    cases hc : Nat.ble 1000 ct.1 with
    | false => rfl
    | true =>
      have := Nat.le_of_ble_eq_true hc
      have := qa_blt' hmi
      omega
  refine qC_of hc ?_ (h _ _)
  rw [(y_as_exp hn hA).1, List.length_map, y_as_len hA]
  exact hl
/-- a method that is a sandwich from its first row on -/
theorem y_leaf {CT : List YCt} (hCT : ∀ ct ∈ CT, y_con x_X ct) {ct : YCt} {f nB nC : Nat} {V W1 : List YW} {pP cB pT cC : YCut} {kB : List YCut}
    (h0 : Nat.blt ct.1 1000 = true ∧ ct.2.1.all y_noL = true ∧ Nat.ble ct.2.1.length (qa_mL ct.1) = true ∧ 2 ≤ ct.2.2.2.2.2) (hp1 : pP.1 = 0 ∧ pP.2.1 = y_lsA ct.2.1 (qa_mL ct.1) ∧ pP.2.2.1 = ct.2.2.1.1)
    (hB : y_seg CT V W1 ct.1 (ct.2.2.2.2.2 - 1) [] (cB :: kB) [pT] f nB = true) (hC : y_seg CT [] [] ct.1 (ct.2.2.2.2.2 - 1) ct.2.2.2.2.1 [cC] [] f nC = true)
    (hP : ∀ (d bc bs : Nat) (L : LLoc) (s : LMem) (Q : LPost), y_sls pP.2.1 L → qC false d 265 [lR 33 (some 0)] s (fun r s' => r = none ∧ qW false d ct.1 bc bs cB.1 L [] s' Q) → qW false d ct.1 bc bs pP.1 L [] s Q)
    (hT : ∀ (d bc bs : Nat) (L : LLoc) (s : LMem) (Q : LPost), y_sls pT.2.1 L → qC false d 266 [lR 33 (some 0)] s (fun r s' => r = none ∧ qW false d ct.1 bc bs cC.1 L [] s' Q) → qW false d ct.1 bc bs pT.1 L [] s Q)
    (eB : cB.2.1 = pP.2.1 ∧ cB.2.2.1 = pP.2.2.1 ∧ pP.2.2.1.all (y_nw yh_X12_putAside.2.2.2.1) = true) (eC : cC.2.1 = pT.2.1 ∧ cC.2.2.1 = pT.2.2.1 ∧ pT.2.2.1.all (y_nw yh_X12_takeBack.2.2.2.1) = true)
    (hW : W1.all sw_v = true ∧ y_sub2 W1 ct.2.2.2.1 = true ∧ y_sub2 yh_X12_putAside.2.2.2.1 ct.2.2.2.1 = true ∧ y_sub2 yh_X12_takeBack.2.2.2.1 ct.2.2.2.1 = true) (s0 : LMem) : y_con (xR s0) ct := by
  intro d hd As s Q hA hJ hp hQ
  obtain ⟨a1, a2, a3, a4⟩ := h0
  obtain ⟨p1, p2, p3⟩ := hp1
  obtain ⟨d', rfl⟩ : ∃ d', d = d' + 1 := ⟨d - 1, by omega⟩
  refine y_into a1 a2 a3 hA fun bc bs => ?_
  rw [← p1]
  refine y_sand0 hCT hB hC hP hT eB eC hW (by omega) (show _ ≤ d' by omega) (by rw [p2]; exact y_lsA_ok a2 hA _) (by rw [p3]; exact hp.1) (xR_J hJ) fun r s' ha J' F R => ?_
  exact hQ r s' ha (J_xR J' (RS_tr hJ.2.2.2 R)) F
/-- a method that comes to the sandwich behind checks -/
theorem y_root {CT : List YCt} (hCT : ∀ ct ∈ CT, y_con x_X ct) {ct : YCt} {f nA nB nC : Nat} {V W1 : List YW} {cA pP cB pT cC : YCut} {kA kB : List YCut}
    (h0 : Nat.blt ct.1 1000 = true ∧ ct.2.1.all y_noL = true ∧ Nat.ble ct.2.1.length (qa_mL ct.1) = true ∧ 2 ≤ ct.2.2.2.2.2) (hp1 : cA.1 = 0 ∧ cA.2.1 = y_lsA ct.2.1 (qa_mL ct.1) ∧ cA.2.2.1 = ct.2.2.1.1)
    (hA : y_seg CT [] [] ct.1 (ct.2.2.2.2.2 - 1) ct.2.2.2.2.1 (cA :: kA) [pP] f nA = true)
    (hB : y_seg CT V W1 ct.1 (ct.2.2.2.2.2 - 1) [] (cB :: kB) [pT] f nB = true) (hC : y_seg CT [] [] ct.1 (ct.2.2.2.2.2 - 1) ct.2.2.2.2.1 [cC] [] f nC = true)
    (hP : ∀ (d bc bs : Nat) (L : LLoc) (s : LMem) (Q : LPost), y_sls pP.2.1 L → qC false d 265 [lR 33 (some 0)] s (fun r s' => r = none ∧ qW false d ct.1 bc bs cB.1 L [] s' Q) → qW false d ct.1 bc bs pP.1 L [] s Q)
    (hT : ∀ (d bc bs : Nat) (L : LLoc) (s : LMem) (Q : LPost), y_sls pT.2.1 L → qC false d 266 [lR 33 (some 0)] s (fun r s' => r = none ∧ qW false d ct.1 bc bs cC.1 L [] s' Q) → qW false d ct.1 bc bs pT.1 L [] s Q)
    (eB : cB.2.1 = pP.2.1 ∧ cB.2.2.1 = pP.2.2.1 ∧ pP.2.2.1.all (y_nw yh_X12_putAside.2.2.2.1) = true) (eC : cC.2.1 = pT.2.1 ∧ cC.2.2.1 = pT.2.2.1 ∧ pT.2.2.1.all (y_nw yh_X12_takeBack.2.2.2.1) = true)
    (hW : W1.all sw_v = true ∧ y_sub2 W1 ct.2.2.2.1 = true ∧ y_sub2 yh_X12_putAside.2.2.2.1 ct.2.2.2.1 = true ∧ y_sub2 yh_X12_takeBack.2.2.2.1 ct.2.2.2.1 = true) (s0 : LMem) : y_con (xR s0) ct := by
  intro d hd As s Q hA' hJ hp hQ
  obtain ⟨a1, a2, a3, a4⟩ := h0
  obtain ⟨p1, p2, p3⟩ := hp1
  obtain ⟨d', rfl⟩ : ∃ d', d = d' + 1 := ⟨d - 1, by omega⟩
  refine y_into a1 a2 a3 hA' fun bc bs => ?_
  rw [← p1]
  refine y_seg_ok (y_cl_v x_X_cl []) hCT hA (show _ ≤ d' by omega) (s0 := s) (fun r s1 ha J1 F1 => ?_) (fun c hc L1 s1 hL1 hm1 J1 F1 => ?_) cA List.mem_cons_self _ s (by rw [p2]; exact y_lsA_ok a2 hA' _) (by rw [p3]; exact hp.1) (xR_J hJ) (y_Fr_rf _ _)
  · exact hQ r s1 ha (J_xR J1 (RS_tr hJ.2.2.2 (RS_fr (W := []) rfl F1))) (y_Fr_tr (by rfl) (y_Fr_rf _ _) F1)
  · have hc := List.mem_singleton.mp hc
    subst hc
    refine y_sand0 hCT hB hC hP hT eB eC hW (by omega) (show _ ≤ d' by omega) hL1 hm1 J1 fun r s' ha J' F R => ?_
    refine hQ r s' ha (J_xR J' (RS_tr hJ.2.2.2 (RS_tr (RS_fr (W := []) rfl F1) R))) ?_
    exact fun k i j hn => by
      obtain ⟨x1, x2, x3⟩ := F k i j hn
      obtain ⟨y1, y2, y3⟩ := F1 k i j (fun ⟨w, hw, _⟩ => absurd hw List.not_mem_nil)
      exact ⟨x1.trans y1, x2.trans y2, x3.trans y3⟩
