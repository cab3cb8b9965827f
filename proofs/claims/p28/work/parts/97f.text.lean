/-! text AND fault: what both sides answer. -/
/-- how a text of this sort reads -/
def rdS (b : Nat → Int32) (l sort : Nat) : Bool × Nat → Prop := if sort = 0 then fun x => dtS b l 20 (sk b l 0) = x else if sort = 1 then Pr b l 11 0 (sk b l 0) else fun x => rnF b l 30 (sk b l 0) = x
theorem rdS_det {b : Nat → Int32} {l sort : Nat} {x y : Bool × Nat} (h1 : rdS b l sort x) (h2 : rdS b l sort y) : x = y := by
  unfold rdS at h1 h2
  by_cases e0 : sort = 0
  · rw [if_pos e0] at h1 h2
    exact h1.symm.trans h2
  rw [if_neg e0] at h1 h2
  by_cases e1 : sort = 1
  · rw [if_pos e1] at h1 h2
    exact Pr_det h1 h2
  rw [if_neg e1] at h1 h2
  exact h1.symm.trans h2
theorem tp_mk {s : LMem} {l : Nat} (hJ : y_J x_X s) (hl2 : l ≤ 200) (hn : ∀ j, j < l → gI s 2 0 j ≠ 0) : tp_B (bC s) l := fun p hp => by
  have h := hJ.1 2 0 p (0, 199, 0, 255) (List.mem_singleton.mpr rfl) (by show (0 : Int) ≤ (p : Int); omega) (by show (p : Int) ≤ 199; omega)
  have h1 : (0 : Int) ≤ (gI s 2 0 p).toInt := h.1
  have h2 : (gI s 2 0 p).toInt ≤ 255 := h.2
  refine ⟨?_, h2⟩
  by_cases c : 0 < (gI s 2 0 p).toInt
  · exact c
  · refine absurd (Int32.toInt_inj.mp ?_) (hn p hp)
    rw [i32_0']
    omega
theorem tk_rw {s : LMem} {l : Nat} (hJ : y_J x_X s) (hl : gI s 1 0 1 = nI l) (hl2 : l ≤ 200) : tk_S l s (sI s 1 0 2 0) 0 := by
  refine ⟨y_J_w hJ (fun r hr g1 g2 => ?_) (x_npr rfl), by rw [gI_sI, if_neg (fun q => absurd q.2.2 (by decide)), hl], ?_, by rw [gI_sI, if_pos ⟨rfl, rfl, rfl⟩]; rfl, Nat.zero_le _⟩
  · have hr : r ∈ [((1 : Int), (1 : Int), (0 : Int), (200 : Int)), (2, 2, 0, 200)] := hr
    rcases List.mem_cons.mp hr with rfl | hr
    · exact absurd g2 (by decide)
    · rw [List.mem_singleton.mp hr]
      exact ⟨by decide, by decide⟩
  · exact funext fun j => by
      show gI (sI s 1 0 2 0) 2 0 j = gI s 2 0 j
      rw [gI_sI, if_neg (fun q => absurd q.1 (by decide))]
theorem vin_of {x : Int32} {n : Nat} (h0 : 0 ≤ x.toInt) (h1 : x.toInt < n) (hn : n < 2 ^ 31) : qa_vin x n := by
  have e : x = nI x.toInt.toNat := Int32.toInt_inj.mp (by rw [nI_toInt (by omega)]; omega)
  rw [e]
  exact nI_in (by omega) hn
section FT
variable {d bc bs l : Nat} {s m : LMem} {Q R : LPost}
theorem h_isSort0 (h : Q (some (lI 1)) m) : qC false (d + 1) 155 [lR 0 (some 0), lI 0] m Q := by
  refine qC_of rfl rfl ?_
  refine qa_t1_W (cut := []) 40 ?_
  refine And.intro (fun q => absurd q (by decide)) (fun _ => ?_)
  refine And.intro (fun _ => ?_) (fun q => absurd (by decide) q)
  refine And.intro (fun _ => ?_) (fun q => absurd (by decide) q)
  exact And.intro (Or.inr rfl) h
theorem h_isSort1 (h : Q (some (lI 1)) m) : qC false (d + 1) 155 [lR 0 (some 0), lI 1] m Q := by
  refine qC_of rfl rfl ?_
  refine qa_t1_W (cut := []) 40 ?_
  refine And.intro (fun q => absurd q (by decide)) (fun _ => ?_)
  refine And.intro (fun _ => ?_) (fun q => absurd (by decide) q)
  refine And.intro (fun _ => ?_) (fun q => absurd (by decide) q)
  exact And.intro (Or.inr rfl) h
theorem h_isSort2 (h : Q (some (lI 1)) m) : qC false (d + 1) 155 [lR 0 (some 0), lI 2] m Q := by
  refine qC_of rfl rfl ?_
  refine qa_t1_W (cut := []) 40 ?_
  refine And.intro (fun q => absurd q (by decide)) (fun _ => ?_)
  refine And.intro (fun _ => ?_) (fun q => absurd (by decide) q)
  refine And.intro (fun _ => ?_) (fun q => absurd (by decide) q)
  exact And.intro (Or.inr rfl) h
theorem h_isSortN {p : Int32} (h0 : ¬ p = 0) (h1 : ¬ p = 1) (h2 : ¬ p = 2) (h : Q (some (lI 0)) m) : qC false (d + 1) 155 [lR 0 (some 0), lI p] m Q := by
  have far : ¬ p < 0 → ¬ p < 3 := fun a b => by
    have a : ¬ p.toInt < 0 := fun q => a (Int32.lt_iff_toInt_lt.mpr q)
    have b := Int32.lt_iff_toInt_lt.mp b
    rw [show (3 : Int32).toInt = 3 by decide] at b
    have c0 : p.toInt ≠ 0 := fun q => h0 (Int32.toInt_inj.mp q)
    have c1 : p.toInt ≠ 1 := fun q => h1 (Int32.toInt_inj.mp q)
    have c2 : p.toInt ≠ 2 := fun q => h2 (Int32.toInt_inj.mp q)
    omega
  refine qC_of rfl rfl ?_
  refine qa_t1_W (cut := []) 40 ?_
  refine And.intro (fun _ => And.intro (Or.inl rfl) h) (fun c => ?_)
  refine And.intro (fun q => absurd q (far c)) (fun _ => And.intro (Or.inl rfl) h)
theorem h_keptOf0 (h : Q (some (lI (gI m 15 0 0))) m) : qC false (d + 2) 156 [lR 0 (some 0), lI 0] m Q := by
  refine qC_of rfl rfl ?_
  refine qa_t1_W (cut := []) 40 ?_
  refine h_isSort0 (Exists.intro _ (And.intro rfl ?_))
  refine And.intro (fun q => absurd q (by decide)) (fun _ => ?_)
  exact And.intro (vin_of (x := 0) (n := 3) (by decide) (by decide) (by decide)) h
theorem h_keptOf1 (h : Q (some (lI (gI m 15 0 1))) m) : qC false (d + 2) 156 [lR 0 (some 0), lI 1] m Q := by
  refine qC_of rfl rfl ?_
  refine qa_t1_W (cut := []) 40 ?_
  refine h_isSort1 (Exists.intro _ (And.intro rfl ?_))
  refine And.intro (fun q => absurd q (by decide)) (fun _ => ?_)
  exact And.intro (vin_of (x := 1) (n := 3) (by decide) (by decide) (by decide)) h
theorem h_keptOf2 (h : Q (some (lI (gI m 15 0 2))) m) : qC false (d + 2) 156 [lR 0 (some 0), lI 2] m Q := by
  refine qC_of rfl rfl ?_
  refine qa_t1_W (cut := []) 40 ?_
  refine h_isSort2 (Exists.intro _ (And.intro rfl ?_))
  refine And.intro (fun q => absurd q (by decide)) (fun _ => ?_)
  exact And.intro (vin_of (x := 2) (n := 3) (by decide) (by decide) (by decide)) h
theorem h_ditchSlot {x : Int32} (h0 : 0 ≤ x.toInt) (h1 : x.toInt < 5) (h : Q (some (lR 4 (some x.toNatClampNeg))) m) : qC false (d + 1) 148 [lR 0 (some 0), lI x] m Q := by
  refine qC_of rfl rfl ?_
  refine qa_t1_W (cut := []) 40 ?_
  refine And.intro (fun q => absurd (Int32.lt_iff_toInt_lt.mp q) (by rw [i32_0']; omega)) (fun _ => ?_)
  refine And.intro (fun _ => ?_) (fun q => absurd (Int32.lt_iff_toInt_lt.mpr (show x.toInt < (5 : Int32).toInt from h1)) q)
  exact And.intro (vin_of h0 h1 (by decide)) h
theorem h_lawSlot {x : Int32} (h0 : 0 ≤ x.toInt) (h1 : x.toInt < 7) (h : Q (some (lR 8 (some x.toNatClampNeg))) m) : qC false (d + 1) 149 [lR 0 (some 0), lI x] m Q := by
  refine qC_of rfl rfl ?_
  refine qa_t1_W (cut := []) 40 ?_
  refine And.intro (fun q => absurd (Int32.lt_iff_toInt_lt.mp q) (by rw [i32_0']; omega)) (fun _ => ?_)
  refine And.intro (fun _ => ?_) (fun q => absurd (Int32.lt_iff_toInt_lt.mpr (show x.toInt < (7 : Int32).toInt from h1)) q)
  exact And.intro (vin_of h0 h1 (by decide)) h
theorem h_rainSlot {x : Int32} (h0 : 0 ≤ x.toInt) (h1 : x.toInt < 5) (h : Q (some (lR 13 (some x.toNatClampNeg))) m) : qC false (d + 1) 150 [lR 0 (some 0), lI x] m Q := by
  refine qC_of rfl rfl ?_
  refine qa_t1_W (cut := []) 40 ?_
  refine And.intro (fun q => absurd (Int32.lt_iff_toInt_lt.mp q) (by rw [i32_0']; omega)) (fun _ => ?_)
  refine And.intro (fun _ => ?_) (fun q => absurd (Int32.lt_iff_toInt_lt.mpr (show x.toInt < (5 : Int32).toInt from h1)) q)
  exact And.intro (vin_of h0 h1 (by decide)) h
/-- with a contract's frame -/
theorem fr_con {ct : YCt} (H : y_con x_X ct) (hd : ct.2.2.2.2.2 ≤ d) (hp : ct.2.2.1 = ([], [])) {As : List LV} (hA : y_as ct.2.1 As) (hJ : y_J x_X s) : qC false d ct.1 As s (fun _ s' => y_J x_X s' ∧ y_Fr ct.2.2.2.1 s s') := H d hd As s _ hA hJ (by rw [hp]; exact ⟨y_msnil, fun _ q => absurd q List.not_mem_nil⟩) fun _ _ _ J F => ⟨J, F⟩
/-- what isRead may write -/
def irW : List YW := [(1, 0, 0, 2, 2), (4, 0, 4, 1, 1), (6, 0, 99, 0, 4), (8, 0, 6, 2, 2), (9, 0, 6, 0, 199), (10, 0, 6, 0, 199), (13, 0, 4, 1, 1), (14, 0, 4, 0, 29)]
theorem ir_fr {W : List YW} {m : LMem} (hW : y_sub2 W irW = true) (F : y_Fr W (sI s 1 0 2 0) m) : y_Fr irW s m := fun k i j hn => by
  have h1 := F k i j (fun q => hn (y_sub2_ok hW q))
  have h2 : ¬ (k = 1 ∧ i = 0 ∧ j = 2) := fun q => hn (by
    obtain ⟨rfl, rfl, rfl⟩ := q
    exact ⟨(1, 0, 0, 2, 2), by decide, rfl, ⟨by decide, by decide⟩, by decide, by decide⟩)
  refine ⟨h1.1.trans ?_, h1.2.1, h1.2.2⟩
  rw [gI_sI, if_neg h2]
/-- what a frame leaves alone -/
theorem fr_k {W : List YW} {s m : LMem} (F : y_Fr W s m) (k i j : Nat) (h : (W.all fun w => !(Nat.beq w.1 k) || (decide ((j : Int) < w.2.2.2.1) || decide (w.2.2.2.2 < (j : Int)))) = true) : gI m k i j = gI s k i j := (F k i j (x_nW j j h (Int.le_refl _) (Int.le_refl _))).1
theorem fr_K {W : List YW} {s m : LMem} (F : y_Fr W s m) (k : Nat) (h : (W.all fun w => !(Nat.beq w.1 k)) = true) : ∀ i j, gI m k i j = gI s k i j := fun i j => (F k i j fun ⟨w, hw, e, _⟩ => by
  have := List.all_eq_true.mp h w hw
  rw [e, Nat.beq_refl] at this
  exact absurd this (by decide)).1
/-- what is read, and where: D alone is written; read through, it holds what the text tells -/
def irC (b : Nat → Int32) (l sort D : Nat) (s m : LMem) (v : Int32) : Prop := (∀ dd, (sort = 0 → dd ≠ D) → gI m 4 dd 1 = gI s 4 dd 1 ∧ ∀ i w, 20 * dd ≤ i → i < 20 * dd + 20 → gI m 6 i w = gI s 6 i w) ∧ (∀ r, (sort = 2 → r ≠ D) → gI m 13 r 1 = gI s 13 r 1 ∧ ∀ j, gI m 14 r j = gI s 14 r j) ∧ (v = 1 → (sort = 0 → gI m 4 D 1 = nI (dtN b l 20 (sk b l 0)) ∧ ∀ r w, r < dtN b l 20 (sk b l 0) → w < 5 → gI m 6 (20 * D + r) w = dV b l r w) ∧ (sort = 2 → gI m 13 D 1 = nI (rnN b l 30 (sk b l 0)) ∧ ∀ j, j < rnN b l 30 (sk b l 0) → gI m 14 D j = nvF b l 2 (rnP b l j) 0))
/-- how isRead answers -/
def irO (l sort : Nat) (s m : LMem) (v : Int32) : Prop := ((v = 1 ∧ ∃ q, rdS (bC s) l sort (true, q)) ∨ (v = 0 ∧ ∃ w, w ≤ 200 ∧ gI m 1 0 2 = nI w ∧ rdS (bC s) l sort (false, w))) ∧ y_J x_X m ∧ y_Fr irW s m ∧ irC (bC s) l sort (gI s 15 0 sort).toNatClampNeg s m v
theorem ne1 {s : LMem} {k : Nat} (hk : k ≠ 1) (i j : Nat) : gI (sI s 1 0 2 0) k i j = gI s k i j := by rw [gI_sI, if_neg (fun q => hk q.1)]
theorem bd15 {j : Nat} {hi : Int} (hJ : y_J x_X s) (hm : ((j : Int), (j : Int), (0 : Int), hi) ∈ y_B 15) : 0 ≤ (gI s 15 0 j).toInt ∧ (gI s 15 0 j).toInt ≤ hi := hJ.1 15 0 j _ hm (Int.le_refl _) (Int.le_refl _)
theorem h_rewind (h : Q none (sI m 1 0 2 0)) : qC false (d + 1) 113 [lR 1 (some 0)] m Q := by
  refine qC_of rfl rfl ?_
  refine qa_t1_W (cut := []) 10 ?_
  exact h
theorem cl_i {x : Int32} {hi : Nat} (h0 : 0 ≤ x.toInt) (h1 : x.toInt ≤ hi) : (0 : Int) ≤ (x.toNatClampNeg : Int) ∧ (x.toNatClampNeg : Int) ≤ hi := by
  have e : x = nI x.toInt.toNat := Int32.toInt_inj.mp (by rw [nI_toInt (by have := Int32.toInt_lt x; omega)]; omega)
  rw [e, nI_clamp (by have := Int32.toInt_lt x; omega)]
  omega
theorem h_isRead0 (hJ : y_J x_X s) (hl : gI s 1 0 1 = nI l) (hl2 : l ≤ 200) (hB : tp_B (bC s) l) (h : ∀ m v, irO l 0 s m v → Q (some (lI v)) m) : qC false (d + 120) 147 [lR 0 (some 0), lI 0] s Q := by
  have S := tk_rw hJ hl hl2
  have b15 := bd15 (j := 0) (hi := 4) hJ (by decide)
  have e15 : gI (sI s 1 0 2 0) 15 0 0 = gI s 15 0 0 := by rw [gI_sI, if_neg (fun q => absurd q.1 (by decide))]
  have fin : ∀ dd : Nat, dd = (gI s 15 0 0).toNatClampNeg → (0 : Int) ≤ (dd : Int) ∧ (dd : Int) ≤ 4 → qC false (d + 119) 3 [lR 4 (some dd), lR 1 (some 0)] (sI s 1 0 2 0) (fun r m => ∃ v, r = some (lI v) ∧ irO l 0 s m v ∧ (v = 0 ∨ v = 1)) := fun dd edd hdd => by
    have g1 : qC false (d + 119) 3 [lR 4 (some dd), lR 1 (some 0)] (sI s 1 0 2 0) (fun r m => ∃ v, r = some (lI v) ∧ ((v = 1 ∧ ∃ q, rdS (bC s) l 0 (true, q)) ∨ (v = 0 ∧ ∃ w, w ≤ 200 ∧ gI m 1 0 2 = nI w ∧ rdS (bC s) l 0 (false, w))) ∧ (v = 0 ∨ v = 1) ∧ (cfr dd (sI s 1 0 2 0) m ∧ (v = 1 → gI m 4 dd 1 = nI (dtN (bC s) l 20 (sk (bC s) l 0)) ∧ ∀ r w, r < dtN (bC s) l 20 (sk (bC s) l 0) → w < 5 → gI m 6 (20 * dd + r) w = dV (bC s) l r w))) := by
      refine c_ditch (d := d + 73) hB hl2 S fun m v O => ⟨v, rfl, ?_⟩
      rcases O with ⟨⟨rfl, ⟨q, e⟩, k1, k2⟩ | ⟨rfl, w, S', e⟩, F⟩
      · exact ⟨Or.inl ⟨rfl, q, e⟩, Or.inr rfl, F, fun _ => ⟨k1, k2⟩⟩
      · exact ⟨Or.inr ⟨rfl, w, by have := S'.2.2.2.2; omega, S'.2.2.2.1, e⟩, Or.inl rfl, F, fun q => absurd q (by decide)⟩
    have g2 := fr_con (d := d + 119) (s := sI s 1 0 2 0) (As := [lR 4 (some dd), lR 1 (some 0)]) (y_all x_X_cl h_all0 yk_X0_readFrom (List.mem_of_getElem? (i := 120) rfl)) (show 46 ≤ d + 119 by omega) rfl ⟨⟨rfl, Or.inr ⟨dd, rfl, ⟨Int.le_refl _, Int.le_refl _⟩, hdd.1, (by have := hdd.2; show (dd : Int) ≤ 4; omega)⟩⟩, y_rcv, trivial⟩ S.1

    refine qC_mono (qC_and g1 g2) (fun r m q => ?_)
    obtain ⟨⟨v, er, O, bv, C⟩, J', F'⟩ := q
    refine ⟨v, er, ⟨O, J', ir_fr (by decide) F', ?_⟩, bv⟩
    rw [← edd]
    refine ⟨fun d' hd' => ⟨?_, fun i w g1 g2 => ?_⟩, fun r _ => ⟨?_, fun j => ?_⟩, fun ev => ⟨fun _ => C.2 ev, fun q => absurd q (by decide)⟩⟩
    · rw [C.1 4 d' 1 (by decide) (fun q => hd' rfl q.2) (fun q => absurd q.1 (by decide)), ne1 (by decide)]
    · have := hd' rfl
      rw [C.1 6 i w (by decide) (fun q => absurd q.1 (by decide)) (fun q => by omega), ne1 (by decide)]
    · rw [C.1 13 r 1 (by decide) (fun q => absurd q.1 (by decide)) (fun q => absurd q.1 (by decide)), ne1 (by decide)]
    · rw [C.1 14 r j (by decide) (fun q => absurd q.1 (by decide)) (fun q => absurd q.1 (by decide)), ne1 (by decide)]
  refine qC_of rfl rfl ?_
  refine qa_t1_W (cut := []) 100 ?_
  refine h_rewind (And.intro rfl ?_)
  refine And.intro (fun _ => ?_) (fun q => absurd rfl q)
  refine h_keptOf0 (Exists.intro _ (And.intro rfl ?_))
  refine h_ditchSlot (by rw [e15]; exact b15.1) (by rw [e15]; omega) (Or.inr (Exists.intro _ (And.intro rfl ?_)))
  refine qC_mono (fin _ (by rw [e15]; rfl) (by rw [e15]; exact cl_i b15.1 b15.2)) fun r m hr => ?_
  obtain ⟨v, er, O, bv⟩ := hr
  refine Exists.intro v (And.intro er ?_)
  refine And.intro (fun c => ?_) (fun c => ?_)
  · have c : v = 0 := c
    subst c
    exact And.intro (Or.inl rfl) (h m 0 O)
  · have c : ¬ v = 0 := c
    have c : v = 1 := bv.resolve_left c
    subst c
    exact And.intro (Or.inr rfl) (h m 1 O)
theorem h_isRead1 (hJ : y_J x_X s) (hl : gI s 1 0 1 = nI l) (hl2 : l ≤ 200) (hB : tp_B (bC s) l) (h : ∀ m v, irO l 1 s m v → Q (some (lI v)) m) : qC false (d + 120) 147 [lR 0 (some 0), lI 1] s Q := by
  have S := tk_rw hJ hl hl2
  have b15 := bd15 (j := 1) (hi := 6) hJ (by decide)
  have e15 : gI (sI s 1 0 2 0) 15 0 1 = gI s 15 0 1 := by rw [gI_sI, if_neg (fun q => absurd q.1 (by decide))]
  have fin : ∀ dd : Nat, dd = (gI s 15 0 1).toNatClampNeg → (0 : Int) ≤ (dd : Int) ∧ (dd : Int) ≤ 6 → qC false (d + 119) 62 [lR 8 (some dd), lR 1 (some 0)] (sI s 1 0 2 0) (fun r m => ∃ v, r = some (lI v) ∧ irO l 1 s m v ∧ (v = 0 ∨ v = 1)) := fun dd edd hdd => by
    have g1 : qC false (d + 119) 62 [lR 8 (some dd), lR 1 (some 0)] (sI s 1 0 2 0) (fun r m => ∃ v, r = some (lI v) ∧ ((v = 1 ∧ ∃ q, rdS (bC s) l 1 (true, q)) ∨ (v = 0 ∧ ∃ w, w ≤ 200 ∧ gI m 1 0 2 = nI w ∧ rdS (bC s) l 1 (false, w))) ∧ (v = 0 ∨ v = 1) ∧ True) := by
      refine c_law (d := d + 45) hB hl2 S (fun m q S' e => ⟨1, rfl, Or.inl ⟨rfl, _, e⟩, Or.inr rfl, trivial⟩) (fun m w S' e => ⟨0, rfl, Or.inr ⟨rfl, w, by have := S'.2.2.2.2; omega, S'.2.2.2.1, e⟩, Or.inl rfl, trivial⟩)
    have g2 := fr_con (d := d + 119) (s := sI s 1 0 2 0) (As := [lR 8 (some dd), lR 1 (some 0)]) (y_all x_X_cl h_all0 yk_X3_readFrom (List.mem_of_getElem? (i := 2) rfl)) (show 103 ≤ d + 119 by omega) rfl ⟨⟨rfl, Or.inr ⟨dd, rfl, ⟨Int.le_refl _, Int.le_refl _⟩, hdd.1, (by have := hdd.2; show (dd : Int) ≤ 6; omega)⟩⟩, y_rcv, trivial⟩ S.1

    refine qC_mono (qC_and g1 g2) (fun r m q => ?_)
    obtain ⟨⟨v, er, O, bv, C⟩, J', F'⟩ := q
    refine ⟨v, er, ⟨O, J', ir_fr (by decide) F', ?_⟩, bv⟩
    rw [← edd]
    refine ⟨fun d' hd' => ⟨?_, fun i w g1 g2 => ?_⟩, fun r _ => ⟨?_, fun j => ?_⟩, fun ev => ⟨fun q => absurd q (by decide), fun q => absurd q (by decide)⟩⟩
    · rw [fr_K F' 4 (by decide), ne1 (by decide)]
    · rw [fr_K F' 6 (by decide), ne1 (by decide)]
    · rw [fr_K F' 13 (by decide), ne1 (by decide)]
    · rw [fr_K F' 14 (by decide), ne1 (by decide)]
  refine qC_of rfl rfl ?_
  refine qa_t1_W (cut := []) 100 ?_
  refine h_rewind (And.intro rfl ?_)
  refine And.intro (fun q => absurd q (by decide)) (fun _ => ?_)
  refine And.intro (fun _ => ?_) (fun q => absurd rfl q)
  refine h_keptOf1 (Exists.intro _ (And.intro rfl ?_))
  refine h_lawSlot (by rw [e15]; exact b15.1) (by rw [e15]; omega) (Or.inr (Exists.intro _ (And.intro rfl ?_)))
  refine qC_mono (fin _ (by rw [e15]; rfl) (by rw [e15]; exact cl_i b15.1 b15.2)) fun r m hr => ?_
  obtain ⟨v, er, O, bv⟩ := hr
  refine Exists.intro v (And.intro er ?_)
  refine And.intro (fun c => ?_) (fun c => ?_)
  · have c : v = 0 := c
    subst c
    exact And.intro (Or.inl rfl) (h m 0 O)
  · have c : ¬ v = 0 := c
    have c : v = 1 := bv.resolve_left c
    subst c
    exact And.intro (Or.inr rfl) (h m 1 O)
theorem h_isRead2 (hJ : y_J x_X s) (hl : gI s 1 0 1 = nI l) (hl2 : l ≤ 200) (hB : tp_B (bC s) l) (h : ∀ m v, irO l 2 s m v → Q (some (lI v)) m) : qC false (d + 120) 147 [lR 0 (some 0), lI 2] s Q := by
  have S := tk_rw hJ hl hl2
  have b15 := bd15 (j := 2) (hi := 4) hJ (by decide)
  have e15 : gI (sI s 1 0 2 0) 15 0 2 = gI s 15 0 2 := by rw [gI_sI, if_neg (fun q => absurd q.1 (by decide))]
  have fin : ∀ dd : Nat, dd = (gI s 15 0 2).toNatClampNeg → (0 : Int) ≤ (dd : Int) ∧ (dd : Int) ≤ 4 → qC false (d + 119) 88 [lR 13 (some dd), lR 1 (some 0)] (sI s 1 0 2 0) (fun r m => ∃ v, r = some (lI v) ∧ irO l 2 s m v ∧ (v = 0 ∨ v = 1)) := fun dd edd hdd => by
    have g1 : qC false (d + 119) 88 [lR 13 (some dd), lR 1 (some 0)] (sI s 1 0 2 0) (fun r m => ∃ v, r = some (lI v) ∧ ((v = 1 ∧ ∃ q, rdS (bC s) l 2 (true, q)) ∨ (v = 0 ∧ ∃ w, w ≤ 200 ∧ gI m 1 0 2 = nI w ∧ rdS (bC s) l 2 (false, w))) ∧ (v = 0 ∨ v = 1) ∧ (v = 1 → gI m 13 dd 1 = nI (rnN (bC s) l 30 (sk (bC s) l 0)) ∧ ∀ j, j < rnN (bC s) l 30 (sk (bC s) l 0) → gI m 14 dd j = nvF (bC s) l 2 (rnP (bC s) l j) 0)) := by
      refine c_rain (d := d + 78) hB hl2 S fun m v O => ⟨v, rfl, ?_⟩
      rcases O with ⟨rfl, ⟨q, e⟩, k1, k2⟩ | ⟨rfl, w, S', e⟩
      · exact ⟨Or.inl ⟨rfl, q, e⟩, Or.inr rfl, fun _ => ⟨k1, k2⟩⟩
      · exact ⟨Or.inr ⟨rfl, w, by have := S'.2.2.2.2; omega, S'.2.2.2.1, e⟩, Or.inl rfl, fun q => absurd q (by decide)⟩
    have g2 := fr_con (d := d + 119) (s := sI s 1 0 2 0) (As := [lR 13 (some dd), lR 1 (some 0)]) (y_all x_X_cl h_all0 yk_X5_readFrom (List.mem_of_getElem? (i := 147) rfl)) (show 41 ≤ d + 119 by omega) rfl ⟨⟨rfl, Or.inr ⟨dd, rfl, ⟨Int.le_refl _, Int.le_refl _⟩, hdd.1, (by have := hdd.2; show (dd : Int) ≤ 4; omega)⟩⟩, y_rcv, trivial⟩ S.1
    have g3 : qC false (d + 119) 88 [lR 13 (some dd), lR 1 (some 0)] (sI s 1 0 2 0) (fun _ m => ∀ k i j, k ≠ 1 → ¬ ((k = 13 ∨ k = 14) ∧ i = dd) → gI m k i j = gI (sI s 1 0 2 0) k i j) := by
      have key : ∀ n : Nat, ∀ W : List YW, W = [(1, 0, 0, 2, 2), (13, (n : Int), (n : Int), 1, 1), (14, (n : Int), (n : Int), 0, 29)] → qC false (d + 119) 88 [lR 13 (some n), lR 1 (some 0)] (sI s 1 0 2 0) (fun _ m => y_J x_X m ∧ y_Fr W (sI s 1 0 2 0) m) → qC false (d + 119) 88 [lR 13 (some n), lR 1 (some 0)] (sI s 1 0 2 0) (fun _ m => ∀ k i j, k ≠ 1 → ¬ ((k = 13 ∨ k = 14) ∧ i = n) → gI m k i j = gI (sI s 1 0 2 0) k i j) := fun n W eW g => by
        subst eW
        refine qC_mono g fun r m q k i j hk hn => (q.2 k i j fun ⟨w, hw, e, e2, _⟩ => ?_).1
        simp only [List.mem_cons, List.not_mem_nil, or_false] at hw
        rcases hw with rfl | rfl | rfl
        · exact hk e.symm
        · exact hn ⟨Or.inl e.symm, by have e2 : (n : Int) ≤ (i : Int) ∧ (i : Int) ≤ (n : Int) := e2; omega⟩
        · exact hn ⟨Or.inr e.symm, by have e2 : (n : Int) ≤ (i : Int) ∧ (i : Int) ≤ (n : Int) := e2; omega⟩
      have hd5 : dd = 0 ∨ dd = 1 ∨ dd = 2 ∨ dd = 3 ∨ dd = 4 := by omega
      rcases hd5 with rfl | rfl | rfl | rfl | rfl
      · exact key 0 _ rfl (fr_con (d := d + 119) (s := sI s 1 0 2 0) (As := [lR 13 (some 0), lR 1 (some 0)]) (y_all x_X_cl h_all0 yk_X5_readFrom_1 (List.mem_of_getElem? (i := 163) rfl)) (show 41 ≤ d + 119 by omega) rfl ⟨y_rcv (k := 13) (i := 0), y_rcv, trivial⟩ S.1)
      · exact key 1 _ rfl (fr_con (d := d + 119) (s := sI s 1 0 2 0) (As := [lR 13 (some 1), lR 1 (some 0)]) (y_all x_X_cl h_all0 yk_X5_readFrom_2 (List.mem_of_getElem? (i := 164) rfl)) (show 41 ≤ d + 119 by omega) rfl ⟨y_rcv (k := 13) (i := 1), y_rcv, trivial⟩ S.1)
      · exact key 2 _ rfl (fr_con (d := d + 119) (s := sI s 1 0 2 0) (As := [lR 13 (some 2), lR 1 (some 0)]) (y_all x_X_cl h_all0 yk_X5_readFrom_3 (List.mem_of_getElem? (i := 165) rfl)) (show 41 ≤ d + 119 by omega) rfl ⟨y_rcv (k := 13) (i := 2), y_rcv, trivial⟩ S.1)
      · exact key 3 _ rfl (fr_con (d := d + 119) (s := sI s 1 0 2 0) (As := [lR 13 (some 3), lR 1 (some 0)]) (y_all x_X_cl h_all0 yk_X5_readFrom_4 (List.mem_of_getElem? (i := 166) rfl)) (show 41 ≤ d + 119 by omega) rfl ⟨y_rcv (k := 13) (i := 3), y_rcv, trivial⟩ S.1)
      · exact key 4 _ rfl (fr_con (d := d + 119) (s := sI s 1 0 2 0) (As := [lR 13 (some 4), lR 1 (some 0)]) (y_all x_X_cl h_all0 yk_X5_readFrom_5 (List.mem_of_getElem? (i := 167) rfl)) (show 41 ≤ d + 119 by omega) rfl ⟨y_rcv (k := 13) (i := 4), y_rcv, trivial⟩ S.1)
    refine qC_mono (qC_and (qC_and g1 g2) g3) (fun r m q => ?_)
    obtain ⟨⟨⟨v, er, O, bv, C⟩, J', F'⟩, G⟩ := q
    refine ⟨v, er, ⟨O, J', ir_fr (by decide) F', ?_⟩, bv⟩
    rw [← edd]
    refine ⟨fun d' hd' => ⟨?_, fun i w g1 g2 => ?_⟩, fun r hr => ⟨?_, fun j => ?_⟩, fun ev => ⟨fun q => absurd q (by decide), fun _ => C ev⟩⟩
    · rw [G 4 d' 1 (by decide) (fun q => by omega), ne1 (by decide)]
    · rw [G 6 i w (by decide) (fun q => by omega), ne1 (by decide)]
    · rw [G 13 r 1 (by decide) (fun q => hr rfl q.2), ne1 (by decide)]
    · rw [G 14 r j (by decide) (fun q => hr rfl q.2), ne1 (by decide)]
  refine qC_of rfl rfl ?_
  refine qa_t1_W (cut := []) 100 ?_
  refine h_rewind (And.intro rfl ?_)
  refine And.intro (fun q => absurd q (by decide)) (fun _ => ?_)
  refine And.intro (fun q => absurd q (by decide)) (fun _ => ?_)
  refine h_keptOf2 (Exists.intro _ (And.intro rfl ?_))
  refine h_rainSlot (by rw [e15]; exact b15.1) (by rw [e15]; omega) (Or.inr (Exists.intro _ (And.intro rfl ?_)))
  refine qC_mono (fin _ (by rw [e15]; rfl) (by rw [e15]; exact cl_i b15.1 b15.2)) fun r m hr => ?_
  obtain ⟨v, er, O, bv⟩ := hr
  refine Exists.intro v (And.intro er ?_)
  refine And.intro (fun c => ?_) (fun c => ?_)
  · have c : v = 0 := c
    subst c
    exact And.intro (Or.inl rfl) (h m 0 O)
  · have c : ¬ v = 0 := c
    have c : v = 1 := bv.resolve_left c
    subst c
    exact And.intro (Or.inr rfl) (h m 1 O)
end FT
/-! fault and text of both sides, by value. -/
def fvO (b : Nat → Int32) (l : Nat) (p v : Int32) : Prop := (p = 0 ∧ rvU (rdS b l 0) v) ∨ (p = 1 ∧ rvU (rdS b l 1) v) ∨ (p = 2 ∧ rvU (rdS b l 2) v) ∨ ((¬ p = 0 ∧ ¬ p = 1 ∧ ¬ p = 2) ∧ v = -2)
theorem rvU_det {b : Nat → Int32} {l sort : Nat} {v w : Int32} (h1 : rvU (rdS b l sort) v) (h2 : rvU (rdS b l sort) w) : v = w := by
  rcases h1 with ⟨rfl, q1, e1⟩ | ⟨w1, _, rfl, e1⟩
  · rcases h2 with ⟨rfl, q2, e2⟩ | ⟨w2, _, rfl, e2⟩
    · rfl
    · cases rdS_det e1 e2
  · rcases h2 with ⟨rfl, q2, e2⟩ | ⟨w2, _, rfl, e2⟩
    · cases rdS_det e1 e2
    · cases rdS_det e1 e2
      rfl
theorem fvO_det {b : Nat → Int32} {l : Nat} {p v w : Int32} (h1 : fvO b l p v) (h2 : fvO b l p w) : v = w := by
  rcases h1 with ⟨rfl, h1⟩ | ⟨rfl, h1⟩ | ⟨rfl, h1⟩ | ⟨n, rfl⟩
  · rcases h2 with ⟨_, h2⟩ | ⟨q, _⟩ | ⟨q, _⟩ | ⟨q, _⟩
    · exact rvU_det h1 h2
    · exact absurd q (by decide)
    · exact absurd q (by decide)
    · exact absurd rfl q.1
  · rcases h2 with ⟨q, _⟩ | ⟨_, h2⟩ | ⟨q, _⟩ | ⟨q, _⟩
    · exact absurd q (by decide)
    · exact rvU_det h1 h2
    · exact absurd q (by decide)
    · exact absurd rfl q.2.1
  · rcases h2 with ⟨q, _⟩ | ⟨q, _⟩ | ⟨_, h2⟩ | ⟨q, _⟩
    · exact absurd q (by decide)
    · exact absurd q (by decide)
    · exact rvU_det h1 h2
    · exact absurd rfl q.2.2
  · rcases h2 with ⟨q, _⟩ | ⟨q, _⟩ | ⟨q, _⟩ | ⟨_, rfl⟩
    · exact absurd q n.1
    · exact absurd q n.2.1
    · exact absurd q n.2.2
    · rfl
section FV
variable {d l : Nat} {s : LMem}
theorem ir_1 {sort : Nat} {m : LMem} (O : irO l sort s m 1) : ∃ q, rdS (bC s) l sort (true, q) := by
  rcases O.1 with ⟨_, q⟩ | ⟨q, _⟩
  · exact q
  · exact absurd q (by decide)
theorem ir_b {sort : Nat} {m : LMem} {v : Int32} (O : irO l sort s m v) : v = 0 ∨ v = 1 := by
  rcases O.1 with ⟨q, _⟩ | ⟨q, _⟩
  · exact Or.inr q
  · exact Or.inl q
theorem ir_0 {sort : Nat} {m : LMem} (O : irO l sort s m 0) : ∃ w, rdS (bC s) l sort (false, w) := by
  rcases O.1 with ⟨q, _⟩ | ⟨_, w, _, _, R⟩
  · exact absurd q (by decide)
  · exact ⟨w, R⟩
theorem fv_110 (hJ : y_J x_X s) (hl : gI s 1 0 1 = nI l) (hl2 : l ≤ 200) (hB : tp_B (bC s) l) : qC false (d + 123) 145 [lR 0 (some 0), lI 0] s (fun r _ => ∃ v, r = some (lI v) ∧ rvU (rdS (bC s) l 0) v) := by
  refine qC_of rfl rfl ?_
  refine qa_t1_W (cut := []) 60 ?_
  refine h_isSort0 (Exists.intro _ (And.intro rfl ?_))
  refine And.intro (fun q => absurd q (by decide)) (fun _ => ?_)
  refine h_isRead0 hJ hl hl2 hB fun m v O => Exists.intro v (And.intro rfl ?_)
  refine And.intro (fun c => ?_) (fun c => ?_)
  · have c : v = 0 := c
    subst c
    refine qC_of rfl rfl ?_
    refine qa_t1_W (cut := []) 20 ?_
    exact Exists.intro _ (And.intro rfl (Exists.intro _ (And.intro rfl (Or.inr (by
      rcases O.1 with ⟨q, _⟩ | ⟨_, w, hw, e, R⟩
      · exact absurd q (by decide)
      · exact ⟨w, by omega, e, R⟩)))))
  · have c : ¬ v = 0 := c
    have c : v = 1 := (ir_b O).resolve_left c
    subst c
    exact Exists.intro _ (And.intro rfl (Or.inl ⟨rfl, ir_1 O⟩))
theorem fv_111 (hJ : y_J x_X s) (hl : gI s 1 0 1 = nI l) (hl2 : l ≤ 200) (hB : tp_B (bC s) l) : qC false (d + 123) 145 [lR 0 (some 0), lI 1] s (fun r _ => ∃ v, r = some (lI v) ∧ rvU (rdS (bC s) l 1) v) := by
  refine qC_of rfl rfl ?_
  refine qa_t1_W (cut := []) 60 ?_
  refine h_isSort1 (Exists.intro _ (And.intro rfl ?_))
  refine And.intro (fun q => absurd q (by decide)) (fun _ => ?_)
  refine h_isRead1 hJ hl hl2 hB fun m v O => Exists.intro v (And.intro rfl ?_)
  refine And.intro (fun c => ?_) (fun c => ?_)
  · have c : v = 0 := c
    subst c
    refine qC_of rfl rfl ?_
    refine qa_t1_W (cut := []) 20 ?_
    exact Exists.intro _ (And.intro rfl (Exists.intro _ (And.intro rfl (Or.inr (by
      rcases O.1 with ⟨q, _⟩ | ⟨_, w, hw, e, R⟩
      · exact absurd q (by decide)
      · exact ⟨w, by omega, e, R⟩)))))
  · have c : ¬ v = 0 := c
    have c : v = 1 := (ir_b O).resolve_left c
    subst c
    exact Exists.intro _ (And.intro rfl (Or.inl ⟨rfl, ir_1 O⟩))
theorem fv_112 (hJ : y_J x_X s) (hl : gI s 1 0 1 = nI l) (hl2 : l ≤ 200) (hB : tp_B (bC s) l) : qC false (d + 123) 145 [lR 0 (some 0), lI 2] s (fun r _ => ∃ v, r = some (lI v) ∧ rvU (rdS (bC s) l 2) v) := by
  refine qC_of rfl rfl ?_
  refine qa_t1_W (cut := []) 60 ?_
  refine h_isSort2 (Exists.intro _ (And.intro rfl ?_))
  refine And.intro (fun q => absurd q (by decide)) (fun _ => ?_)
  refine h_isRead2 hJ hl hl2 hB fun m v O => Exists.intro v (And.intro rfl ?_)
  refine And.intro (fun c => ?_) (fun c => ?_)
  · have c : v = 0 := c
    subst c
    refine qC_of rfl rfl ?_
    refine qa_t1_W (cut := []) 20 ?_
    exact Exists.intro _ (And.intro rfl (Exists.intro _ (And.intro rfl (Or.inr (by
      rcases O.1 with ⟨q, _⟩ | ⟨_, w, hw, e, R⟩
      · exact absurd q (by decide)
      · exact ⟨w, by omega, e, R⟩)))))
  · have c : ¬ v = 0 := c
    have c : v = 1 := (ir_b O).resolve_left c
    subst c
    exact Exists.intro _ (And.intro rfl (Or.inl ⟨rfl, ir_1 O⟩))
theorem fv_11 {p : Int32} (hJ : y_J x_X s) (hl : gI s 1 0 1 = nI l) (hl2 : l ≤ 200) (hB : tp_B (bC s) l) : qC false (d + 123) 145 [lR 0 (some 0), lI p] s (fun r _ => ∃ v, r = some (lI v) ∧ fvO (bC s) l p v) := by
  by_cases e0 : p = 0
  · subst e0
    exact qC_mono (fv_110 hJ hl hl2 hB) fun r m ⟨v, e, h⟩ => ⟨v, e, Or.inl ⟨rfl, h⟩⟩
  by_cases e1 : p = 1
  · subst e1
    exact qC_mono (fv_111 hJ hl hl2 hB) fun r m ⟨v, e, h⟩ => ⟨v, e, Or.inr (Or.inl ⟨rfl, h⟩)⟩
  by_cases e2 : p = 2
  · subst e2
    exact qC_mono (fv_112 hJ hl hl2 hB) fun r m ⟨v, e, h⟩ => ⟨v, e, Or.inr (Or.inr (Or.inl ⟨rfl, h⟩))⟩
  refine qC_of rfl rfl ?_
  refine qa_t1_W (cut := []) 60 ?_
  refine h_isSortN e0 e1 e2 (Exists.intro _ (And.intro rfl ?_))
  refine And.intro (fun _ => ?_) (fun q => absurd rfl q)
  exact Exists.intro _ (And.intro rfl (Or.inr (Or.inr (Or.inr ⟨⟨e0, e1, e2⟩, rfl⟩))))
theorem fv_12 {p : Int32} (hJ : y_J x_X s) (hl : gI s 33 0 2 = nI l) (hl2 : l ≤ 200) : qC false (d + 123) 235 [lR 33 (some 0), lI p] s (fun r _ => ∃ v, r = some (lI v) ∧ fvO (bS s) l p v) := by
  by_cases e0 : p = 0
  · subst e0
    have g : qC false (d + 122) 233 [lR 33 (some 0), lI (nI 4)] s (fun r m => ∃ v, r = some (lI v) ∧ fvO (bS s) l 0 v) := by
      refine qC_mono (h_readDitchU (d := d + 117) (dd := 4) (by decide) hl hl2) fun r m q => ?_
      obtain ⟨v, e, O⟩ := q
      refine ⟨v, e, Or.inl ⟨rfl, ?_⟩⟩
      rcases O with ⟨rfl, q, _⟩ | ⟨w, hw, rfl, ez⟩
      · exact Or.inl ⟨rfl, q⟩
      · exact Or.inr ⟨w, hw, rfl, ez⟩
    refine qC_of rfl rfl ?_
    refine qa_t1_W (cut := []) 40 ?_
    refine And.intro (fun _ => ?_) (fun q => absurd rfl q)
    refine qC_mono g fun r m q => ?_
    obtain ⟨v, e, O⟩ := q
    exact Exists.intro v (And.intro e (Exists.intro v (And.intro rfl O)))
  by_cases e1 : p = 1
  · subst e1
    have h13 := (hJ.1 33 0 13 (13, 13, 0, 6) (by decide) (by decide) (by decide)).2
    have g : qC false (d + 122) 225 [lR 33 (some 0), lI (nI 6)] s (fun r m => ∃ v, r = some (lI v) ∧ fvO (bS s) l 1 v) := by
      refine qC_mono (h_readLawU (d := d + 81) (n := 6) (by decide) h13 hJ hl hl2) fun r m q => ?_
      obtain ⟨v, e, O⟩ := q
      exact ⟨v, e, Or.inr (Or.inl ⟨rfl, O⟩)⟩
    refine qC_of rfl rfl ?_
    refine qa_t1_W (cut := []) 40 ?_
    refine And.intro (fun q => absurd q (by decide)) (fun _ => ?_)
    refine And.intro (fun _ => ?_) (fun q => absurd rfl q)
    refine qC_mono g fun r m q => ?_
    obtain ⟨v, e, O⟩ := q
    exact Exists.intro v (And.intro e (Exists.intro v (And.intro rfl O)))
  by_cases e2 : p = 2
  · subst e2
    have g : qC false (d + 122) 234 [lR 33 (some 0), lI (nI 4)] s (fun r m => ∃ v, r = some (lI v) ∧ fvO (bS s) l 2 v) := by
      refine qC_mono (h_readRainU (d := d + 118) (r := 4) (by decide) hl hl2) fun r m q => ?_
      obtain ⟨v, e, O⟩ := q
      refine ⟨v, e, Or.inr (Or.inr (Or.inl ⟨rfl, ?_⟩))⟩
      rcases O with ⟨rfl, q, _⟩ | ⟨w, hw, rfl, ez⟩
      · exact Or.inl ⟨rfl, q⟩
      · exact Or.inr ⟨w, hw, rfl, ez⟩
    refine qC_of rfl rfl ?_
    refine qa_t1_W (cut := []) 40 ?_
    refine And.intro (fun q => absurd q (by decide)) (fun _ => ?_)
    refine And.intro (fun q => absurd q (by decide)) (fun _ => ?_)
    refine And.intro (fun _ => ?_) (fun q => absurd rfl q)
    refine qC_mono g fun r m q => ?_
    obtain ⟨v, e, O⟩ := q
    exact Exists.intro v (And.intro e (Exists.intro v (And.intro rfl O)))
  exact h_fault_no (d := d + 122) e0 e1 e2 ⟨_, rfl, Or.inr (Or.inr (Or.inr ⟨⟨e0, e1, e2⟩, rfl⟩))⟩
end FV
def txW (sort : Int) : List YW := (1, 0, 0, 1, 1) :: (15, 0, 0, sort, sort) :: irW
/-- what text of the class leaves: it is kept, or nothing of it -/
def txO (b : Nat → Int32) (l sort : Nat) (hi : Int) (s m : LMem) (v : Int32) : Prop := (v = gI s 15 0 sort ∧ (gI s 15 0 sort).toInt < hi ∧ (∃ q, rdS b l sort (true, q)) ∧ gI m 1 0 1 = 0 ∧ gI m 15 0 sort = gI s 15 0 sort + 1 ∧ y_Fr (txW sort) s m) ∨ (v = -1 ∧ (hi ≤ (gI s 15 0 sort).toInt ∨ ∃ w, rdS b l sort (false, w)) ∧ y_Fr irW s m)
/-- and of the reference; K: where it counts -/
def tuO (b : Nat → Int32) (l sort K : Nat) (hi : Int) (s m : LMem) (v : Int32) : Prop := (v = gI s 33 0 K ∧ (gI s 33 0 K).toInt < hi ∧ (∃ q, rdS b l sort (true, q)) ∧ gI m 33 0 2 = 0 ∧ gI m 33 0 K = gI s 33 0 K + 1) ∨ (v = -1 ∧ (hi ≤ (gI s 33 0 K).toInt ∨ ∃ w, rdS b l sort (false, w)) ∧ gI m 33 0 2 = gI s 33 0 2 ∧ gI m 33 0 K = gI s 33 0 K)
section TX
variable {d l : Nat} {s : LMem}
theorem h_cut0 {m : LMem} {Q : LPost} (hJ : y_J x_X m) (h : Q (some (lI 1)) (sI m 1 0 1 0)) : qC false (d + 1) 110 [lR 1 (some 0), lI 0] m Q := by
  have h0 : (0 : Int) ≤ (gI m 1 0 1).toInt := (hJ.1 1 0 1 (1, 1, 0, 200) (by decide) (by decide) (by decide)).1
  have n0 : ¬ gI m 1 0 1 < 0 := fun q => by
    have q := Int32.lt_iff_toInt_lt.mp q
    rw [i32_0'] at q
    omega
  refine qC_of rfl rfl ?_
  refine qa_t1_W (cut := []) 30 ?_
  refine And.intro (fun q => absurd q (by decide)) (fun _ => ?_)
  refine And.intro (fun q => absurd q n0) (fun _ => ?_)
  exact And.intro (Or.inr rfl) h
theorem tx_110 (hJ : y_J x_X s) (hl : gI s 1 0 1 = nI l) (hl2 : l ≤ 200) (hB : tp_B (bC s) l) : qC false (d + 123) 146 [lR 0 (some 0), lI 0] s (fun r m => ∃ v, r = some (lI v) ∧ txO (bC s) l 0 4 s m v) := by
  have v3 : qa_vin 0 3 := vin_of (x := 0) (n := 3) (by decide) (by decide) (by decide)
  refine qC_of rfl rfl ?_
  refine qa_t1_W (cut := [32]) 60 ?_
  refine h_isSort0 (Exists.intro _ (And.intro rfl ?_))
  refine And.intro (fun q => absurd q (by decide)) (fun _ => ?_)
  refine And.intro v3 (And.intro v3 ?_)
  refine And.intro (fun c => ?_) (fun c => ?_)
  · have c : gI s 15 0 0 < 4 := c
    have c := Int32.lt_iff_toInt_lt.mp c
    have c : (gI s 15 0 0).toInt < 4 := c
    refine h_isRead0 hJ hl hl2 hB fun m v O => Exists.intro v (And.intro rfl ?_)
    refine And.intro (fun cv => ?_) (fun cv => ?_)
    · have cv : v = 0 := cv
      subst cv
      exact Exists.intro _ (And.intro rfl (Or.inr ⟨rfl, Or.inr (ir_0 O), O.2.2.1⟩))
    · have cv : ¬ v = 0 := cv
      have cv : v = 1 := (ir_b O).resolve_left cv
      subst cv
      obtain ⟨q, hq⟩ := ir_1 O
      have e15 : gI m 15 0 0 = gI s 15 0 0 := (O.2.2.1 15 0 0 (fun q => by
        obtain ⟨w, hw, e1, _⟩ := q
        simp only [irW, List.mem_cons, List.not_mem_nil, or_false] at hw
        rcases hw with rfl | rfl | rfl | rfl | rfl | rfl | rfl | rfl <;> exact absurd e1 (by decide))).1
      have fin : ∃ v, some (lI (gI (sI (sI m 1 0 1 0) 15 0 0 (gI (sI m 1 0 1 0) 15 0 0 + 1)) 15 0 0 - 1)) = some (lI v) ∧ txO (bC s) l 0 4 s (sI (sI m 1 0 1 0) 15 0 0 (gI (sI m 1 0 1 0) 15 0 0 + 1)) v := by
        have e1 : gI (sI m 1 0 1 0) 15 0 0 = gI s 15 0 0 := by rw [gI_sI, if_neg (fun q => absurd q.1 (by decide)), e15]
        refine ⟨_, rfl, Or.inl ⟨?_, c, ⟨q, hq⟩, ?_, ?_, ?_⟩⟩
        · rw [gI_sI, if_pos ⟨rfl, rfl, rfl⟩, e1, Int32.add_sub_cancel]
        · rw [gI_sI, if_neg (fun q => absurd q.1 (by decide)), gI_sI, if_pos ⟨rfl, rfl, rfl⟩]
        · rw [gI_sI, if_pos ⟨rfl, rfl, rfl⟩, e1]
        · exact y_Fr_sI (y_Fr_sI (y_Fr_tr (V := irW) (by decide) (y_Fr_rf _ _) O.2.2.1) ⟨(1, 0, 0, 1, 1), by decide, rfl, ⟨by decide, by decide⟩, by decide, by decide⟩) ⟨(15, 0, 0, 0, 0), by decide, rfl, ⟨by decide, by decide⟩, by decide, by decide⟩
      refine qa_t1_W (cut := []) 60 ?_
      refine h_cut0 O.2.1 (Exists.intro _ (And.intro rfl ?_))
      exact And.intro v3 (And.intro v3 (And.intro v3 fin))
  · have c : ¬ gI s 15 0 0 < 4 := c
    have c : ¬ (gI s 15 0 0).toInt < 4 := fun q => c (Int32.lt_iff_toInt_lt.mpr q)
    exact Exists.intro _ (And.intro rfl (Or.inr ⟨rfl, Or.inl (by omega), y_Fr_rf _ _⟩))
theorem tx_111 (hJ : y_J x_X s) (hl : gI s 1 0 1 = nI l) (hl2 : l ≤ 200) (hB : tp_B (bC s) l) : qC false (d + 123) 146 [lR 0 (some 0), lI 1] s (fun r m => ∃ v, r = some (lI v) ∧ txO (bC s) l 1 6 s m v) := by
  have v3 : qa_vin 1 3 := vin_of (x := 1) (n := 3) (by decide) (by decide) (by decide)
  refine qC_of rfl rfl ?_
  refine qa_t1_W (cut := [32]) 60 ?_
  refine h_isSort1 (Exists.intro _ (And.intro rfl ?_))
  refine And.intro (fun q => absurd q (by decide)) (fun _ => ?_)
  refine And.intro v3 (And.intro v3 ?_)
  refine And.intro (fun c => ?_) (fun c => ?_)
  · have c : gI s 15 0 1 < 6 := c
    have c := Int32.lt_iff_toInt_lt.mp c
    have c : (gI s 15 0 1).toInt < 6 := c
    refine h_isRead1 hJ hl hl2 hB fun m v O => Exists.intro v (And.intro rfl ?_)
    refine And.intro (fun cv => ?_) (fun cv => ?_)
    · have cv : v = 0 := cv
      subst cv
      exact Exists.intro _ (And.intro rfl (Or.inr ⟨rfl, Or.inr (ir_0 O), O.2.2.1⟩))
    · have cv : ¬ v = 0 := cv
      have cv : v = 1 := (ir_b O).resolve_left cv
      subst cv
      obtain ⟨q, hq⟩ := ir_1 O
      have e15 : gI m 15 0 1 = gI s 15 0 1 := (O.2.2.1 15 0 1 (fun q => by
        obtain ⟨w, hw, e1, _⟩ := q
        simp only [irW, List.mem_cons, List.not_mem_nil, or_false] at hw
        rcases hw with rfl | rfl | rfl | rfl | rfl | rfl | rfl | rfl <;> exact absurd e1 (by decide))).1
      have fin : ∃ v, some (lI (gI (sI (sI m 1 0 1 0) 15 0 1 (gI (sI m 1 0 1 0) 15 0 1 + 1)) 15 0 1 - 1)) = some (lI v) ∧ txO (bC s) l 1 6 s (sI (sI m 1 0 1 0) 15 0 1 (gI (sI m 1 0 1 0) 15 0 1 + 1)) v := by
        have e1 : gI (sI m 1 0 1 0) 15 0 1 = gI s 15 0 1 := by rw [gI_sI, if_neg (fun q => absurd q.1 (by decide)), e15]
        refine ⟨_, rfl, Or.inl ⟨?_, c, ⟨q, hq⟩, ?_, ?_, ?_⟩⟩
        · rw [gI_sI, if_pos ⟨rfl, rfl, rfl⟩, e1, Int32.add_sub_cancel]
        · rw [gI_sI, if_neg (fun q => absurd q.1 (by decide)), gI_sI, if_pos ⟨rfl, rfl, rfl⟩]
        · rw [gI_sI, if_pos ⟨rfl, rfl, rfl⟩, e1]
        · exact y_Fr_sI (y_Fr_sI (y_Fr_tr (V := irW) (by decide) (y_Fr_rf _ _) O.2.2.1) ⟨(1, 0, 0, 1, 1), by decide, rfl, ⟨by decide, by decide⟩, by decide, by decide⟩) ⟨(15, 0, 0, 1, 1), by decide, rfl, ⟨by decide, by decide⟩, by decide, by decide⟩
      refine qa_t1_W (cut := []) 60 ?_
      refine h_cut0 O.2.1 (Exists.intro _ (And.intro rfl ?_))
      exact And.intro v3 (And.intro v3 (And.intro v3 fin))
  · have c : ¬ gI s 15 0 1 < 6 := c
    have c : ¬ (gI s 15 0 1).toInt < 6 := fun q => c (Int32.lt_iff_toInt_lt.mpr q)
    exact Exists.intro _ (And.intro rfl (Or.inr ⟨rfl, Or.inl (by omega), y_Fr_rf _ _⟩))
theorem tx_112 (hJ : y_J x_X s) (hl : gI s 1 0 1 = nI l) (hl2 : l ≤ 200) (hB : tp_B (bC s) l) : qC false (d + 123) 146 [lR 0 (some 0), lI 2] s (fun r m => ∃ v, r = some (lI v) ∧ txO (bC s) l 2 4 s m v) := by
  have v3 : qa_vin 2 3 := vin_of (x := 2) (n := 3) (by decide) (by decide) (by decide)
  refine qC_of rfl rfl ?_
  refine qa_t1_W (cut := [32]) 60 ?_
  refine h_isSort2 (Exists.intro _ (And.intro rfl ?_))
  refine And.intro (fun q => absurd q (by decide)) (fun _ => ?_)
  refine And.intro v3 (And.intro v3 ?_)
  refine And.intro (fun c => ?_) (fun c => ?_)
  · have c : gI s 15 0 2 < 4 := c
    have c := Int32.lt_iff_toInt_lt.mp c
    have c : (gI s 15 0 2).toInt < 4 := c
    refine h_isRead2 hJ hl hl2 hB fun m v O => Exists.intro v (And.intro rfl ?_)
    refine And.intro (fun cv => ?_) (fun cv => ?_)
    · have cv : v = 0 := cv
      subst cv
      exact Exists.intro _ (And.intro rfl (Or.inr ⟨rfl, Or.inr (ir_0 O), O.2.2.1⟩))
    · have cv : ¬ v = 0 := cv
      have cv : v = 1 := (ir_b O).resolve_left cv
      subst cv
      obtain ⟨q, hq⟩ := ir_1 O
      have e15 : gI m 15 0 2 = gI s 15 0 2 := (O.2.2.1 15 0 2 (fun q => by
        obtain ⟨w, hw, e1, _⟩ := q
        simp only [irW, List.mem_cons, List.not_mem_nil, or_false] at hw
        rcases hw with rfl | rfl | rfl | rfl | rfl | rfl | rfl | rfl <;> exact absurd e1 (by decide))).1
      have fin : ∃ v, some (lI (gI (sI (sI m 1 0 1 0) 15 0 2 (gI (sI m 1 0 1 0) 15 0 2 + 1)) 15 0 2 - 1)) = some (lI v) ∧ txO (bC s) l 2 4 s (sI (sI m 1 0 1 0) 15 0 2 (gI (sI m 1 0 1 0) 15 0 2 + 1)) v := by
        have e1 : gI (sI m 1 0 1 0) 15 0 2 = gI s 15 0 2 := by rw [gI_sI, if_neg (fun q => absurd q.1 (by decide)), e15]
        refine ⟨_, rfl, Or.inl ⟨?_, c, ⟨q, hq⟩, ?_, ?_, ?_⟩⟩
        · rw [gI_sI, if_pos ⟨rfl, rfl, rfl⟩, e1, Int32.add_sub_cancel]
        · rw [gI_sI, if_neg (fun q => absurd q.1 (by decide)), gI_sI, if_pos ⟨rfl, rfl, rfl⟩]
        · rw [gI_sI, if_pos ⟨rfl, rfl, rfl⟩, e1]
        · exact y_Fr_sI (y_Fr_sI (y_Fr_tr (V := irW) (by decide) (y_Fr_rf _ _) O.2.2.1) ⟨(1, 0, 0, 1, 1), by decide, rfl, ⟨by decide, by decide⟩, by decide, by decide⟩) ⟨(15, 0, 0, 2, 2), by decide, rfl, ⟨by decide, by decide⟩, by decide, by decide⟩
      refine qa_t1_W (cut := []) 60 ?_
      refine h_cut0 O.2.1 (Exists.intro _ (And.intro rfl ?_))
      exact And.intro v3 (And.intro v3 (And.intro v3 fin))
  · have c : ¬ gI s 15 0 2 < 4 := c
    have c : ¬ (gI s 15 0 2).toInt < 4 := fun q => c (Int32.lt_iff_toInt_lt.mpr q)
    exact Exists.intro _ (And.intro rfl (Or.inr ⟨rfl, Or.inl (by omega), y_Fr_rf _ _⟩))
end TX
/-! text of the reference, by value. -/
section TU
variable {d l : Nat} {s : LMem}
theorem tx_11N {p : Int32} (e0 : ¬ p = 0) (e1 : ¬ p = 1) (e2 : ¬ p = 2) : qC false (d + 123) 146 [lR 0 (some 0), lI p] s (fun r m => r = some (lI (-1)) ∧ m = s) := by
  refine qC_of rfl rfl ?_
  refine qa_t1_W (cut := []) 60 ?_
  refine h_isSortN e0 e1 e2 (Exists.intro _ (And.intro rfl ?_))
  refine And.intro (fun _ => ?_) (fun q => absurd rfl q)
  exact And.intro rfl rfl
theorem tx_12N {p : Int32} (e0 : ¬ p = 0) (e1 : ¬ p = 1) (e2 : ¬ p = 2) : qC false (d + 123) 236 [lR 33 (some 0), lI p] s (fun r m => r = some (lI (-1)) ∧ m = s) := h_text_no (d := d + 122) e0 e1 e2 ⟨rfl, rfl⟩
theorem tx_120 (hJ : y_J x_X s) (hl : gI s 33 0 2 = nI l) (hl2 : l ≤ 200) : qC false (d + 123) 236 [lR 33 (some 0), lI 0] s (fun r m => ∃ v, r = some (lI v) ∧ tuO (bS s) l 0 21 4 s m v) := by
  obtain ⟨D, hD2, hD⟩ := y_nIof2 (N := 4) (x := gI s 33 0 21) (hJ.1 33 0 21 (21, 21, 0, 4) (by decide) (by decide) (by decide)).1 (hJ.1 33 0 21 (21, 21, 0, 4) (by decide) (by decide) (by decide)).2
  have g : qC false (d + 122) 233 [lR 33 (some 0), lI (gI s 33 0 21)] s (fun r m => ∃ v, r = some (lI v) ∧ y_Fr dt_W s m ∧ ((v = -1 ∧ ∃ q, rdS (bS s) l 0 (true, q)) ∨ (v ≠ -1 ∧ ∃ w, rdS (bS s) l 0 (false, w)))) := by
    rw [hD]
    have g1 := h_readDitchU (d := d + 117) (dd := D) (by omega) hl hl2
    have g2 : qC false (d + 122) 233 [lR 33 (some 0), lI (nI D)] s (fun _ m => y_Fr dt_W s m) := h_readDitch (d := d + 117) (dd := D) (by omega) (by unfold xI; rw [hD, nI_toInt (by omega)]; omega) hJ (fun m v S _ => S.2)
    refine qC_mono (qC_and g1 g2) (fun r m q => ?_)
    obtain ⟨⟨v, e, O⟩, F⟩ := q
    rcases O with ⟨rfl, q, _⟩ | ⟨w, hw, rfl, ez⟩
    · exact ⟨-1, e, F, Or.inl ⟨rfl, q⟩⟩
    · exact ⟨nI w, e, F, Or.inr ⟨nI_ne1 (by omega), w, ez⟩⟩
  have out : ∀ m v, v = (-1 : Int32) → (4 ≤ (gI s 33 0 21).toInt ∨ ∃ w, rdS (bS s) l 0 (false, w)) → y_Fr dt_W s m → ∃ v', some (lI v) = some (lI v') ∧ tuO (bS s) l 0 21 4 s m v' := fun m v e h F => ⟨v, rfl, Or.inr ⟨e, h, (F 33 0 2 (x_nW 2 2 (by decide) (by decide) (by decide))).1, (F 33 0 21 (x_nW 21 21 (by decide) (by decide) (by decide))).1⟩⟩
  have outW : ∀ m, (4 ≤ (gI s 33 0 21).toInt ∨ ∃ w, rdS (bS s) l 0 (false, w)) → y_Fr dt_W s m → qW false (d + 122) 236 0 0 46 [some (lR 33 (some 0)), some (lI 0)] [] m (fun r m => ∃ v, r = some (lI v) ∧ tuO (bS s) l 0 21 4 s m v) := fun m h F => by
    refine qa_t1_W (cut := []) 80 ?_
    refine And.intro (fun q => absurd q (by decide)) (fun _ => ?_)
    refine And.intro (fun q => absurd q (by decide)) (fun _ => ?_)
    exact out m _ rfl h F
  refine qC_of rfl rfl ?_
  refine qa_t1_W (cut := [46]) 80 ?_
  refine And.intro (fun _ => ?_) (fun q => absurd rfl q)
  refine And.intro (fun c => ?_) (fun c => ?_)
  · have c : gI s 33 0 21 < 4 := c
    have c := Int32.lt_iff_toInt_lt.mp c
    have c : (gI s 33 0 21).toInt < 4 := c
    refine qC_mono g fun r m q => ?_
    obtain ⟨v, e, F, O⟩ := q
    have fK := (F 33 0 21 (x_nW 21 21 (by decide) (by decide) (by decide))).1
    refine Exists.intro v (And.intro e ?_)
    refine And.intro (fun ev => ?_) (fun ev => ?_)
    · have ev : v = -1 := ev
      have hq : ∃ q, rdS (bS s) l 0 (true, q) := by
        rcases O with ⟨_, q⟩ | ⟨n, _⟩
        · exact q
        · exact absurd ev n
      have e1 : gI (sI m 33 0 2 0) 33 0 21 = gI s 33 0 21 := by rw [gI_sI, if_neg (fun q => absurd q.2.2 (by decide)), fK]
      have fin : ∃ v, some (lI (gI (sI (sI m 33 0 2 0) 33 0 21 (gI (sI m 33 0 2 0) 33 0 21 + 1)) 33 0 21 - 1)) = some (lI v) ∧ tuO (bS s) l 0 21 4 s (sI (sI m 33 0 2 0) 33 0 21 (gI (sI m 33 0 2 0) 33 0 21 + 1)) v := by
        refine ⟨_, rfl, Or.inl ⟨?_, c, hq, ?_, ?_⟩⟩
        · rw [gI_sI, if_pos ⟨rfl, rfl, rfl⟩, e1, Int32.add_sub_cancel]
        · rw [gI_sI, if_neg (fun q => absurd q.2.2 (by decide)), gI_sI, if_pos ⟨rfl, rfl, rfl⟩]
        · rw [gI_sI, if_pos ⟨rfl, rfl, rfl⟩, e1]
      exact fin
    · have ev : ¬ v = -1 := ev
      refine outW m (Or.inr ?_) F
      rcases O with ⟨n, _⟩ | ⟨_, q⟩
      · exact absurd n ev
      · exact q
  · have c : ¬ gI s 33 0 21 < 4 := c
    have c : ¬ (gI s 33 0 21).toInt < 4 := fun q => c (Int32.lt_iff_toInt_lt.mpr q)
    exact outW s (Or.inl (by omega)) (y_Fr_rf _ _)
theorem tx_121 (hJ : y_J x_X s) (hl : gI s 33 0 2 = nI l) (hl2 : l ≤ 200) : qC false (d + 123) 236 [lR 33 (some 0), lI 1] s (fun r m => ∃ v, r = some (lI v) ∧ tuO (bS s) l 1 13 6 s m v) := by
  obtain ⟨D, hD2, hD⟩ := y_nIof2 (N := 6) (x := gI s 33 0 13) (hJ.1 33 0 13 (13, 13, 0, 6) (by decide) (by decide) (by decide)).1 (hJ.1 33 0 13 (13, 13, 0, 6) (by decide) (by decide) (by decide)).2
  have g : qC false (d + 122) 225 [lR 33 (some 0), lI (gI s 33 0 13)] s (fun r m => ∃ v, r = some (lI v) ∧ y_Fr lr_W s m ∧ ((v = -1 ∧ ∃ q, rdS (bS s) l 1 (true, q)) ∨ (v ≠ -1 ∧ ∃ w, rdS (bS s) l 1 (false, w)))) := by
    rw [hD]
    have g1 := h_readLawU (d := d + 81) (n := D) (by omega) (by unfold xI; rw [hD, nI_toInt (by omega)]; omega) hJ hl hl2
    have g2 : qC false (d + 122) 225 [lR 33 (some 0), lI (nI D)] s (fun _ m => y_Fr lr_W s m) := h_readLaw (d := d + 81) (n := D) (by omega) (by unfold xI; rw [hD, nI_toInt (by omega)]; omega) hJ (fun m v J F _ => F)
    refine qC_mono (qC_and g1 g2) (fun r m q => ?_)
    obtain ⟨⟨v, e, O⟩, F⟩ := q
    rcases O with ⟨rfl, q⟩ | ⟨w, hw, rfl, ez⟩
    · exact ⟨-1, e, F, Or.inl ⟨rfl, q⟩⟩
    · exact ⟨nI w, e, F, Or.inr ⟨nI_ne1 (by omega), w, ez⟩⟩
  have out : ∀ m v, v = (-1 : Int32) → (6 ≤ (gI s 33 0 13).toInt ∨ ∃ w, rdS (bS s) l 1 (false, w)) → y_Fr lr_W s m → ∃ v', some (lI v) = some (lI v') ∧ tuO (bS s) l 1 13 6 s m v' := fun m v e h F => ⟨v, rfl, Or.inr ⟨e, h, (F 33 0 2 (x_nW 2 2 (by decide) (by decide) (by decide))).1, (F 33 0 13 (x_nW 13 13 (by decide) (by decide) (by decide))).1⟩⟩
  have outW : ∀ m, (6 ≤ (gI s 33 0 13).toInt ∨ ∃ w, rdS (bS s) l 1 (false, w)) → y_Fr lr_W s m → qW false (d + 122) 236 0 0 94 [some (lR 33 (some 0)), some (lI 1)] [] m (fun r m => ∃ v, r = some (lI v) ∧ tuO (bS s) l 1 13 6 s m v) := fun m h F => by
    refine qa_t1_W (cut := []) 80 ?_
    refine And.intro (fun q => absurd q (by decide)) (fun _ => ?_)
    exact out m _ rfl h F
  refine qC_of rfl rfl ?_
  refine qa_t1_W (cut := [94]) 80 ?_
  refine And.intro (fun q => absurd q (by decide)) (fun _ => ?_)
  refine And.intro (fun _ => ?_) (fun q => absurd rfl q)
  refine And.intro (fun c => ?_) (fun c => ?_)
  · have c : gI s 33 0 13 < 6 := c
    have c := Int32.lt_iff_toInt_lt.mp c
    have c : (gI s 33 0 13).toInt < 6 := c
    refine qC_mono g fun r m q => ?_
    obtain ⟨v, e, F, O⟩ := q
    have fK := (F 33 0 13 (x_nW 13 13 (by decide) (by decide) (by decide))).1
    refine Exists.intro v (And.intro e ?_)
    refine And.intro (fun ev => ?_) (fun ev => ?_)
    · have ev : v = -1 := ev
      have hq : ∃ q, rdS (bS s) l 1 (true, q) := by
        rcases O with ⟨_, q⟩ | ⟨n, _⟩
        · exact q
        · exact absurd ev n
      have e1 : gI (sI m 33 0 2 0) 33 0 13 = gI s 33 0 13 := by rw [gI_sI, if_neg (fun q => absurd q.2.2 (by decide)), fK]
      have fin : ∃ v, some (lI (gI (sI (sI m 33 0 2 0) 33 0 13 (gI (sI m 33 0 2 0) 33 0 13 + 1)) 33 0 13 - 1)) = some (lI v) ∧ tuO (bS s) l 1 13 6 s (sI (sI m 33 0 2 0) 33 0 13 (gI (sI m 33 0 2 0) 33 0 13 + 1)) v := by
        refine ⟨_, rfl, Or.inl ⟨?_, c, hq, ?_, ?_⟩⟩
        · rw [gI_sI, if_pos ⟨rfl, rfl, rfl⟩, e1, Int32.add_sub_cancel]
        · rw [gI_sI, if_neg (fun q => absurd q.2.2 (by decide)), gI_sI, if_pos ⟨rfl, rfl, rfl⟩]
        · rw [gI_sI, if_pos ⟨rfl, rfl, rfl⟩, e1]
      exact fin
    · have ev : ¬ v = -1 := ev
      refine outW m (Or.inr ?_) F
      rcases O with ⟨n, _⟩ | ⟨_, q⟩
      · exact absurd n ev
      · exact q
  · have c : ¬ gI s 33 0 13 < 6 := c
    have c : ¬ (gI s 33 0 13).toInt < 6 := fun q => c (Int32.lt_iff_toInt_lt.mpr q)
    exact outW s (Or.inl (by omega)) (y_Fr_rf _ _)
theorem tx_122 (hJ : y_J x_X s) (hl : gI s 33 0 2 = nI l) (hl2 : l ≤ 200) : qC false (d + 123) 236 [lR 33 (some 0), lI 2] s (fun r m => ∃ v, r = some (lI v) ∧ tuO (bS s) l 2 22 4 s m v) := by
  obtain ⟨D, hD2, hD⟩ := y_nIof2 (N := 4) (x := gI s 33 0 22) (hJ.1 33 0 22 (22, 22, 0, 4) (by decide) (by decide) (by decide)).1 (hJ.1 33 0 22 (22, 22, 0, 4) (by decide) (by decide) (by decide)).2
  have g : qC false (d + 122) 234 [lR 33 (some 0), lI (gI s 33 0 22)] s (fun r m => ∃ v, r = some (lI v) ∧ y_Fr rr_W s m ∧ ((v = -1 ∧ ∃ q, rdS (bS s) l 2 (true, q)) ∨ (v ≠ -1 ∧ ∃ w, rdS (bS s) l 2 (false, w)))) := by
    rw [hD]
    have g1 := h_readRainU (d := d + 118) (r := D) (by omega) hl hl2
    have g2 : qC false (d + 122) 234 [lR 33 (some 0), lI (nI D)] s (fun _ m => y_Fr rr_W s m) := h_readRain (d := d + 118) (r := D) (by omega) hJ (fun v m J F => F)
    refine qC_mono (qC_and g1 g2) (fun r m q => ?_)
    obtain ⟨⟨v, e, O⟩, F⟩ := q
    rcases O with ⟨rfl, q, _⟩ | ⟨w, hw, rfl, ez⟩
    · exact ⟨-1, e, F, Or.inl ⟨rfl, q⟩⟩
    · exact ⟨nI w, e, F, Or.inr ⟨nI_ne1 (by omega), w, ez⟩⟩
  have out : ∀ m v, v = (-1 : Int32) → (4 ≤ (gI s 33 0 22).toInt ∨ ∃ w, rdS (bS s) l 2 (false, w)) → y_Fr rr_W s m → ∃ v', some (lI v) = some (lI v') ∧ tuO (bS s) l 2 22 4 s m v' := fun m v e h F => ⟨v, rfl, Or.inr ⟨e, h, (F 33 0 2 (x_nW 2 2 (by decide) (by decide) (by decide))).1, (F 33 0 22 (x_nW 22 22 (by decide) (by decide) (by decide))).1⟩⟩
  have outW : ∀ m, (4 ≤ (gI s 33 0 22).toInt ∨ ∃ w, rdS (bS s) l 2 (false, w)) → y_Fr rr_W s m → qW false (d + 122) 236 0 0 141 [some (lR 33 (some 0)), some (lI 2)] [] m (fun r m => ∃ v, r = some (lI v) ∧ tuO (bS s) l 2 22 4 s m v) := fun m h F => by
    refine qa_t1_W (cut := []) 80 ?_

    exact out m _ rfl h F
  refine qC_of rfl rfl ?_
  refine qa_t1_W (cut := [141]) 80 ?_
  refine And.intro (fun q => absurd q (by decide)) (fun _ => ?_)
  refine And.intro (fun q => absurd q (by decide)) (fun _ => ?_)
  refine And.intro (fun _ => ?_) (fun q => absurd rfl q)
  refine And.intro (fun c => ?_) (fun c => ?_)
  · have c : gI s 33 0 22 < 4 := c
    have c := Int32.lt_iff_toInt_lt.mp c
    have c : (gI s 33 0 22).toInt < 4 := c
    refine qC_mono g fun r m q => ?_
    obtain ⟨v, e, F, O⟩ := q
    have fK := (F 33 0 22 (x_nW 22 22 (by decide) (by decide) (by decide))).1
    refine Exists.intro v (And.intro e ?_)
    refine And.intro (fun ev => ?_) (fun ev => ?_)
    · have ev : v = -1 := ev
      have hq : ∃ q, rdS (bS s) l 2 (true, q) := by
        rcases O with ⟨_, q⟩ | ⟨n, _⟩
        · exact q
        · exact absurd ev n
      have e1 : gI (sI m 33 0 2 0) 33 0 22 = gI s 33 0 22 := by rw [gI_sI, if_neg (fun q => absurd q.2.2 (by decide)), fK]
      have fin : ∃ v, some (lI (gI (sI (sI m 33 0 2 0) 33 0 22 (gI (sI m 33 0 2 0) 33 0 22 + 1)) 33 0 22 - 1)) = some (lI v) ∧ tuO (bS s) l 2 22 4 s (sI (sI m 33 0 2 0) 33 0 22 (gI (sI m 33 0 2 0) 33 0 22 + 1)) v := by
        refine ⟨_, rfl, Or.inl ⟨?_, c, hq, ?_, ?_⟩⟩
        · rw [gI_sI, if_pos ⟨rfl, rfl, rfl⟩, e1, Int32.add_sub_cancel]
        · rw [gI_sI, if_neg (fun q => absurd q.2.2 (by decide)), gI_sI, if_pos ⟨rfl, rfl, rfl⟩]
        · rw [gI_sI, if_pos ⟨rfl, rfl, rfl⟩, e1]
      exact fin
    · have ev : ¬ v = -1 := ev
      refine outW m (Or.inr ?_) F
      rcases O with ⟨n, _⟩ | ⟨_, q⟩
      · exact absurd n ev
      · exact q
  · have c : ¬ gI s 33 0 22 < 4 := c
    have c : ¬ (gI s 33 0 22).toInt < 4 := fun q => c (Int32.lt_iff_toInt_lt.mpr q)
    exact outW s (Or.inl (by omega)) (y_Fr_rf _ _)
end TU
/-! feed of both sides, by value. -/
def fdp (y : Int32) (t : (Nat → Int32) × Nat) : (Nat → Int32) × Nat := if y = 0 then t else (fun j => if j = t.2 then y else t.1 j, t.2 + 1)
theorem fdp_2 (y : Int32) (t : (Nat → Int32) × Nat) : (fdp y t).2 = t.2 + xf_n y := by
  unfold fdp xf_n
  by_cases e : y = 0
  · rw [if_pos e, if_pos e]; rfl
  · rw [if_neg e, if_neg e]
def fb (x k : Int32) : Int32 := (x.toUInt32 >>> (k.toUInt32 &&& Int32.toUInt32 31)).toInt32 &&& 255
def fB (x : Int32) : Nat := 0 + xf_n (fb x 24) + xf_n (fb x 16) + xf_n (fb x 8) + xf_n (fb x 0)
theorem fB_le (x : Int32) : fB x ≤ 4 := by
  have h1 := xf_n_le (fb x 24)
  have h2 := xf_n_le (fb x 16)
  have h3 := xf_n_le (fb x 8)
  have h4 := xf_n_le (fb x 0)
  unfold fB
  omega
def fda (x : Int32) (t : (Nat → Int32) × Nat) : (Nat → Int32) × Nat := fdp (fb x 0) (fdp (fb x 8) (fdp (fb x 16) (fdp (fb x 24) t)))
theorem fda_2 (x : Int32) (t : (Nat → Int32) × Nat) : (fda x t).2 = t.2 + fB x := by
  unfold fda fB
  rw [fdp_2, fdp_2, fdp_2, fdp_2]
  omega
def fdA (a b e f g : Int32) (t : (Nat → Int32) × Nat) : (Nat → Int32) × Nat := fda g (fda f (fda e (fda b (fda a t))))
def fT (a b e f g : Int32) : Nat := fB a + fB b + fB e + fB f + fB g
theorem fdA_2 (a b e f g : Int32) (t : (Nat → Int32) × Nat) : (fdA a b e f g t).2 = t.2 + fT a b e f g := by
  unfold fdA fT
  rw [fda_2, fda_2, fda_2, fda_2, fda_2]
  omega
theorem fbin1 {d n bc bs : Nat} {x k k' : Int32} {s : LMem} {Q : LPost} (hk : ¬ k < 0) (hk' : k + -8 = k') (h : qW false d 108 bc bs 5 [some (lI x), some (lI (nI (n + xf_n (fb x k)))), some (lI k')] [] s Q) : qW false d 108 bc bs 5 [some (lI x), some (lI (nI n)), some (lI k)] [] s Q := by
  subst hk'
  refine qa_t1_W (cut := [5]) 20 ?_
  refine And.intro (fun q => absurd q hk) (fun _ => ?_)
  refine And.intro (fun e => ?_) (fun e => ?_)
  · rw [show xf_n (fb x k) = 0 from if_pos e] at h
    exact h
  · rw [show xf_n (fb x k) = 1 from if_neg e, ← nI_1] at h
    exact h
theorem fbin {d : Nat} {x : Int32} {s : LMem} {Q : LPost} (h : Q (some (lI (nI (fB x)))) s) : qC false (d + 1) 108 [lI x] s Q := by
  refine qC_of rfl rfl ?_
  refine qa_t1_W (cut := [5]) 20 ?_
  refine fbin1 (n := 0) (k' := 16) (by decide) (by decide) ?_
  refine fbin1 (k' := 8) (by decide) (by decide) ?_
  refine fbin1 (k' := 0) (by decide) (by decide) ?_
  refine fbin1 (k' := -8) (by decide) (by decide) ?_
  refine qa_t1_W (cut := [5]) 20 ?_
  exact And.intro (fun _ => h) (fun q => absurd (by decide) q)
/-- the tape of the class is t -/
def fC (m : LMem) (t : (Nat → Int32) × Nat) : Prop := bC m = t.1 ∧ gI m 1 0 1 = nI t.2
def fR (m : LMem) (t : (Nat → Int32) × Nat) : Prop := bS m = t.1 ∧ gI m 33 0 2 = nI t.2
theorem fC_s {m : LMem} {t : (Nat → Int32) × Nat} {y : Int32} (hy : ¬ y = 0) (h : fC m t) (h2 : t.2 < 200) : fC (sI (sI m 2 0 (gI m 1 0 1).toNatClampNeg y) 1 0 1 (gI (sI m 2 0 (gI m 1 0 1).toNatClampNeg y) 1 0 1 + 1)) (fdp y t) := by
  have ec : (gI m 1 0 1).toNatClampNeg = t.2 := by rw [h.2, nI_clamp (by omega)]
  unfold fdp
  rw [if_neg hy]
  refine ⟨funext fun j => ?_, ?_⟩
  · show gI (sI (sI m 2 0 (gI m 1 0 1).toNatClampNeg y) 1 0 1 (gI (sI m 2 0 (gI m 1 0 1).toNatClampNeg y) 1 0 1 + 1)) 2 0 j = if j = t.2 then y else t.1 j
    rw [gI_sI, if_neg (fun q => absurd q.1 (by decide)), gI_sI, ec]
    by_cases e : j = t.2
    · rw [if_pos e, if_pos ⟨rfl, rfl, e⟩]
    · rw [if_neg e, if_neg (fun q => e q.2.2)]
      exact congrFun h.1 j
  · rw [gI_sI, if_pos ⟨rfl, rfl, rfl⟩, gI_sI, if_neg (fun q => absurd q.1 (by decide)), h.2, nI_1]
theorem fR_s {m : LMem} {t : (Nat → Int32) × Nat} {y : Int32} (hy : ¬ y = 0) (h : fR m t) (h2 : t.2 < 200) : fR (sI (sI m 34 0 (gI m 33 0 2).toNatClampNeg y) 33 0 2 (gI (sI m 34 0 (gI m 33 0 2).toNatClampNeg y) 33 0 2 + 1)) (fdp y t) := by
  have ec : (gI m 33 0 2).toNatClampNeg = t.2 := by rw [h.2, nI_clamp (by omega)]
  unfold fdp
  rw [if_neg hy]
  refine ⟨funext fun j => ?_, ?_⟩
  · show gI (sI (sI m 34 0 (gI m 33 0 2).toNatClampNeg y) 33 0 2 (gI (sI m 34 0 (gI m 33 0 2).toNatClampNeg y) 33 0 2 + 1)) 34 0 j = if j = t.2 then y else t.1 j
    rw [gI_sI, if_neg (fun q => absurd q.1 (by decide)), gI_sI, ec]
    by_cases e : j = t.2
    · rw [if_pos e, if_pos ⟨rfl, rfl, e⟩]
    · rw [if_neg e, if_neg (fun q => e q.2.2)]
      exact congrFun h.1 j
  · rw [gI_sI, if_pos ⟨rfl, rfl, rfl⟩, gI_sI, if_neg (fun q => absurd q.1 (by decide)), h.2, nI_1]
section FD
variable {d bc bs : Nat} {a b e f g : Int32} {s : LMem} {Q : LPost} {t : (Nat → Int32) × Nat}
theorem fapp1 {x k k' : Int32} {l3 : Option LV} (hk : ¬ k < 0) (hk' : k + -8 = k') (hc : (fdp (fb x k) t).2 ≤ 200) (hI : fC s t) (h : ∀ s' l3, fC s' (fdp (fb x k) t) → qW false d 109 bc bs 3 [some (lR 1 (some 0)), some (lI x), some (lI k'), l3] [] s' Q) : qW false d 109 bc bs 3 [some (lR 1 (some 0)), some (lI x), some (lI k), l3] [] s Q := by
  subst hk'
  refine qa_t1_W (cut := [3]) 40 ?_
  refine And.intro (fun q => absurd q hk) (fun _ => ?_)
  refine And.intro (fun e => ?_) (fun e => ?_)
  · refine h s _ ?_
    rw [show fdp (fb x k) t = t from if_pos e]
    exact hI
  · have ht : t.2 < 200 := by
      rw [fdp_2, show xf_n (fb x k) = 1 from if_neg e] at hc
      omega
    have hlt : gI s 1 0 1 < 200 := by
      rw [hI.2]
      exact nI_lt (b := 200) ht (by decide)
    have hv : qa_vin (gI s 1 0 1) 200 := by
      rw [hI.2]
      exact nI_in ht (by decide)
    refine And.intro (fun _ => ?_) (fun q => absurd hlt q)
    refine And.intro hv ?_
    exact h _ _ (fC_s e hI ht)
theorem fapp {x : Int32} (hc : (fda x t).2 ≤ 200) (hI : fC s t) (h : ∀ s', fC s' (fda x t) → Q none s') : qC false (d + 1) 109 [lR 1 (some 0), lI x] s Q := by
  have c3 : (fdp (fb x 8) (fdp (fb x 16) (fdp (fb x 24) t))).2 ≤ 200 := by
    have := fdp_2 (fb x 0) (fdp (fb x 8) (fdp (fb x 16) (fdp (fb x 24) t)))
    unfold fda at hc
    omega
  have c2 : (fdp (fb x 16) (fdp (fb x 24) t)).2 ≤ 200 := by
    have := fdp_2 (fb x 8) (fdp (fb x 16) (fdp (fb x 24) t))
    omega
  have c1 : (fdp (fb x 24) t).2 ≤ 200 := by
    have := fdp_2 (fb x 16) (fdp (fb x 24) t)
    omega
  refine qC_of rfl rfl ?_
  refine qa_t1_W (cut := [3]) 20 ?_
  refine fapp1 (k' := 16) (by decide) (by decide) c1 hI fun s1 l1 g1 => ?_
  refine fapp1 (k' := 8) (by decide) (by decide) c2 g1 fun s2 l2 g2 => ?_
  refine fapp1 (k' := 0) (by decide) (by decide) c3 g2 fun s3 l3 g3 => ?_
  refine fapp1 (k' := -8) (by decide) (by decide) hc g3 fun s4 l4 g4 => ?_
  refine qa_t1_W (cut := [3]) 20 ?_
  refine And.intro (fun _ => ?_) (fun q => absurd (by decide) q)
  exact h s4 g4
/-- what feed leaves -/
def fdO (K : LMem → (Nat → Int32) × Nat → Prop) (a b e f g : Int32) (t : (Nat → Int32) × Nat) (m : LMem) (v : Int32) : Prop := (200 < t.2 + fT a b e f g ∧ v = -1 ∧ K m t) ∨ (t.2 + fT a b e f g ≤ 200 ∧ v = nI (t.2 + fT a b e f g) ∧ K m (fdA a b e f g t))
theorem fd_11 (hc : t.2 ≤ 200) (hI : fC s t) : qC false (d + 3) 143 [lR 0 (some 0), lI a, lI b, lI e, lI f, lI g] s (fun r m => ∃ v, r = some (lI v) ∧ fdO fC a b e f g t m v) := by
  have h1 := fB_le a
  have h2 := fB_le b
  have h3 := fB_le e
  have h4 := fB_le f
  have h5 := fB_le g
  have g1 := fda_2 a t
  have g2 := fda_2 b (fda a t)
  have g3 := fda_2 e (fda b (fda a t))
  have g4 := fda_2 f (fda e (fda b (fda a t)))
  have g5 := fda_2 g (fda f (fda e (fda b (fda a t))))
  have sum : gI s 1 0 1 + (nI (fB a) + nI (fB b) + nI (fB e) + nI (fB f) + nI (fB g)) = nI (t.2 + fT a b e f g) := by
    rw [hI.2, nI_add, nI_add, nI_add, nI_add, nI_add]
    rfl
  have take : qC false (d + 2) 107 [lR 1 (some 0), lI a, lI b, lI e, lI f, lI g] s (fun r m => ∃ v, r = some (lI v) ∧ fdO fC a b e f g t m v) := by
    refine qC_of rfl rfl ?_
    refine qa_t1_W (cut := []) 60 ?_
    refine fbin (Exists.intro _ (And.intro rfl ?_))
    refine fbin (Exists.intro _ (And.intro rfl ?_))
    refine fbin (Exists.intro _ (And.intro rfl ?_))
    refine fbin (Exists.intro _ (And.intro rfl ?_))
    refine fbin (Exists.intro _ (And.intro rfl ?_))
    refine And.intro (fun c => ?_) (fun c => ?_)
    · have c : (200 : Int32) < gI s 1 0 1 + (nI (fB a) + nI (fB b) + nI (fB e) + nI (fB f) + nI (fB g)) := c
      rw [sum] at c
      have c := Int32.lt_iff_toInt_lt.mp c
      rw [nI_toInt (by unfold fT; omega), show (200 : Int32).toInt = 200 by decide] at c
      exact ⟨_, rfl, Or.inl ⟨by omega, rfl, hI⟩⟩
    · have c : ¬ (200 : Int32) < gI s 1 0 1 + (nI (fB a) + nI (fB b) + nI (fB e) + nI (fB f) + nI (fB g)) := c
      rw [sum] at c
      have c : ¬ (200 : Int32).toInt < (nI (t.2 + fT a b e f g)).toInt := fun q => c (Int32.lt_iff_toInt_lt.mpr q)
      rw [nI_toInt (by unfold fT; omega), show (200 : Int32).toInt = 200 by decide] at c
      have c2 : t.2 + fT a b e f g ≤ 200 := by omega
      have c3 : t.2 + (fB a + fB b + fB e + fB f + fB g) ≤ 200 := c2
      refine fapp (by omega) hI fun s1 i1 => And.intro rfl ?_
      refine fapp (by omega) i1 fun s2 i2 => And.intro rfl ?_
      refine fapp (by omega) i2 fun s3 i3 => And.intro rfl ?_
      refine fapp (by omega) i3 fun s4 i4 => And.intro rfl ?_
      refine fapp (by omega) i4 fun s5 i5 => And.intro rfl ?_
      exact ⟨_, rfl, Or.inr ⟨c2, i5.2.trans (congrArg nI (fdA_2 a b e f g t)), i5⟩⟩
  refine qC_of rfl rfl ?_
  refine qa_t1_W (cut := []) 20 ?_
  refine qC_mono take fun r m q => ?_
  obtain ⟨v, e, O⟩ := q
  exact Exists.intro v (And.intro e (Exists.intro v (And.intro rfl O)))
end FD
/-! feed of the reference. -/
def fdr (a b e f g : Int32) (t : (Nat → Int32) × Nat) : Nat → (Nat → Int32) × Nat
  | 0 => t
  | i + 1 => fdp (xf_y a b e f g (nI i)) (fdr a b e f g t i)
theorem fdr_2 (a b e f g : Int32) (t : (Nat → Int32) × Nat) : ∀ i, (fdr a b e f g t i).2 = t.2 + xf_C a b e f g i
  | 0 => rfl
  | i + 1 => by
    show (fdp (xf_y a b e f g (nI i)) (fdr a b e f g t i)).2 = t.2 + (xf_C a b e f g i + xf_n (xf_y a b e f g (nI i)))
    rw [fdp_2, fdr_2 a b e f g t i]
    omega
theorem f_255 : ∀ i : Fin 32, ¬ i.val < 8 → (255#32).getLsbD i.val = false := by decide
theorem f_bits (x : BitVec 32) (n : Nat) (hn : n ≤ 24) : x.sshiftRight n &&& 255#32 = x >>> n &&& 255#32 := by
  apply BitVec.eq_of_getLsbD_eq
  intro i hi
  rw [BitVec.getLsbD_and, BitVec.getLsbD_and, BitVec.getLsbD_sshiftRight, BitVec.getLsbD_ushiftRight]
  by_cases h8 : i < 8
  · rw [if_pos (by omega), decide_eq_false (by omega)]
    rfl
  · rw [f_255 ⟨i, hi⟩ h8, Bool.and_false, Bool.and_false]
theorem f_al24 (x : Int32) : (x >>> (24 : Int32)) &&& 255 = fb x 24 := by
  apply Int32.toBitVec_inj.mp
  exact f_bits x.toBitVec 24 (by decide)
theorem f_al16 (x : Int32) : (x >>> (16 : Int32)) &&& 255 = fb x 16 := by
  apply Int32.toBitVec_inj.mp
  exact f_bits x.toBitVec 16 (by decide)
theorem f_al8 (x : Int32) : (x >>> (8 : Int32)) &&& 255 = fb x 8 := by
  apply Int32.toBitVec_inj.mp
  exact f_bits x.toBitVec 8 (by decide)
theorem f_al0 (x : Int32) : (x >>> (0 : Int32)) &&& 255 = fb x 0 := by
  apply Int32.toBitVec_inj.mp
  exact f_bits x.toBitVec 0 (by decide)
theorem f_ye {a b e f g i w k v : Int32} (hw : xf_w a b e f g i = w) (hk : ((24 - 8 * (i - i / 4 * 4)) &&& 31) = k) (h : (w >>> k) &&& 255 = v) : xf_y a b e f g i = v := by
  unfold xf_y
  rw [hw, hk, h]
theorem f_y0 (a b e f g : Int32) : xf_y a b e f g (nI 0) = fb a 24 := f_ye (i := nI 0) (w := a) (k := 24) rfl (by decide) (f_al24 a)
theorem f_y1 (a b e f g : Int32) : xf_y a b e f g (nI 1) = fb a 16 := f_ye (i := nI 1) (w := a) (k := 16) rfl (by decide) (f_al16 a)
theorem f_y2 (a b e f g : Int32) : xf_y a b e f g (nI 2) = fb a 8 := f_ye (i := nI 2) (w := a) (k := 8) rfl (by decide) (f_al8 a)
theorem f_y3 (a b e f g : Int32) : xf_y a b e f g (nI 3) = fb a 0 := f_ye (i := nI 3) (w := a) (k := 0) rfl (by decide) (f_al0 a)
theorem f_y4 (a b e f g : Int32) : xf_y a b e f g (nI 4) = fb b 24 := f_ye (i := nI 4) (w := b) (k := 24) rfl (by decide) (f_al24 b)
theorem f_y5 (a b e f g : Int32) : xf_y a b e f g (nI 5) = fb b 16 := f_ye (i := nI 5) (w := b) (k := 16) rfl (by decide) (f_al16 b)
theorem f_y6 (a b e f g : Int32) : xf_y a b e f g (nI 6) = fb b 8 := f_ye (i := nI 6) (w := b) (k := 8) rfl (by decide) (f_al8 b)
theorem f_y7 (a b e f g : Int32) : xf_y a b e f g (nI 7) = fb b 0 := f_ye (i := nI 7) (w := b) (k := 0) rfl (by decide) (f_al0 b)
theorem f_y8 (a b e f g : Int32) : xf_y a b e f g (nI 8) = fb e 24 := f_ye (i := nI 8) (w := e) (k := 24) rfl (by decide) (f_al24 e)
theorem f_y9 (a b e f g : Int32) : xf_y a b e f g (nI 9) = fb e 16 := f_ye (i := nI 9) (w := e) (k := 16) rfl (by decide) (f_al16 e)
theorem f_y10 (a b e f g : Int32) : xf_y a b e f g (nI 10) = fb e 8 := f_ye (i := nI 10) (w := e) (k := 8) rfl (by decide) (f_al8 e)
theorem f_y11 (a b e f g : Int32) : xf_y a b e f g (nI 11) = fb e 0 := f_ye (i := nI 11) (w := e) (k := 0) rfl (by decide) (f_al0 e)
theorem f_y12 (a b e f g : Int32) : xf_y a b e f g (nI 12) = fb f 24 := f_ye (i := nI 12) (w := f) (k := 24) rfl (by decide) (f_al24 f)
theorem f_y13 (a b e f g : Int32) : xf_y a b e f g (nI 13) = fb f 16 := f_ye (i := nI 13) (w := f) (k := 16) rfl (by decide) (f_al16 f)
theorem f_y14 (a b e f g : Int32) : xf_y a b e f g (nI 14) = fb f 8 := f_ye (i := nI 14) (w := f) (k := 8) rfl (by decide) (f_al8 f)
theorem f_y15 (a b e f g : Int32) : xf_y a b e f g (nI 15) = fb f 0 := f_ye (i := nI 15) (w := f) (k := 0) rfl (by decide) (f_al0 f)
theorem f_y16 (a b e f g : Int32) : xf_y a b e f g (nI 16) = fb g 24 := f_ye (i := nI 16) (w := g) (k := 24) rfl (by decide) (f_al24 g)
theorem f_y17 (a b e f g : Int32) : xf_y a b e f g (nI 17) = fb g 16 := f_ye (i := nI 17) (w := g) (k := 16) rfl (by decide) (f_al16 g)
theorem f_y18 (a b e f g : Int32) : xf_y a b e f g (nI 18) = fb g 8 := f_ye (i := nI 18) (w := g) (k := 8) rfl (by decide) (f_al8 g)
theorem f_y19 (a b e f g : Int32) : xf_y a b e f g (nI 19) = fb g 0 := f_ye (i := nI 19) (w := g) (k := 0) rfl (by decide) (f_al0 g)
theorem fdr_A (a b e f g : Int32) (t : (Nat → Int32) × Nat) : fdr a b e f g t 20 = fdA a b e f g t := by
  have h : fdr a b e f g t 20 = fdp (xf_y a b e f g (nI 19)) (fdp (xf_y a b e f g (nI 18)) (fdp (xf_y a b e f g (nI 17)) (fdp (xf_y a b e f g (nI 16)) (fdp (xf_y a b e f g (nI 15)) (fdp (xf_y a b e f g (nI 14)) (fdp (xf_y a b e f g (nI 13)) (fdp (xf_y a b e f g (nI 12)) (fdp (xf_y a b e f g (nI 11)) (fdp (xf_y a b e f g (nI 10)) (fdp (xf_y a b e f g (nI 9)) (fdp (xf_y a b e f g (nI 8)) (fdp (xf_y a b e f g (nI 7)) (fdp (xf_y a b e f g (nI 6)) (fdp (xf_y a b e f g (nI 5)) (fdp (xf_y a b e f g (nI 4)) (fdp (xf_y a b e f g (nI 3)) (fdp (xf_y a b e f g (nI 2)) (fdp (xf_y a b e f g (nI 1)) (fdp (xf_y a b e f g (nI 0)) t))))))))))))))))))) := rfl
  rw [h, f_y0, f_y1, f_y2, f_y3, f_y4, f_y5, f_y6, f_y7, f_y8, f_y9, f_y10, f_y11, f_y12, f_y13, f_y14, f_y15, f_y16, f_y17, f_y18, f_y19]
  rfl
theorem fdr_C (a b e f g : Int32) : xf_C a b e f g 20 = fT a b e f g := by
  have h := fdr_2 a b e f g (fun _ => 0, 0) 20
  rw [fdr_A, fdA_2] at h
  omega
section FE
variable {d bc bs : Nat} {a b e f g : Int32} {s : LMem} {Q : LPost} {t : (Nat → Int32) × Nat}
theorem fe_l2 {l6 : Int32} (hm : t.2 + xf_C a b e f g 20 ≤ 200) (h : ∀ s' l8, fR s' (fdr a b e f g t 20) → qW false (d + 1) 202 bc bs 115 [some (lR 33 (some 0)), some (lI a), some (lI b), some (lI e), some (lI f), some (lI g), some (lI l6), some (lI (nI 20)), l8] [] s' Q) :
    ∀ j i s1 l8, i + j = 20 → fR s1 (fdr a b e f g t i) → qW false (d + 1) 202 bc bs 62 [some (lR 33 (some 0)), some (lI a), some (lI b), some (lI e), some (lI f), some (lI g), some (lI l6), some (lI (nI i)), l8] [] s1 Q := by
  intro j
  induction j with
  | zero =>
    intro i s1 l8 hi hS
    have hi : i = 20 := hi
    subst hi
    refine qa_t1_W (cut := [115]) 10 ?_
    exact And.intro (fun q => absurd q (by decide)) (fun _ => h s1 l8 hS)
  | succ j ih =>
    intro i s1 l8 hi hS
    have ih := fun s1 l8 => ih (i + 1) s1 l8 (by omega)
    have hlt : nI i < 20 := nI_lt (b := 20) (by omega) (by decide)
    refine qa_t1_W (cut := [62]) 60 ?_
    refine And.intro (fun _ => ?_) (fun q => absurd hlt q)
    refine qC_of rfl rfl (xf_byteOf (Exists.intro _ (And.intro rfl ?_)))
    rw [nI_succ] at ih
    refine And.intro (fun e0 => ?_) (fun e0 => ?_)
    · refine ih s1 _ ?_
      rw [show fdr a b e f g t (i + 1) = fdr a b e f g t i from if_pos e0]
      exact hS
    · have e1 : xf_C a b e f g (i + 1) = xf_C a b e f g i + 1 := congrArg (xf_C a b e f g i + ·) (if_neg e0)
      have hmo := xf_mono a b e f g j (i + 1)
      rw [show i + 1 + j = 20 by omega, e1] at hmo
      have e2 := fdr_2 a b e f g t i
      have hv : qa_vin (gI s1 33 0 2) 200 := by
        rw [hS.2]
        exact nI_in (by omega) (by decide)
      exact And.intro hv (ih _ _ (fR_s e0 hS (by omega)))
theorem fd_12 (hc : t.2 ≤ 200) (hI : fR s t) : qC false (d + 3) 202 [lR 33 (some 0), lI a, lI b, lI e, lI f, lI g] s (fun r m => ∃ v, r = some (lI v) ∧ fdO fR a b e f g t m v) := by
  have hC := fdr_C a b e f g
  have hle := xf_C_le a b e f g 20
  refine qC_of rfl rfl ?_
  refine qa_t1_W (cut := [6]) 10 ?_
  refine xf_l1 ?_ 20 0 rfl
  refine qa_t1_W (cut := [62]) 20 ?_
  refine And.intro (fun c => ?_) (fun c => ?_)
  · have c : (200 : Int32) < gI s 33 0 2 + nI (xf_C a b e f g 20) := c
    rw [hI.2, nI_add] at c
    have c := Int32.lt_iff_toInt_lt.mp c
    rw [nI_toInt (by omega), show (200 : Int32).toInt = 200 by decide] at c
    exact ⟨_, rfl, Or.inl ⟨by omega, rfl, hI⟩⟩
  · have c : ¬ (200 : Int32) < gI s 33 0 2 + nI (xf_C a b e f g 20) := c
    rw [hI.2, nI_add] at c
    have c : ¬ (200 : Int32).toInt < (nI (t.2 + xf_C a b e f g 20)).toInt := fun q => c (Int32.lt_iff_toInt_lt.mpr q)
    rw [nI_toInt (by omega), show (200 : Int32).toInt = 200 by decide] at c
    refine fe_l2 (t := t) (by omega) (fun s' l8 h9 => ?_) 20 0 s _ rfl hI
    rw [fdr_A] at h9
    refine qa_t1_W (cut := []) 10 ?_
    exact ⟨_, rfl, Or.inr ⟨by omega, h9.2.trans (congrArg nI (fdA_2 a b e f g t)), h9⟩⟩
end FE
/-- bytes that stand are not 0 -/
def fNZ (t : (Nat → Int32) × Nat) : Prop := ∀ j, j < t.2 → t.1 j ≠ 0
theorem fNZ_p {y : Int32} {t : (Nat → Int32) × Nat} (h : fNZ t) : fNZ (fdp y t) := by
  unfold fdp
  by_cases e : y = 0
  · rw [if_pos e]
    exact h
  · rw [if_neg e]
    intro j hj
    have hj : j < t.2 + 1 := hj
    show (if j = t.2 then y else t.1 j) ≠ 0
    by_cases e2 : j = t.2
    · rw [if_pos e2]
      exact e
    · rw [if_neg e2]
      exact h j (by omega)
theorem fNZ_A {a b e f g : Int32} {t : (Nat → Int32) × Nat} (h : fNZ t) : fNZ (fdA a b e f g t) := by
  rw [← fdr_A]
  have : ∀ i, fNZ (fdr a b e f g t i) := fun i => by
    induction i with
    | zero => exact h
    | succ i ih => exact fNZ_p ih
  exact this 20
/-! What fault and text do to what is kept. -/
/-- what is kept stays: of the class -/
def ctK (D R : Nat) (s m : LMem) : Prop := (∀ dd, dd < D → gI m 4 dd 1 = gI s 4 dd 1 ∧ ∀ i w, 20 * dd ≤ i → i < 20 * dd + 20 → gI m 6 i w = gI s 6 i w) ∧ (∀ r, r < R → gI m 13 r 1 = gI s 13 r 1 ∧ ∀ j, gI m 14 r j = gI s 14 r j)
/-- and of the reference -/
def cuK (D R : Nat) (s m : LMem) : Prop := (∀ dd, dd < D → gI m 44 0 dd = gI s 44 0 dd ∧ ∀ j, 100 * dd ≤ j → j < 100 * dd + 100 → gI m 45 0 j = gI s 45 0 j) ∧ (∀ r, r < R → gI m 46 0 r = gI s 46 0 r ∧ ∀ j, 30 * r ≤ j → j < 30 * r + 30 → gI m 47 0 j = gI s 47 0 j)
theorem ctK_rf {D R : Nat} {s : LMem} : ctK D R s s := ⟨fun _ _ => ⟨rfl, fun _ _ _ _ => rfl⟩, fun _ _ => ⟨rfl, fun _ => rfl⟩⟩
theorem cuK_rf {D R : Nat} {s : LMem} : cuK D R s s := ⟨fun _ _ => ⟨rfl, fun _ _ _ => rfl⟩, fun _ _ => ⟨rfl, fun _ _ _ => rfl⟩⟩
theorem irC_ct {b : Nat → Int32} {l sort : Nat} {s m : LMem} {v : Int32} (C : irC b l sort (gI s 15 0 sort).toNatClampNeg s m v) : ctK (gI s 15 0 0).toNatClampNeg (gI s 15 0 2).toNatClampNeg s m := ⟨fun dd h => C.1 dd (fun e => by subst e; omega), fun r h => C.2.1 r (fun e => by subst e; omega)⟩
theorem dfr_cu {dd D R : Nat} {s m : LMem} (F : dfr dd s m) (h : D ≤ dd) : cuK D R s m := ⟨fun d hd => ⟨F 44 d (by decide) (fun q => by omega) (fun q => absurd q.1 (by decide)), fun j g1 g2 => F 45 j (by decide) (fun q => absurd q.1 (by decide)) (fun q => by omega)⟩, fun r hr => ⟨F 46 r (by decide) (fun q => absurd q.1 (by decide)) (fun q => absurd q.1 (by decide)), fun j _ _ => F 47 j (by decide) (fun q => absurd q.1 (by decide)) (fun q => absurd q.1 (by decide))⟩⟩
theorem rfr_cu {r D R : Nat} {s m : LMem} (F : rfr r s m) (h : R ≤ r) : cuK D R s m := ⟨fun d hd => ⟨F 44 d (by decide) (fun q => absurd q.1 (by decide)) (fun q => absurd q.1 (by decide)), fun j _ _ => F 45 j (by decide) (fun q => absurd q.1 (by decide)) (fun q => absurd q.1 (by decide))⟩, fun r' hr => ⟨F 46 r' (by decide) (fun q => by omega) (fun q => absurd q.1 (by decide)), fun j g1 g2 => F 47 j (by decide) (fun q => absurd q.1 (by decide)) (fun q => by omega)⟩⟩
theorem fr_cu {W : List YW} {D R : Nat} {s m : LMem} (F : y_Fr W s m) (h : (W.all fun w => !(Nat.beq w.1 44) && (!(Nat.beq w.1 45) && (!(Nat.beq w.1 46) && !(Nat.beq w.1 47)))) = true) : cuK D R s m := by
  have a : ∀ k, (k = 44 ∨ k = 45 ∨ k = 46 ∨ k = 47) → (W.all fun w => !(Nat.beq w.1 k)) = true := fun k hk => List.all_eq_true.mpr fun w hw => by
    have g := List.all_eq_true.mp h w hw
    rcases hk with rfl | rfl | rfl | rfl
    · exact (qa_and g).1
    · exact (qa_and (qa_and g).2).1
    · exact (qa_and (qa_and (qa_and g).2).2).1
    · exact (qa_and (qa_and (qa_and g).2).2).2
  exact ⟨fun d _ => ⟨fr_K F 44 (a 44 (by omega)) 0 d, fun j _ _ => fr_K F 45 (a 45 (by omega)) 0 j⟩, fun r _ => ⟨fr_K F 46 (a 46 (by omega)) 0 r, fun j _ _ => fr_K F 47 (a 47 (by omega)) 0 j⟩⟩
section FK
variable {d l : Nat} {s : LMem}
theorem fc_110 (hJ : y_J x_X s) (hl : gI s 1 0 1 = nI l) (hl2 : l ≤ 200) (hB : tp_B (bC s) l) : qC false (d + 123) 145 [lR 0 (some 0), lI 0] s (fun _ m => ctK (gI s 15 0 0).toNatClampNeg (gI s 15 0 2).toNatClampNeg s m) := by
  refine qC_of rfl rfl ?_
  refine qa_t1_W (cut := []) 60 ?_
  refine h_isSort0 (Exists.intro _ (And.intro rfl ?_))
  refine And.intro (fun q => absurd q (by decide)) (fun _ => ?_)
  refine h_isRead0 hJ hl hl2 hB fun m v O => Exists.intro v (And.intro rfl ?_)
  have C := irC_ct O.2.2.2
  refine And.intro (fun c => ?_) (fun c => ?_)
  · refine qC_of rfl rfl ?_
    refine qa_t1_W (cut := []) 20 ?_
    exact Exists.intro _ (And.intro rfl C)
  · exact C
theorem fc_111 (hJ : y_J x_X s) (hl : gI s 1 0 1 = nI l) (hl2 : l ≤ 200) (hB : tp_B (bC s) l) : qC false (d + 123) 145 [lR 0 (some 0), lI 1] s (fun _ m => ctK (gI s 15 0 0).toNatClampNeg (gI s 15 0 2).toNatClampNeg s m) := by
  refine qC_of rfl rfl ?_
  refine qa_t1_W (cut := []) 60 ?_
  refine h_isSort1 (Exists.intro _ (And.intro rfl ?_))
  refine And.intro (fun q => absurd q (by decide)) (fun _ => ?_)
  refine h_isRead1 hJ hl hl2 hB fun m v O => Exists.intro v (And.intro rfl ?_)
  have C := irC_ct O.2.2.2
  refine And.intro (fun c => ?_) (fun c => ?_)
  · refine qC_of rfl rfl ?_
    refine qa_t1_W (cut := []) 20 ?_
    exact Exists.intro _ (And.intro rfl C)
  · exact C
theorem fc_112 (hJ : y_J x_X s) (hl : gI s 1 0 1 = nI l) (hl2 : l ≤ 200) (hB : tp_B (bC s) l) : qC false (d + 123) 145 [lR 0 (some 0), lI 2] s (fun _ m => ctK (gI s 15 0 0).toNatClampNeg (gI s 15 0 2).toNatClampNeg s m) := by
  refine qC_of rfl rfl ?_
  refine qa_t1_W (cut := []) 60 ?_
  refine h_isSort2 (Exists.intro _ (And.intro rfl ?_))
  refine And.intro (fun q => absurd q (by decide)) (fun _ => ?_)
  refine h_isRead2 hJ hl hl2 hB fun m v O => Exists.intro v (And.intro rfl ?_)
  have C := irC_ct O.2.2.2
  refine And.intro (fun c => ?_) (fun c => ?_)
  · refine qC_of rfl rfl ?_
    refine qa_t1_W (cut := []) 20 ?_
    exact Exists.intro _ (And.intro rfl C)
  · exact C
theorem fc_11 {p : Int32} (hJ : y_J x_X s) (hl : gI s 1 0 1 = nI l) (hl2 : l ≤ 200) (hB : tp_B (bC s) l) : qC false (d + 123) 145 [lR 0 (some 0), lI p] s (fun _ m => ctK (gI s 15 0 0).toNatClampNeg (gI s 15 0 2).toNatClampNeg s m) := by
  by_cases e0 : p = 0
  · subst e0
    exact fc_110 hJ hl hl2 hB
  by_cases e1 : p = 1
  · subst e1
    exact fc_111 hJ hl hl2 hB
  by_cases e2 : p = 2
  · subst e2
    exact fc_112 hJ hl hl2 hB
  refine qC_of rfl rfl ?_
  refine qa_t1_W (cut := []) 60 ?_
  refine h_isSortN e0 e1 e2 (Exists.intro _ (And.intro rfl ?_))
  refine And.intro (fun _ => ?_) (fun q => absurd rfl q)
  exact ctK_rf
theorem fc_12 {p : Int32} {D R : Nat} (hJ : y_J x_X s) (hl : gI s 33 0 2 = nI l) (hl2 : l ≤ 200) (hD : D ≤ 4) (hR : R ≤ 4) : qC false (d + 123) 235 [lR 33 (some 0), lI p] s (fun _ m => cuK D R s m) := by
  by_cases e0 : p = 0
  · subst e0
    refine qC_of rfl rfl ?_
    refine qa_t1_W (cut := []) 40 ?_
    refine And.intro (fun _ => ?_) (fun q => absurd rfl q)
    refine qC_mono (h_readDitchU (d := d + 117) (dd := 4) (by decide) hl hl2) fun r m q => ?_
    obtain ⟨v, e, O⟩ := q
    exact Exists.intro v (And.intro e (dfr_cu O.2 hD))
  by_cases e1 : p = 1
  · subst e1
    have h13 := (hJ.1 33 0 13 (13, 13, 0, 6) (by decide) (by decide) (by decide)).2
    refine qC_of rfl rfl ?_
    refine qa_t1_W (cut := []) 40 ?_
    refine And.intro (fun q => absurd q (by decide)) (fun _ => ?_)
    refine And.intro (fun _ => ?_) (fun q => absurd rfl q)
    refine h_readLaw (d := d + 81) (n := 6) (by decide) h13 hJ (fun m v J F _ => ?_)
    exact Exists.intro v (And.intro rfl (fr_cu F (by decide)))
  by_cases e2 : p = 2
  · subst e2
    refine qC_of rfl rfl ?_
    refine qa_t1_W (cut := []) 40 ?_
    refine And.intro (fun q => absurd q (by decide)) (fun _ => ?_)
    refine And.intro (fun q => absurd q (by decide)) (fun _ => ?_)
    refine And.intro (fun _ => ?_) (fun q => absurd rfl q)
    refine qC_mono (h_readRainU (d := d + 118) (r := 4) (by decide) hl hl2) fun r m q => ?_
    obtain ⟨v, e, O⟩ := q
    exact Exists.intro v (And.intro e (rfr_cu O.2 hR))
  exact h_fault_no (d := d + 122) e0 e1 e2 cuK_rf
end FK
/-! What text puts where. -/
def tcV (b : Nat → Int32) (l sort D : Nat) (m : LMem) : Prop := (sort = 0 → gI m 4 D 1 = nI (dtN b l 20 (sk b l 0)) ∧ ∀ r w, r < dtN b l 20 (sk b l 0) → w < 5 → gI m 6 (20 * D + r) w = dV b l r w) ∧ (sort = 2 → gI m 13 D 1 = nI (rnN b l 30 (sk b l 0)) ∧ ∀ j, j < rnN b l 30 (sk b l 0) → gI m 14 D j = nvF b l 2 (rnP b l j) 0)
def tuV (b : Nat → Int32) (l sort D : Nat) (m : LMem) : Prop := (sort = 0 → gI m 44 0 D = nI (dtN b l 20 (sk b l 0)) ∧ ∀ r w, r < dtN b l 20 (sk b l 0) → w < 5 → gI m 45 0 (100 * D + 5 * r + w) = dV b l r w) ∧ (sort = 2 → gI m 46 0 D = nI (rnN b l 30 (sk b l 0)) ∧ ∀ j, j < rnN b l 30 (sk b l 0) → gI m 47 0 (30 * D + j) = nvF b l 2 (rnP b l j) 0)
section TC
variable {d l : Nat} {s : LMem}
theorem ctK_w {D R k i j : Nat} {x : Int32} {s m : LMem} (h : ctK D R s m) (hk : k = 1 ∨ k = 15) : ctK D R s (sI m k i j x) := by
  have g : ∀ k' i' j', k' ≠ 1 → k' ≠ 15 → gI (sI m k i j x) k' i' j' = gI m k' i' j' := fun k' i' j' g1 g2 => by rw [gI_sI, if_neg (fun q => by omega)]
  exact ⟨fun dd hd => ⟨by rw [g 4 dd 1 (by decide) (by decide)]; exact (h.1 dd hd).1, fun i' w g1 g2 => by rw [g 6 i' w (by decide) (by decide)]; exact (h.1 dd hd).2 i' w g1 g2⟩, fun r hr => ⟨by rw [g 13 r 1 (by decide) (by decide)]; exact (h.2 r hr).1, fun j' => by rw [g 14 r j' (by decide) (by decide)]; exact (h.2 r hr).2 j'⟩⟩
theorem tcV_w {b : Nat → Int32} {sort D k i j : Nat} {x : Int32} {m : LMem} (h : tcV b l sort D m) (hk : k = 1 ∨ k = 15) : tcV b l sort D (sI m k i j x) := by
  have g : ∀ k' i' j', k' ≠ 1 → k' ≠ 15 → gI (sI m k i j x) k' i' j' = gI m k' i' j' := fun k' i' j' g1 g2 => by rw [gI_sI, if_neg (fun q => by omega)]
  exact ⟨fun e => ⟨by rw [g 4 D 1 (by decide) (by decide)]; exact (h.1 e).1, fun r w g1 g2 => by rw [g 6 _ w (by decide) (by decide)]; exact (h.1 e).2 r w g1 g2⟩, fun e => ⟨by rw [g 13 D 1 (by decide) (by decide)]; exact (h.2 e).1, fun j' g1 => by rw [g 14 D j' (by decide) (by decide)]; exact (h.2 e).2 j' g1⟩⟩
theorem cuK_w {D R j : Nat} {x : Int32} {s m : LMem} (h : cuK D R s m) : cuK D R s (sI m 33 0 j x) := by
  have g : ∀ k' j', k' ≠ 33 → gI (sI m 33 0 j x) k' 0 j' = gI m k' 0 j' := fun k' j' g1 => by rw [gI_sI, if_neg (fun q => g1 q.1)]
  exact ⟨fun dd hd => ⟨by rw [g 44 dd (by decide)]; exact (h.1 dd hd).1, fun i' g1 g2 => by rw [g 45 i' (by decide)]; exact (h.1 dd hd).2 i' g1 g2⟩, fun r hr => ⟨by rw [g 46 r (by decide)]; exact (h.2 r hr).1, fun j' g1 g2 => by rw [g 47 j' (by decide)]; exact (h.2 r hr).2 j' g1 g2⟩⟩
theorem tuV_w {b : Nat → Int32} {sort D j : Nat} {x : Int32} {m : LMem} (h : tuV b l sort D m) : tuV b l sort D (sI m 33 0 j x) := by
  have g : ∀ k' j', k' ≠ 33 → gI (sI m 33 0 j x) k' 0 j' = gI m k' 0 j' := fun k' j' g1 => by rw [gI_sI, if_neg (fun q => g1 q.1)]
  exact ⟨fun e => ⟨by rw [g 44 D (by decide)]; exact (h.1 e).1, fun r w g1 g2 => by rw [g 45 _ (by decide)]; exact (h.1 e).2 r w g1 g2⟩, fun e => ⟨by rw [g 46 D (by decide)]; exact (h.2 e).1, fun j' g1 => by rw [g 47 _ (by decide)]; exact (h.2 e).2 j' g1⟩⟩
theorem tc_110 (hJ : y_J x_X s) (hl : gI s 1 0 1 = nI l) (hl2 : l ≤ 200) (hB : tp_B (bC s) l) : qC false (d + 123) 146 [lR 0 (some 0), lI 0] s (fun r m => ctK (gI s 15 0 0).toNatClampNeg (gI s 15 0 2).toNatClampNeg s m ∧ (r ≠ some (lI (-1)) → tcV (bC s) l 0 (gI s 15 0 0).toNatClampNeg m)) := by
  have v3 : qa_vin 0 3 := vin_of (x := 0) (n := 3) (by decide) (by decide) (by decide)
  refine qC_of rfl rfl ?_
  refine qa_t1_W (cut := [32]) 60 ?_
  refine h_isSort0 (Exists.intro _ (And.intro rfl ?_))
  refine And.intro (fun q => absurd q (by decide)) (fun _ => ?_)
  refine And.intro v3 (And.intro v3 ?_)
  refine And.intro (fun c => ?_) (fun c => ?_)
  · refine h_isRead0 hJ hl hl2 hB fun m v O => Exists.intro v (And.intro rfl ?_)
    have C := irC_ct O.2.2.2
    refine And.intro (fun cv => ?_) (fun cv => ?_)
    · exact And.intro C (fun q => absurd rfl q)
    · have cv : ¬ v = 0 := cv
      have cv : v = 1 := (ir_b O).resolve_left cv
      have V : tcV (bC s) l 0 (gI s 15 0 0).toNatClampNeg m := O.2.2.2.2.2 cv
      have fin : ∀ x y, ctK (gI s 15 0 0).toNatClampNeg (gI s 15 0 2).toNatClampNeg s (sI (sI m 1 0 1 x) 15 0 0 y) ∧ (some (lI (gI (sI (sI m 1 0 1 x) 15 0 0 y) 15 0 0 - 1)) ≠ some (lI (-1)) → tcV (bC s) l 0 (gI s 15 0 0).toNatClampNeg (sI (sI m 1 0 1 x) 15 0 0 y)) := fun x y => ⟨ctK_w (ctK_w C (Or.inl rfl)) (Or.inr rfl), fun _ => tcV_w (tcV_w V (Or.inl rfl)) (Or.inr rfl)⟩
      refine qa_t1_W (cut := []) 60 ?_
      refine h_cut0 O.2.1 (Exists.intro _ (And.intro rfl ?_))
      exact And.intro v3 (And.intro v3 (And.intro v3 (fin _ _)))
  · exact And.intro ctK_rf (fun q => absurd rfl q)
theorem tc_111 (hJ : y_J x_X s) (hl : gI s 1 0 1 = nI l) (hl2 : l ≤ 200) (hB : tp_B (bC s) l) : qC false (d + 123) 146 [lR 0 (some 0), lI 1] s (fun r m => ctK (gI s 15 0 0).toNatClampNeg (gI s 15 0 2).toNatClampNeg s m ∧ (r ≠ some (lI (-1)) → tcV (bC s) l 1 (gI s 15 0 1).toNatClampNeg m)) := by
  have v3 : qa_vin 1 3 := vin_of (x := 1) (n := 3) (by decide) (by decide) (by decide)
  refine qC_of rfl rfl ?_
  refine qa_t1_W (cut := [32]) 60 ?_
  refine h_isSort1 (Exists.intro _ (And.intro rfl ?_))
  refine And.intro (fun q => absurd q (by decide)) (fun _ => ?_)
  refine And.intro v3 (And.intro v3 ?_)
  refine And.intro (fun c => ?_) (fun c => ?_)
  · refine h_isRead1 hJ hl hl2 hB fun m v O => Exists.intro v (And.intro rfl ?_)
    have C := irC_ct O.2.2.2
    refine And.intro (fun cv => ?_) (fun cv => ?_)
    · exact And.intro C (fun q => absurd rfl q)
    · have cv : ¬ v = 0 := cv
      have cv : v = 1 := (ir_b O).resolve_left cv
      have V : tcV (bC s) l 1 (gI s 15 0 1).toNatClampNeg m := O.2.2.2.2.2 cv
      have fin : ∀ x y, ctK (gI s 15 0 0).toNatClampNeg (gI s 15 0 2).toNatClampNeg s (sI (sI m 1 0 1 x) 15 0 1 y) ∧ (some (lI (gI (sI (sI m 1 0 1 x) 15 0 1 y) 15 0 1 - 1)) ≠ some (lI (-1)) → tcV (bC s) l 1 (gI s 15 0 1).toNatClampNeg (sI (sI m 1 0 1 x) 15 0 1 y)) := fun x y => ⟨ctK_w (ctK_w C (Or.inl rfl)) (Or.inr rfl), fun _ => tcV_w (tcV_w V (Or.inl rfl)) (Or.inr rfl)⟩
      refine qa_t1_W (cut := []) 60 ?_
      refine h_cut0 O.2.1 (Exists.intro _ (And.intro rfl ?_))
      exact And.intro v3 (And.intro v3 (And.intro v3 (fin _ _)))
  · exact And.intro ctK_rf (fun q => absurd rfl q)
theorem tc_112 (hJ : y_J x_X s) (hl : gI s 1 0 1 = nI l) (hl2 : l ≤ 200) (hB : tp_B (bC s) l) : qC false (d + 123) 146 [lR 0 (some 0), lI 2] s (fun r m => ctK (gI s 15 0 0).toNatClampNeg (gI s 15 0 2).toNatClampNeg s m ∧ (r ≠ some (lI (-1)) → tcV (bC s) l 2 (gI s 15 0 2).toNatClampNeg m)) := by
  have v3 : qa_vin 2 3 := vin_of (x := 2) (n := 3) (by decide) (by decide) (by decide)
  refine qC_of rfl rfl ?_
  refine qa_t1_W (cut := [32]) 60 ?_
  refine h_isSort2 (Exists.intro _ (And.intro rfl ?_))
  refine And.intro (fun q => absurd q (by decide)) (fun _ => ?_)
  refine And.intro v3 (And.intro v3 ?_)
  refine And.intro (fun c => ?_) (fun c => ?_)
  · refine h_isRead2 hJ hl hl2 hB fun m v O => Exists.intro v (And.intro rfl ?_)
    have C := irC_ct O.2.2.2
    refine And.intro (fun cv => ?_) (fun cv => ?_)
    · exact And.intro C (fun q => absurd rfl q)
    · have cv : ¬ v = 0 := cv
      have cv : v = 1 := (ir_b O).resolve_left cv
      have V : tcV (bC s) l 2 (gI s 15 0 2).toNatClampNeg m := O.2.2.2.2.2 cv
      have fin : ∀ x y, ctK (gI s 15 0 0).toNatClampNeg (gI s 15 0 2).toNatClampNeg s (sI (sI m 1 0 1 x) 15 0 2 y) ∧ (some (lI (gI (sI (sI m 1 0 1 x) 15 0 2 y) 15 0 2 - 1)) ≠ some (lI (-1)) → tcV (bC s) l 2 (gI s 15 0 2).toNatClampNeg (sI (sI m 1 0 1 x) 15 0 2 y)) := fun x y => ⟨ctK_w (ctK_w C (Or.inl rfl)) (Or.inr rfl), fun _ => tcV_w (tcV_w V (Or.inl rfl)) (Or.inr rfl)⟩
      refine qa_t1_W (cut := []) 60 ?_
      refine h_cut0 O.2.1 (Exists.intro _ (And.intro rfl ?_))
      exact And.intro v3 (And.intro v3 (And.intro v3 (fin _ _)))
  · exact And.intro ctK_rf (fun q => absurd rfl q)
theorem tc_120 (hJ : y_J x_X s) (hl : gI s 33 0 2 = nI l) (hl2 : l ≤ 200) : qC false (d + 123) 236 [lR 33 (some 0), lI 0] s (fun r m => cuK (gI s 33 0 21).toNatClampNeg (gI s 33 0 22).toNatClampNeg s m ∧ (r ≠ some (lI (-1)) → tuV (bS s) l 0 (gI s 33 0 21).toNatClampNeg m)) := by
  obtain ⟨D, hD2, hD⟩ := y_nIof2 (N := 4) (x := gI s 33 0 21) (hJ.1 33 0 21 (21, 21, 0, 4) (by decide) (by decide) (by decide)).1 (hJ.1 33 0 21 (21, 21, 0, 4) (by decide) (by decide) (by decide)).2
  have eD : (gI s 33 0 21).toNatClampNeg = D := by rw [hD, nI_clamp (by omega)]
  have outW : ∀ m, cuK (gI s 33 0 21).toNatClampNeg (gI s 33 0 22).toNatClampNeg s m → qW false (d + 122) 236 0 0 46 [some (lR 33 (some 0)), some (lI 0)] [] m (fun r m => cuK (gI s 33 0 21).toNatClampNeg (gI s 33 0 22).toNatClampNeg s m ∧ (r ≠ some (lI (-1)) → tuV (bS s) l 0 (gI s 33 0 21).toNatClampNeg m)) := fun m h => by
    refine qa_t1_W (cut := []) 80 ?_
    refine And.intro (fun q => absurd q (by decide)) (fun _ => ?_)
    refine And.intro (fun q => absurd q (by decide)) (fun _ => ?_)
    exact And.intro h (fun q => absurd rfl q)
  refine qC_of rfl rfl ?_
  refine qa_t1_W (cut := [46]) 80 ?_
  refine And.intro (fun _ => ?_) (fun q => absurd rfl q)
  refine And.intro (fun c => ?_) (fun c => outW s cuK_rf)
  have c : gI s 33 0 21 < 4 := c
  have c := Int32.lt_iff_toInt_lt.mp c
  have c : (gI s 33 0 21).toInt < 4 := c
  rw [hD, nI_toInt (by omega)] at c
  have g : qC false (d + 122) 233 [lR 33 (some 0), lI (gI s 33 0 21)] s (fun r m => ∃ v, r = some (lI v) ∧ cuK (gI s 33 0 21).toNatClampNeg (gI s 33 0 22).toNatClampNeg s m ∧ (v = -1 → tuV (bS s) l 0 (gI s 33 0 21).toNatClampNeg m)) := by
    rw [hD]
    refine qC_mono (h_readDitchU (d := d + 117) (dd := D) (by omega) hl hl2) (fun r m q => ?_)
    obtain ⟨v, e, O, F⟩ := q
    refine ⟨v, e, dfr_cu F (by rw [nI_clamp (by omega)]; exact Nat.le_refl _), fun ev => ?_⟩
    rcases O with ⟨_, _, a1, a2⟩ | ⟨w, hw, ew, _⟩
    · rw [nI_clamp (by omega)]
      exact ⟨fun _ => ⟨a1, a2⟩, fun q => absurd q (by decide)⟩
    · exact absurd (ew.symm.trans ev) (nI_ne1 (by omega))
  refine qC_mono g fun r m q => ?_
  obtain ⟨v, e, C, V⟩ := q
  refine Exists.intro v (And.intro e ?_)
  refine And.intro (fun ev => ?_) (fun ev => outW m C)
  have V := V ev
  have fin : ∀ x y, cuK (gI s 33 0 21).toNatClampNeg (gI s 33 0 22).toNatClampNeg s (sI (sI m 33 0 2 x) 33 0 21 y) ∧ (some (lI (gI (sI (sI m 33 0 2 x) 33 0 21 y) 33 0 21 - 1)) ≠ some (lI (-1)) → tuV (bS s) l 0 (gI s 33 0 21).toNatClampNeg (sI (sI m 33 0 2 x) 33 0 21 y)) := fun x y => ⟨cuK_w (cuK_w C), fun _ => tuV_w (tuV_w V)⟩
  exact fin _ _
theorem tc_121 (hJ : y_J x_X s) (hl : gI s 33 0 2 = nI l) (hl2 : l ≤ 200) : qC false (d + 123) 236 [lR 33 (some 0), lI 1] s (fun r m => cuK (gI s 33 0 21).toNatClampNeg (gI s 33 0 22).toNatClampNeg s m ∧ (r ≠ some (lI (-1)) → tuV (bS s) l 1 (gI s 33 0 13).toNatClampNeg m)) := by
  obtain ⟨D, hD2, hD⟩ := y_nIof2 (N := 6) (x := gI s 33 0 13) (hJ.1 33 0 13 (13, 13, 0, 6) (by decide) (by decide) (by decide)).1 (hJ.1 33 0 13 (13, 13, 0, 6) (by decide) (by decide) (by decide)).2
  have eD : (gI s 33 0 13).toNatClampNeg = D := by rw [hD, nI_clamp (by omega)]
  have outW : ∀ m, cuK (gI s 33 0 21).toNatClampNeg (gI s 33 0 22).toNatClampNeg s m → qW false (d + 122) 236 0 0 94 [some (lR 33 (some 0)), some (lI 1)] [] m (fun r m => cuK (gI s 33 0 21).toNatClampNeg (gI s 33 0 22).toNatClampNeg s m ∧ (r ≠ some (lI (-1)) → tuV (bS s) l 1 (gI s 33 0 13).toNatClampNeg m)) := fun m h => by
    refine qa_t1_W (cut := []) 80 ?_
    refine And.intro (fun q => absurd q (by decide)) (fun _ => ?_)
    exact And.intro h (fun q => absurd rfl q)
  refine qC_of rfl rfl ?_
  refine qa_t1_W (cut := [94]) 80 ?_
  refine And.intro (fun q => absurd q (by decide)) (fun _ => ?_)
  refine And.intro (fun _ => ?_) (fun q => absurd rfl q)
  refine And.intro (fun c => ?_) (fun c => outW s cuK_rf)
  have c : gI s 33 0 13 < 6 := c
  have c := Int32.lt_iff_toInt_lt.mp c
  have c : (gI s 33 0 13).toInt < 6 := c
  rw [hD, nI_toInt (by omega)] at c
  have g : qC false (d + 122) 225 [lR 33 (some 0), lI (gI s 33 0 13)] s (fun r m => ∃ v, r = some (lI v) ∧ cuK (gI s 33 0 21).toNatClampNeg (gI s 33 0 22).toNatClampNeg s m ∧ (v = -1 → tuV (bS s) l 1 (gI s 33 0 13).toNatClampNeg m)) := by
    rw [hD]
    refine h_readLaw (d := d + 81) (n := D) (by omega) (by unfold xI; rw [hD, nI_toInt (by omega)]; omega) hJ (fun m v J F _ => ?_)
    exact ⟨v, rfl, fr_cu F (by decide), fun ev => ⟨fun q => absurd q (by decide), fun q => absurd q (by decide)⟩⟩
  refine qC_mono g fun r m q => ?_
  obtain ⟨v, e, C, V⟩ := q
  refine Exists.intro v (And.intro e ?_)
  refine And.intro (fun ev => ?_) (fun ev => outW m C)
  have V := V ev
  have fin : ∀ x y, cuK (gI s 33 0 21).toNatClampNeg (gI s 33 0 22).toNatClampNeg s (sI (sI m 33 0 2 x) 33 0 13 y) ∧ (some (lI (gI (sI (sI m 33 0 2 x) 33 0 13 y) 33 0 13 - 1)) ≠ some (lI (-1)) → tuV (bS s) l 1 (gI s 33 0 13).toNatClampNeg (sI (sI m 33 0 2 x) 33 0 13 y)) := fun x y => ⟨cuK_w (cuK_w C), fun _ => tuV_w (tuV_w V)⟩
  exact fin _ _
theorem tc_122 (hJ : y_J x_X s) (hl : gI s 33 0 2 = nI l) (hl2 : l ≤ 200) : qC false (d + 123) 236 [lR 33 (some 0), lI 2] s (fun r m => cuK (gI s 33 0 21).toNatClampNeg (gI s 33 0 22).toNatClampNeg s m ∧ (r ≠ some (lI (-1)) → tuV (bS s) l 2 (gI s 33 0 22).toNatClampNeg m)) := by
  obtain ⟨D, hD2, hD⟩ := y_nIof2 (N := 4) (x := gI s 33 0 22) (hJ.1 33 0 22 (22, 22, 0, 4) (by decide) (by decide) (by decide)).1 (hJ.1 33 0 22 (22, 22, 0, 4) (by decide) (by decide) (by decide)).2
  have eD : (gI s 33 0 22).toNatClampNeg = D := by rw [hD, nI_clamp (by omega)]
  have outW : ∀ m, cuK (gI s 33 0 21).toNatClampNeg (gI s 33 0 22).toNatClampNeg s m → qW false (d + 122) 236 0 0 141 [some (lR 33 (some 0)), some (lI 2)] [] m (fun r m => cuK (gI s 33 0 21).toNatClampNeg (gI s 33 0 22).toNatClampNeg s m ∧ (r ≠ some (lI (-1)) → tuV (bS s) l 2 (gI s 33 0 22).toNatClampNeg m)) := fun m h => by
    refine qa_t1_W (cut := []) 80 ?_
    exact And.intro h (fun q => absurd rfl q)
  refine qC_of rfl rfl ?_
  refine qa_t1_W (cut := [141]) 80 ?_
  refine And.intro (fun q => absurd q (by decide)) (fun _ => ?_)
  refine And.intro (fun q => absurd q (by decide)) (fun _ => ?_)
  refine And.intro (fun _ => ?_) (fun q => absurd rfl q)
  refine And.intro (fun c => ?_) (fun c => outW s cuK_rf)
  have c : gI s 33 0 22 < 4 := c
  have c := Int32.lt_iff_toInt_lt.mp c
  have c : (gI s 33 0 22).toInt < 4 := c
  rw [hD, nI_toInt (by omega)] at c
  have g : qC false (d + 122) 234 [lR 33 (some 0), lI (gI s 33 0 22)] s (fun r m => ∃ v, r = some (lI v) ∧ cuK (gI s 33 0 21).toNatClampNeg (gI s 33 0 22).toNatClampNeg s m ∧ (v = -1 → tuV (bS s) l 2 (gI s 33 0 22).toNatClampNeg m)) := by
    rw [hD]
    refine qC_mono (h_readRainU (d := d + 118) (r := D) (by omega) hl hl2) (fun r m q => ?_)
    obtain ⟨v, e, O, F⟩ := q
    refine ⟨v, e, rfr_cu F (by rw [nI_clamp (by omega)]; exact Nat.le_refl _), fun ev => ?_⟩
    rcases O with ⟨_, _, a1, a2⟩ | ⟨w, hw, ew, _⟩
    · rw [nI_clamp (by omega)]
      exact ⟨fun q => absurd q (by decide), fun _ => ⟨a1, a2⟩⟩
    · exact absurd (ew.symm.trans ev) (nI_ne1 (by omega))
  refine qC_mono g fun r m q => ?_
  obtain ⟨v, e, C, V⟩ := q
  refine Exists.intro v (And.intro e ?_)
  refine And.intro (fun ev => ?_) (fun ev => outW m C)
  have V := V ev
  have fin : ∀ x y, cuK (gI s 33 0 21).toNatClampNeg (gI s 33 0 22).toNatClampNeg s (sI (sI m 33 0 2 x) 33 0 22 y) ∧ (some (lI (gI (sI (sI m 33 0 2 x) 33 0 22 y) 33 0 22 - 1)) ≠ some (lI (-1)) → tuV (bS s) l 2 (gI s 33 0 22).toNatClampNeg (sI (sI m 33 0 2 x) 33 0 22 y)) := fun x y => ⟨cuK_w (cuK_w C), fun _ => tuV_w (tuV_w V)⟩
  exact fin _ _
end TC
/-! What a ditch tells is never negative. -/
def vP (V : Nat → Int32) : Prop := ∀ w, w < 5 → 0 ≤ (V w).toInt
theorem numR_lo {b : Nat → Int32} {l p q : Nat} {lo hi : Int32} (h : numR b l lo hi p = (true, q)) : lo.toInt ≤ (nvF b l 2 p 0).toInt := by
  unfold numR at h
  by_cases c1 : dgB (tc b l p) = true
  · rw [if_pos c1] at h
    by_cases c2 : dgB (tc b l (p + dr b l 2 p)) = true
    · rw [if_pos c2] at h
      cases h
    · rw [if_neg c2] at h
      by_cases c3 : lo.toInt ≤ (nvF b l 2 p 0).toInt ∧ (nvF b l 2 p 0).toInt ≤ hi.toInt
      · exact c3.1
      · rw [if_neg c3] at h
        cases h
  · rw [if_neg c1] at h
    cases h
theorem loW_0 (w : Nat) : 0 ≤ (loW w).toInt := by
  unfold loW
  by_cases e : w = 2
  · rw [if_pos e]; decide
  · rw [if_neg e]; decide
theorem usV_P {so : Nat} (h : so < 3) : vP (usV so) := fun w hw => by
  unfold usV
  have c : w = 0 ∨ w = 1 ∨ w = 2 ∨ w = 3 ∨ w = 4 := by omega
  rcases c with rfl | rfl | rfl | rfl | rfl
  · rw [if_pos rfl, nI_toInt (by omega)]
    omega
  · show (0 : Int) ≤ (50 : Int32).toInt
    decide
  · show (0 : Int) ≤ (4 : Int32).toInt
    decide
  · show (0 : Int) ≤ (0 : Int32).toInt
    decide
  · show (0 : Int) ≤ (80 : Int32).toInt
    decide
theorem itS_P {b : Nat → Int32} {l : Nat} : ∀ f h p V, vP V → vP (itS b l f h p V).2 := by
  intro f
  induction f with
  | zero => intro h p V hV; exact hV
  | succ f ih =>
    intro h p V hV
    by_cases e : itN (tc b l p) = 0
    · rw [its_0 e]
      exact hV
    · cases e2 : Nat.testBit h (itN (tc b l p)) with
      | true =>
        rw [its_h e e2]
        exact hV
      | false =>
        rcases e3 : numR b l (loW (itN (tc b l p))) (hiW (itN (tc b l p))) (sk b l (p + 1)) with ⟨ok, q⟩
        cases ok with
        | true =>
          rw [its_t e e2 e3]
          refine ih _ _ _ (fun w hw => ?_)
          unfold upV
          by_cases c : w = itN (tc b l p)
          · rw [if_pos c]
            have h1 := numR_lo e3
            have h2 := loW_0 (itN (tc b l p))
            omega
          · rw [if_neg c]
            exact hV w hw
        | false =>
          rw [its_f e e2 e3]
          exact hV
theorem rcS_P {b : Nat → Int32} {l p : Nat} : vP (rcS b l p).2 := by
  unfold rcS
  by_cases e : soN (tc b l p) = 3
  · rw [if_pos e]
    intro w hw
    show (0 : Int) ≤ (0 : Int32).toInt
    decide
  · rw [if_neg e]
    have : soN (tc b l p) ≤ 3 := by
      unfold soN
      by_cases e1 : tc b l p = 99
      · rw [if_pos e1]; decide
      rw [if_neg e1]
      by_cases e2 : tc b l p = 115
      · rw [if_pos e2]; decide
      rw [if_neg e2]
      by_cases e3 : tc b l p = 116
      · rw [if_pos e3]; decide
      rw [if_neg e3]
      decide
    exact itS_P _ _ _ _ (usV_P (by omega))
