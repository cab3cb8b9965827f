/-! Tape.next, Tape.number. -/
def nx_S (s : LMem) (p : Nat) (m : LMem) : Prop := (∀ k i j, ¬ (k = 1 ∧ i = 0 ∧ j = 2) → gI m k i j = gI s k i j) ∧ gI m 1 0 2 = nI p ∧ (∀ k i j, gL m k i j = gL s k i j) ∧ ∀ k i j, gR m k i j = gR s k i j
theorem nx_Ss {s m : LMem} {p q : Nat} (h : nx_S s p m) : nx_S s q (sI m 1 0 2 (nI q)) := by
  refine ⟨fun k i j hn => ?_, ?_, h.2.2.1, h.2.2.2⟩
  · rw [gI_sI, if_neg hn]
    exact h.1 k i j hn
  · rw [gI_sI, if_pos ⟨rfl, rfl, rfl⟩]
theorem nx_tr {s m m' : LMem} {p q : Nat} (h : nx_S s p m) (h2 : nx_S m q m') : nx_S s q m' := ⟨fun k i j hn => (h2.1 k i j hn).trans (h.1 k i j hn), h2.2.1, fun k i j => (h2.2.2.1 k i j).trans (h.2.2.1 k i j), fun k i j => (h2.2.2.2 k i j).trans (h.2.2.2 k i j)⟩
theorem nx_J {s m : LMem} {p : Nat} (hJ : y_J x_X s) (h : nx_S s p m) (hp : p ≤ 200) : y_J x_X m := by
  refine ⟨fun k i j r hr g1 g2 => ?_, ?_, x_X_cl s m (fun k i j hq => h.1 k i j (fun q => ?_)) hJ.2.2⟩
  · by_cases e : k = 1 ∧ i = 0 ∧ j = 2
    · obtain ⟨rfl, rfl, rfl⟩ := e
      rw [h.2.1, nI_toInt (by omega)]
      have hr : r ∈ [((1 : Int), (1 : Int), (0 : Int), (200 : Int)), (2, 2, 0, 200)] := hr
      rcases List.mem_cons.mp hr with rfl | hr
      · have g2 : (2 : Int) ≤ 1 := g2
        omega
      · have hr := List.mem_singleton.mp hr
        subst hr
        show (0 : Int) ≤ (p : Int) ∧ (p : Int) ≤ 200
        omega
    · rw [h.1 k i j e]
      exact hJ.1 k i j r hr g1 g2
  · obtain ⟨r1, r2, r3, r4⟩ := hJ.2.1
    exact ⟨fun i q hq => r1 i q (by rw [← h.2.2.2]; exact hq), fun i q hq => r2 i q (by rw [← h.2.2.2]; exact hq), fun i q hq => r3 i q (by rw [← h.2.2.2]; exact hq), fun i q hq => r4 i q (by rw [← h.2.2.2]; exact hq)⟩
  · obtain ⟨rfl, _, _⟩ := q
    obtain ⟨r, hr, _⟩ := hq
    rw [show y_P 1 = [] from rfl] at hr
    cases hr
section NX
variable {d bc bs l : Nat} {s : LMem} {Q : LPost}
theorem nx_t (hl : gI s 1 0 1 = nI l) (hl2 : l ≤ 200) {p : Nat} {m : LMem} (hm : nx_S s p m) (hp : p ≤ 200) (h1 : p < l → Q (some (lI (gI s 2 0 p))) m) (h2 : ¬ p < l → Q (some (lI 0)) m) : qW false d 114 bc bs 50 [some (lR 1 (some 0))] [] m Q := by
  have ep : gI m 1 0 2 = nI p := hm.2.1
  have el : gI m 1 0 1 = nI l := by rw [hm.1 1 0 1 (fun q => absurd q.2.2 (by decide)), hl]
  by_cases e : p < l
  · have c1 : gI m 1 0 2 < gI m 1 0 1 := by rw [ep, el]; exact nI_lt e (by omega)
    have c2 : gI m 1 0 2 < 200 := by rw [ep]; exact nI_lt (b := 200) (by omega) (by decide)
    have hv : qa_vin (gI m 1 0 2) 200 := by rw [ep]; exact nI_in (by omega) (by decide)
    have h3 : Q (some (lI (gI m 2 0 (gI m 1 0 2).toNatClampNeg))) m := by
      rw [ep, nI_clamp (by omega), hm.1 2 0 p (fun q => absurd q.1 (by decide))]
      exact h1 e
    refine qa_t1_W (cut := []) 30 ?_
    refine And.intro (fun _ => ?_) (fun q => absurd c1 q)
    refine And.intro (fun _ => ?_) (fun q => absurd c2 q)
    exact And.intro hv h3
  · have c1 : ¬ gI m 1 0 2 < gI m 1 0 1 := by rw [ep, el]; exact nI_nlt (by omega) (by omega)
    refine qa_t1_W (cut := []) 30 ?_
    exact And.intro (fun q => absurd q c1) (fun _ => h2 e)
theorem nx_l (hl : gI s 1 0 1 = nI l) (hl2 : l ≤ 200) (h : ∀ m p, nx_S s p m → p ≤ 200 → (p < l → Q (some (lI (gI s 2 0 p))) m) ∧ (¬ p < l → Q (some (lI 0)) m)) : ∀ n p m, p + n = 200 → nx_S s p m → qW false d 114 bc bs 0 [some (lR 1 (some 0))] [] m Q := by
  intro n
  induction n with
  | zero =>
    intro p m hp hm
    have ep : gI m 1 0 2 = nI p := hm.2.1
    have el : gI m 1 0 1 = nI l := by rw [hm.1 1 0 1 (fun q => absurd q.2.2 (by decide)), hl]
    have c1 : ¬ gI m 1 0 2 < gI m 1 0 1 := by rw [ep, el]; exact nI_nlt (by omega) (by omega)
    obtain ⟨g1, g2⟩ := h m p hm (by omega)
    refine qa_t1_W (cut := [50]) 30 ?_
    exact And.intro (fun q => absurd q c1) (fun _ => nx_t hl hl2 hm (by omega) g1 g2)
  | succ n ih =>
    intro p m hp hm
    have ep : gI m 1 0 2 = nI p := hm.2.1
    have el : gI m 1 0 1 = nI l := by rw [hm.1 1 0 1 (fun q => absurd q.2.2 (by decide)), hl]
    obtain ⟨g1, g2⟩ := h m p hm (by omega)
    have tl := nx_t (d := d) (bc := bc) (bs := bs) hl hl2 hm (by omega) g1 g2
    have c2 : gI m 1 0 2 < 200 := by rw [ep]; exact nI_lt (b := 200) (by omega) (by decide)
    have hv : qa_vin (gI m 1 0 2) 200 := by rw [ep]; exact nI_in (by omega) (by decide)
    have ih2 : qW false d 114 bc bs 0 [some (lR 1 (some 0))] [] (sI m 1 0 2 (gI m 1 0 2 + 1)) Q := by
      rw [ep, nI_1]
      exact ih (p + 1) _ (by omega) (nx_Ss hm)
    refine qa_t1_W (cut := [0, 50]) 40 ?_
    refine And.intro (fun _ => ?_) (fun _ => tl)
    refine And.intro (fun _ => ?_) (fun q => absurd c2 q)
    refine And.intro hv ?_
    exact And.intro (fun _ => ih2) (fun _ => tl)
theorem h_next (hl : gI s 1 0 1 = nI l) (hl2 : l ≤ 200) {p : Nat} (hp : gI s 1 0 2 = nI p) (hp2 : p ≤ 200) (h : ∀ m p, nx_S s p m → p ≤ 200 → (p < l → Q (some (lI (gI s 2 0 p))) m) ∧ (¬ p < l → Q (some (lI 0)) m)) : qC false (d + 1) 114 [lR 1 (some 0)] s Q :=
  qC_of rfl rfl (nx_l hl hl2 h (200 - p) p s (by omega) ⟨fun _ _ _ _ => rfl, hp, fun _ _ _ => rfl, fun _ _ _ => rfl⟩)
def dg (x : Int32) : Prop := 48 ≤ x.toInt ∧ x.toInt ≤ 57
theorem h_dig {x : Int32} (h1 : dg x → Q (some (lI 1)) s) (h2 : ¬ dg x → Q (some (lI 0)) s) : qC false (d + 1) 120 [lI x] s Q := by
  refine qC_of rfl rfl ?_
  refine qa_t1_W (cut := []) 20 ?_
  refine And.intro (fun c => ?_) (fun c => ?_)
  · have c : x.toInt < 48 := Int32.lt_iff_toInt_lt.mp c
    exact And.intro (Or.inl rfl) (h2 (fun q => by have := q.1; omega))
  · have c : ¬ x.toInt < 48 := fun q => c (Int32.lt_iff_toInt_lt.mpr q)
    refine And.intro (fun c2 => ?_) (fun c2 => ?_)
    · have c2 : (57 : Int) < x.toInt := Int32.lt_iff_toInt_lt.mp c2
      exact And.intro (Or.inl rfl) (h2 (fun q => by have := q.2; omega))
    · have c2 : ¬ (57 : Int) < x.toInt := fun q => c2 (Int32.lt_iff_toInt_lt.mpr q)
      exact And.intro (Or.inr rfl) (h1 ⟨by omega, by omega⟩)
theorem nu_l {mm : Nat} (hmm : mm ≤ 4) (hl : gI s 1 0 1 = nI l) (hl2 : l ≤ 200) (hno : ∀ m p, nx_S s p m → p ≤ 200 → Q (some (lI (-1))) m) (h : ∀ m p v, nx_S s p m → 1 ≤ p → p ≤ 200 → v < 10 ^ mm → Q (some (lI (nI v))) m) :
    ∀ n p m v k, p + n = 200 → nx_S s p m → k ≤ mm → v < 10 ^ k → (k = 0 → p < l ∧ dg (gI s 2 0 p)) → (0 < k → 1 ≤ p) → qW false (d + 1) 119 bc bs 16 [some (lR 1 (some 0)), some (lI (nI mm)), some (lI (nI v)), some (lI (nI k))] [] m Q := by
  intro n
  induction n with
  | zero =>
    intro p m v k hp hm hk hv hk0 hk1
    have ep : gI m 1 0 2 = nI p := hm.2.1
    have el : gI m 1 0 1 = nI l := by rw [hm.1 1 0 1 (fun q => absurd q.2.2 (by decide)), hl]
    have c1 : ¬ gI m 1 0 2 < gI m 1 0 1 := by rw [ep, el]; exact nI_nlt (by omega) (by omega)
    have hk9 : 0 < k := by
      rcases Nat.eq_zero_or_pos k with q | q
      · have := (hk0 q).1
        omega
      · exact q
    have fin := h m p v hm (hk1 hk9) (by omega) (Nat.lt_of_lt_of_le hv (Nat.pow_le_pow_right (by decide) hk))
    refine qa_t1_W (cut := [16]) 30 ?_
    exact And.intro (fun q => absurd q c1) (fun _ => fin)
  | succ n ih =>
    intro p m v k hp hm hk hv hk0 hk1
    have ep : gI m 1 0 2 = nI p := hm.2.1
    have el : gI m 1 0 1 = nI l := by rw [hm.1 1 0 1 (fun q => absurd q.2.2 (by decide)), hl]
    have fin : ¬ (p < l ∧ dg (gI s 2 0 p)) → Q (some (lI (nI v))) m := fun hn => by
      have hk9 : 0 < k := by
        rcases Nat.eq_zero_or_pos k with q | q
        · exact absurd (hk0 q) hn
        · exact q
      exact h m p v hm (hk1 hk9) (by omega) (Nat.lt_of_lt_of_le hv (Nat.pow_le_pow_right (by decide) hk))
    by_cases e : p < l
    · have c1 : gI m 1 0 2 < gI m 1 0 1 := by rw [ep, el]; exact nI_lt e (by omega)
      have c2 : gI m 1 0 2 < 200 := by rw [ep]; exact nI_lt (b := 200) (by omega) (by decide)
      have hvi : qa_vin (gI m 1 0 2) 200 := by rw [ep]; exact nI_in (by omega) (by decide)
      have eb : gI m 2 0 (gI m 1 0 2).toNatClampNeg = gI s 2 0 p := by rw [ep, nI_clamp (by omega), hm.1 2 0 p (fun q => absurd q.1 (by decide))]
      refine qa_t1_W (cut := [16]) 80 ?_
      refine And.intro (fun _ => ?_) (fun q => absurd c1 q)
      refine And.intro (fun _ => ?_) (fun q => absurd c2 q)
      refine And.intro hvi ?_
      refine h_dig (fun hd => Exists.intro _ (And.intro rfl ?_)) (fun hd => Exists.intro _ (And.intro rfl ?_))
      · refine And.intro (fun q => absurd q (by decide)) (fun _ => ?_)
        refine And.intro (fun _ => hno m p hm (by omega)) (fun hne => ?_)
        have hkm : k < mm := by
          rcases Nat.lt_or_ge k mm with q | q
          · exact q
          · exact absurd (by rw [show k = mm by omega]) hne
        have hd2 : dg (gI s 2 0 p) := by rw [← eb]; exact hd
        obtain ⟨b, hb, eb2⟩ := y_nIof2 (N := 57) (x := gI s 2 0 p) (by have := hd2.1; omega) hd2.2
        have hb48 : 48 ≤ b := by
          have := hd2.1
          rw [eb2, nI_toInt (by omega)] at this
          omega
        have ev : nI v * 10 + gI m 2 0 (gI m 1 0 2).toNatClampNeg - 48 = nI (v * 10 + (b - 48)) := by
          have hx : v * 10 + b < 2 ^ 31 := by
            have : 10 ^ k ≤ 10 ^ 4 := Nat.pow_le_pow_right (by decide) (by omega)
            omega
          apply Int32.toInt_inj.mp
          rw [eb, eb2, show (10 : Int32) = nI 10 from rfl, nI_mul, nI_add, y_subI, nI_toInt (by omega), nI_toInt (by omega)]
          · have : (48 : Int32).toInt = 48 := by decide
            omega
          · have : (48 : Int32).toInt = 48 := by decide
            rw [nI_toInt (by omega)]
            omega
          · have : (48 : Int32).toInt = 48 := by decide
            rw [nI_toInt (by omega)]
            omega
        have ih2 : qW false (d + 1) 119 bc bs 16 [some (lR 1 (some 0)), some (lI (nI mm)), some (lI (nI v * 10 + gI m 2 0 (gI m 1 0 2).toNatClampNeg - 48)), some (lI (nI k + 1))] [] (sI m 1 0 2 (gI m 1 0 2 + 1)) Q := by
          rw [ev, ep, nI_1, nI_1]
          refine ih (p + 1) _ _ _ (by omega) (nx_Ss hm) (by omega) ?_ (fun q => absurd q (by omega)) (fun _ => by omega)
          rw [Nat.pow_succ]
          omega
        exact And.intro hvi ih2
      · exact And.intro (fun _ => fin fun q => hd (show dg (gI m 2 0 (gI m 1 0 2).toNatClampNeg) by rw [eb]; exact q.2)) (fun q => absurd rfl q)
    · have c1 : ¬ gI m 1 0 2 < gI m 1 0 1 := by rw [ep, el]; exact nI_nlt (by omega) (by omega)
      refine qa_t1_W (cut := [16]) 30 ?_
      exact And.intro (fun q => absurd q c1) (fun _ => fin fun q => e q.1)
theorem nu_con {mm : Nat} {mv up : Int} (hmm : mm ≤ 4) (hmv : mv = (mm : Int)) (hup : up + 1 = ((10 ^ mm : Nat) : Int)) : y_con x_X (119, [.inr (.inr (1, (0, 0), (0, 0))), .inl (mv, mv)], ([], []), [(1, 0, 0, 2, 2)], [(some (.inl (-1, -1)), []), (some (.inl (0, up)), [(1, 0, 2, .inl (1, 200))])], 40) := by
  intro d hd As s Q hA hJ hp hQ
  obtain ⟨v1, r1, rfl, a1, hA⟩ := y_as1 hA
  obtain ⟨v2, r2, rfl, a2, hA⟩ := y_as1 hA
  have e9 := y_as0 hA
  subst e9
  have e1 := y_this (k := 1) (i := 0) a1
  subst e1
  obtain ⟨x, rfl, x1, x2⟩ := y_aI a2
  have x1 : mv ≤ x.toInt := x1
  have x2 : x.toInt ≤ mv := x2
  have ex : x = nI mm := Int32.toInt_inj.mp (by rw [nI_toInt (by omega)]; omega)
  subst ex
  have hd : 40 ≤ d := hd
  obtain ⟨d, rfl⟩ : ∃ d', d = d' + 2 := ⟨d - 2, by omega⟩
  obtain ⟨l, hl2, hl⟩ := y_nIof2 (N := 200) (x := gI s 1 0 1) (hJ.1 1 0 1 (1, 1, 0, 200) (by decide) (by decide) (by decide)).1 (hJ.1 1 0 1 (1, 1, 0, 200) (by decide) (by decide) (by decide)).2
  obtain ⟨p, hp2, hp⟩ := y_nIof2 (N := 200) (x := gI s 1 0 2) (hJ.1 1 0 2 (2, 2, 0, 200) (by decide) (by decide) (by decide)).1 (hJ.1 1 0 2 (2, 2, 0, 200) (by decide) (by decide) (by decide)).2
  have Fr : ∀ m p, nx_S s p m → y_Fr [(1, 0, 0, 2, 2)] s m := fun m p hm k i j hn => ⟨hm.1 k i j (fun q => hn (by obtain ⟨rfl, rfl, rfl⟩ := q; exact x_iW1 (by decide))), hm.2.2.1 k i j, hm.2.2.2 k i j⟩
  have no : ∀ m p, nx_S s p m → p ≤ 200 → Q (some (lI (-1))) m := fun m p hm hp => hQ _ m ⟨_, List.mem_cons_self, ⟨by decide, by decide⟩, y_msnil⟩ (nx_J hJ hm hp) (Fr m p hm)
  have yes : ∀ m p v, nx_S s p m → 1 ≤ p → p ≤ 200 → v < 10 ^ mm → Q (some (lI (nI v))) m := fun m p v hm h1 hp hv => by
    have h4 : 10 ^ mm ≤ 10 ^ 4 := Nat.pow_le_pow_right (by decide) hmm
    refine hQ _ m ⟨_, List.mem_cons_of_mem _ List.mem_cons_self, ?_, fun q hq => ?_⟩ (nx_J hJ hm hp) (Fr m p hm)
    · show (0 : Int) ≤ (nI v).toInt ∧ (nI v).toInt ≤ up
      rw [nI_toInt (by omega)]
      omega
    · rw [List.mem_singleton.mp hq]
      show (1 : Int) ≤ (gI m 1 0 2).toInt ∧ (gI m 1 0 2).toInt ≤ 200
      rw [hm.2.1, nI_toInt (by omega)]
      omega
  refine qC_of rfl rfl ?_
  refine qa_t1_W (cut := [16]) 30 ?_
  refine h_next hl hl2 hp hp2 fun m p hm hp => ⟨fun hlt => ?_, fun hlt => ?_⟩
  · refine Exists.intro _ (And.intro rfl ?_)
    refine h_dig (fun hdg => Exists.intro _ (And.intro rfl ?_)) (fun hdg => Exists.intro _ (And.intro rfl ?_))
    · refine And.intro (fun q => absurd q (by decide)) (fun _ => ?_)
      exact nu_l hmm hl hl2 no yes (200 - p) p m 0 0 (by omega) hm (by omega) (by decide) (fun _ => ⟨hlt, hdg⟩) (fun q => absurd q (by decide))
    · exact And.intro (fun _ => no m p hm hp) (fun q => absurd rfl q)
  · refine Exists.intro _ (And.intro rfl ?_)
    refine h_dig (fun hdg => absurd hdg.1 (by decide)) (fun hdg => Exists.intro _ (And.intro rfl ?_))
    exact And.intro (fun _ => no m p hm hp) (fun q => absurd rfl q)
end NX
theorem h_X8_number_0 : y_con x_X yh_X8_number_0 := nu_con (mm := 2) (by decide) (by decide) (by decide)
theorem h_X8_number_1 : y_con x_X yh_X8_number_1 := nu_con (mm := 4) (by decide) (by decide) (by decide)
/-- all that the checker was given -/
theorem h_all0 : ∀ ct ∈ yL_0, y_con x_X ct := List.forall_mem_cons.mpr ⟨h_X1_chain_0, List.forall_mem_cons.mpr ⟨h_X1_chain_1, List.forall_mem_cons.mpr ⟨h_X1_chain_2, List.forall_mem_cons.mpr ⟨h_X3_joined, List.forall_mem_cons.mpr ⟨h_X8_number_0, List.forall_mem_cons.mpr ⟨h_X8_number_1, List.forall_mem_cons.mpr ⟨h_X12_dayOf, List.forall_mem_cons.mpr ⟨h_X12_putAside, List.forall_mem_cons.mpr ⟨h_X12_takeBack, List.forall_mem_cons.mpr ⟨h_X12_owners, List.forall_mem_cons.mpr ⟨h_X12_measure, List.forall_mem_cons.mpr ⟨h_X12_again_0, List.forall_mem_cons.mpr ⟨h_X12_again_1, List.forall_mem_cons.mpr ⟨h_X12_again_2, List.forall_mem_cons.mpr ⟨h_X12_again_3, List.forall_mem_cons.mpr ⟨h_X12_harmBy, fun _ h => absurd h List.not_mem_nil⟩⟩⟩⟩⟩⟩⟩⟩⟩⟩⟩⟩⟩⟩⟩⟩
