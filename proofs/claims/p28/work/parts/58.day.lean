/-! The hand-made contracts of the day; dayOf. -/
theorem d_its {n : Nat} {hi nv wv lo up : Int} {w : Nat} (h1 : n ≤ 20) (h2 : hi = (n : Int) - 1) (h3 : nv = (n : Int)) (hw : w < 5) (hwv : wv = (w : Int))
    (hval : ∀ s : LMem, y_J x_X s → gI s 48 0 272 = nI n → ∀ r, r < n → lo ≤ (gI s 48 0 (160 + 5 * r + w)).toInt ∧ (gI s 48 0 (160 + 5 * r + w)).toInt ≤ up) : y_con x_X (243, [.inr (.inr (33, (0, 0), (0, 0))), .inl (0, hi), .inl (wv, wv)], ([(48, 0, 272, .inl (nv, nv))], []), [], [(some (.inl (lo, up)), [])], 20) := by
  intro d hd As s Q hA hJ hp hQ
  obtain ⟨v1, r1, rfl, a1, hA⟩ := y_as1 hA
  obtain ⟨v2, r2, rfl, a2, hA⟩ := y_as1 hA
  obtain ⟨v3, r3, rfl, a3, hA⟩ := y_as1 hA
  have e9 := y_as0 hA
  subst e9
  have e1 := y_this (k := 33) (i := 0) a1
  subst e1
  obtain ⟨x, rfl, x1, x2⟩ := y_aI a2
  obtain ⟨y, rfl, y1, y2⟩ := y_aI a3
  have x1 : 0 ≤ x.toInt := x1
  have x2 : x.toInt ≤ hi := x2
  have y1 : wv ≤ y.toInt := y1
  have y2 : y.toInt ≤ wv := y2
  have hm : nv ≤ (gI s 48 0 272).toInt ∧ (gI s 48 0 272).toInt ≤ nv := hp.1 _ List.mem_cons_self
  have hM : gI s 48 0 272 = nI n := Int32.toInt_inj.mp (by rw [nI_toInt (by omega)]; omega)
  have ex : x = nI x.toInt.toNat := y_nIof x1
  have ey : y = nI w := Int32.toInt_inj.mp (by rw [nI_toInt (by omega)]; omega)
  have hd : 20 ≤ d := hd
  obtain ⟨d, rfl⟩ : ∃ d', d = d' + 1 := ⟨d - 1, by omega⟩
  have hv := hval s hJ hM x.toInt.toNat (by omega)
  rw [ex, ey]
  exact h_its (by omega) hw (hQ _ s (y_post1 hv) hJ (y_Fr_rf _ _))
theorem d_its2 {n : Nat} {hi nv : Int} (h1 : n ≤ 20) (h2 : hi = (n : Int) - 1) (h3 : nv = (n : Int)) : y_con x_X (243, [.inr (.inr (33, (0, 0), (0, 0))), .inl (0, hi), .inl (2, 2)], ([(48, 0, 272, .inl (nv, nv))], []), [], [(some (.inl (1, 9)), [])], 20) :=
  d_its (w := 2) h1 h2 h3 (by decide) rfl fun s hJ hM r hr => by
    obtain ⟨o, g1, g2, g3⟩ := x_width hJ hM h1 hr
    rw [g3, nI_toInt (by omega)]
    omega
theorem d_its3 {n : Nat} {hi nv : Int} (h1 : n ≤ 20) (h2 : hi = (n : Int) - 1) (h3 : nv = (n : Int)) : y_con x_X (243, [.inr (.inr (33, (0, 0), (0, 0))), .inl (0, hi), .inl (3, 3)], ([(48, 0, 272, .inl (nv, nv))], []), [], [(some (.inl (0, 5)), [])], 20) :=
  d_its (w := 3) h1 h2 h3 (by decide) rfl fun s hJ hM r hr => by
    obtain ⟨o, g2, g3⟩ := x_owner hJ hM h1 hr
    rw [g3, nI_toInt (by omega)]
    omega
theorem d_wo {j : Nat} (hj : j = 277 ∨ j = 278) : y_con x_X (229, [.inr (.inr (33, (0, 0), (0, 0))), .inl (0, 5)], ([(48, 0, 272, .inl (1, 20))], [(1, 48, 0, j)]), [(43, 0, 0, 0, 79)], [(some (.inl ((-2147483648), 2147483647)), [])], 20) := by
  intro d hd As s Q hA hJ hp hQ
  obtain ⟨v1, r1, rfl, a1, hA⟩ := y_as1 hA
  obtain ⟨v2, r2, rfl, a2, hA⟩ := y_as1 hA
  have e9 := y_as0 hA
  subst e9
  have e1 := y_this (k := 33) (i := 0) a1
  subst e1
  obtain ⟨x, rfl, x1, x2⟩ := y_aI a2
  have x1 : 0 ≤ x.toInt := x1
  have x2 : x.toInt ≤ 5 := x2
  have hm : (1 : Int) ≤ (gI s 48 0 272).toInt ∧ (gI s 48 0 272).toInt ≤ 20 := hp.1 _ List.mem_cons_self
  obtain ⟨y, hy1, hy2⟩ := hp.2 _ List.mem_cons_self
  have hy1 : some (lI x) = some (lI y) := hy1
  have hy2 : y = gI s 48 0 j := hy2
  cases hy1
  have ex : x = nI x.toInt.toNat := y_nIof x1
  have hr := hJ.2.2.2.2.1
  have hlaws : 1 ≤ xI s 33 13 := hr.2.1 (fun q => by have q : (gI s 48 0 272).toInt = 0 := q; omega)
  have hlt : x.toInt < xI s 33 13 := by
    rw [hy2]
    rcases hj with rfl | rfl
    · have w : (gI s 48 0 277).toInt < max 1 (xI s 33 13) := (hr.2.2 trivial).1
      omega
    · have w : (gI s 48 0 278).toInt < max 1 (xI s 33 13) := (hr.2.2 trivial).2
      omega
  have hd : 20 ≤ d := hd
  obtain ⟨d, rfl⟩ : ∃ d', d = d' + 5 := ⟨d - 5, by omega⟩
  rw [ex]
  refine h_worthOf hJ (by omega) (by omega) fun m v hm => ?_
  refine hQ _ m (y_post1 (z_in_top v)) (wk_J hJ hm) fun k i j' hn => ⟨hm.1 k i j' (fun q => hn ?_), hm.2.1 k i j', hm.2.2 k i j'⟩
  obtain ⟨rfl, rfl, q⟩ := q
  exact ⟨(43, 0, 0, 0, 79), List.mem_cons_self, rfl, ⟨Int.le_refl _, Int.le_refl _⟩, by show (0 : Int) ≤ (j' : Int); omega, by show (j' : Int) ≤ 79; omega⟩
theorem d_hand : ∀ ct ∈ dL_0, y_con x_X ct := List.forall_mem_cons.mpr ⟨d_wo (Or.inl rfl), List.forall_mem_cons.mpr ⟨d_wo (Or.inr rfl), List.forall_mem_cons.mpr ⟨d_its2 (n := 1) (by decide) (by decide) (by decide), List.forall_mem_cons.mpr ⟨d_its3 (n := 1) (by decide) (by decide) (by decide), List.forall_mem_cons.mpr ⟨d_its2 (n := 2) (by decide) (by decide) (by decide), List.forall_mem_cons.mpr ⟨d_its3 (n := 2) (by decide) (by decide) (by decide), List.forall_mem_cons.mpr ⟨d_its2 (n := 3) (by decide) (by decide) (by decide), List.forall_mem_cons.mpr ⟨d_its3 (n := 3) (by decide) (by decide) (by decide), List.forall_mem_cons.mpr ⟨d_its2 (n := 4) (by decide) (by decide) (by decide), List.forall_mem_cons.mpr ⟨d_its3 (n := 4) (by decide) (by decide) (by decide), List.forall_mem_cons.mpr ⟨d_its2 (n := 5) (by decide) (by decide) (by decide), List.forall_mem_cons.mpr ⟨d_its3 (n := 5) (by decide) (by decide) (by decide), List.forall_mem_cons.mpr ⟨d_its2 (n := 6) (by decide) (by decide) (by decide), List.forall_mem_cons.mpr ⟨d_its3 (n := 6) (by decide) (by decide) (by decide), List.forall_mem_cons.mpr ⟨d_its2 (n := 7) (by decide) (by decide) (by decide), List.forall_mem_cons.mpr ⟨d_its3 (n := 7) (by decide) (by decide) (by decide), List.forall_mem_cons.mpr ⟨d_its2 (n := 8) (by decide) (by decide) (by decide), List.forall_mem_cons.mpr ⟨d_its3 (n := 8) (by decide) (by decide) (by decide), List.forall_mem_cons.mpr ⟨d_its2 (n := 9) (by decide) (by decide) (by decide), List.forall_mem_cons.mpr ⟨d_its3 (n := 9) (by decide) (by decide) (by decide), List.forall_mem_cons.mpr ⟨d_its2 (n := 10) (by decide) (by decide) (by decide), List.forall_mem_cons.mpr ⟨d_its3 (n := 10) (by decide) (by decide) (by decide), List.forall_mem_cons.mpr ⟨d_its2 (n := 11) (by decide) (by decide) (by decide), List.forall_mem_cons.mpr ⟨d_its3 (n := 11) (by decide) (by decide) (by decide), List.forall_mem_cons.mpr ⟨d_its2 (n := 12) (by decide) (by decide) (by decide), List.forall_mem_cons.mpr ⟨d_its3 (n := 12) (by decide) (by decide) (by decide), List.forall_mem_cons.mpr ⟨d_its2 (n := 13) (by decide) (by decide) (by decide), List.forall_mem_cons.mpr ⟨d_its3 (n := 13) (by decide) (by decide) (by decide), List.forall_mem_cons.mpr ⟨d_its2 (n := 14) (by decide) (by decide) (by decide), List.forall_mem_cons.mpr ⟨d_its3 (n := 14) (by decide) (by decide) (by decide), List.forall_mem_cons.mpr ⟨d_its2 (n := 15) (by decide) (by decide) (by decide), List.forall_mem_cons.mpr ⟨d_its3 (n := 15) (by decide) (by decide) (by decide), List.forall_mem_cons.mpr ⟨d_its2 (n := 16) (by decide) (by decide) (by decide), List.forall_mem_cons.mpr ⟨d_its3 (n := 16) (by decide) (by decide) (by decide), List.forall_mem_cons.mpr ⟨d_its2 (n := 17) (by decide) (by decide) (by decide), List.forall_mem_cons.mpr ⟨d_its3 (n := 17) (by decide) (by decide) (by decide), List.forall_mem_cons.mpr ⟨d_its2 (n := 18) (by decide) (by decide) (by decide), List.forall_mem_cons.mpr ⟨d_its3 (n := 18) (by decide) (by decide) (by decide), List.forall_mem_cons.mpr ⟨d_its2 (n := 19) (by decide) (by decide) (by decide), List.forall_mem_cons.mpr ⟨d_its3 (n := 19) (by decide) (by decide) (by decide), List.forall_mem_cons.mpr ⟨d_its2 (n := 20) (by decide) (by decide) (by decide), List.forall_mem_cons.mpr ⟨d_its3 (n := 20) (by decide) (by decide) (by decide), fun _ h => absurd h List.not_mem_nil⟩⟩⟩⟩⟩⟩⟩⟩⟩⟩⟩⟩⟩⟩⟩⟩⟩⟩⟩⟩⟩⟩⟩⟩⟩⟩⟩⟩⟩⟩⟩⟩⟩⟩⟩⟩⟩⟩⟩⟩⟩⟩
theorem h_X12_dayOf : y_con x_X yh_X12_dayOf := by
  refine y_cases (N := 20) (j := 272) (k := 48) (fun s hJ => hJ.1 48 0 272 (272, 272, 0, 20) (by decide) (by decide) (by decide)) fun n hn => ?_
  rcases (show n = 0 ∨ n = 1 ∨ n = 2 ∨ n = 3 ∨ n = 4 ∨ n = 5 ∨ n = 6 ∨ n = 7 ∨ n = 8 ∨ n = 9 ∨ n = 10 ∨ n = 11 ∨ n = 12 ∨ n = 13 ∨ n = 14 ∨ n = 15 ∨ n = 16 ∨ n = 17 ∨ n = 18 ∨ n = 19 ∨ n = 20 by omega) with rfl | rfl | rfl | rfl | rfl | rfl | rfl | rfl | rfl | rfl | rfl | rfl | rfl | rfl | rfl | rfl | rfl | rfl | rfl | rfl | rfl
  · exact ⟨dk_X12_dayOf.2.2.2.1, y_con_ct (ct := dk_X12_dayOf) (d_all x_X_cl d_hand dk_X12_dayOf (List.mem_of_getElem? (i := 78) rfl)) (by decide), by decide +kernel⟩
  · exact ⟨dk_X12_dayOf_1.2.2.2.1, y_con_ct (ct := dk_X12_dayOf_1) (d_all x_X_cl d_hand dk_X12_dayOf_1 (List.mem_of_getElem? (i := 19) rfl)) (by decide), by decide +kernel⟩
  · exact ⟨dk_X12_dayOf_2.2.2.2.1, y_con_ct (ct := dk_X12_dayOf_2) (d_all x_X_cl d_hand dk_X12_dayOf_2 (List.mem_of_getElem? (i := 0) rfl)) (by decide), by decide +kernel⟩
  · exact ⟨dk_X12_dayOf_3.2.2.2.1, y_con_ct (ct := dk_X12_dayOf_3) (d_all x_X_cl d_hand dk_X12_dayOf_3 (List.mem_of_getElem? (i := 1) rfl)) (by decide), by decide +kernel⟩
  · exact ⟨dk_X12_dayOf_4.2.2.2.1, y_con_ct (ct := dk_X12_dayOf_4) (d_all x_X_cl d_hand dk_X12_dayOf_4 (List.mem_of_getElem? (i := 2) rfl)) (by decide), by decide +kernel⟩
  · exact ⟨dk_X12_dayOf_5.2.2.2.1, y_con_ct (ct := dk_X12_dayOf_5) (d_all x_X_cl d_hand dk_X12_dayOf_5 (List.mem_of_getElem? (i := 3) rfl)) (by decide), by decide +kernel⟩
  · exact ⟨dk_X12_dayOf_6.2.2.2.1, y_con_ct (ct := dk_X12_dayOf_6) (d_all x_X_cl d_hand dk_X12_dayOf_6 (List.mem_of_getElem? (i := 4) rfl)) (by decide), by decide +kernel⟩
  · exact ⟨dk_X12_dayOf_7.2.2.2.1, y_con_ct (ct := dk_X12_dayOf_7) (d_all x_X_cl d_hand dk_X12_dayOf_7 (List.mem_of_getElem? (i := 5) rfl)) (by decide), by decide +kernel⟩
  · exact ⟨dk_X12_dayOf_8.2.2.2.1, y_con_ct (ct := dk_X12_dayOf_8) (d_all x_X_cl d_hand dk_X12_dayOf_8 (List.mem_of_getElem? (i := 6) rfl)) (by decide), by decide +kernel⟩
  · exact ⟨dk_X12_dayOf_9.2.2.2.1, y_con_ct (ct := dk_X12_dayOf_9) (d_all x_X_cl d_hand dk_X12_dayOf_9 (List.mem_of_getElem? (i := 7) rfl)) (by decide), by decide +kernel⟩
  · exact ⟨dk_X12_dayOf_10.2.2.2.1, y_con_ct (ct := dk_X12_dayOf_10) (d_all x_X_cl d_hand dk_X12_dayOf_10 (List.mem_of_getElem? (i := 8) rfl)) (by decide), by decide +kernel⟩
  · exact ⟨dk_X12_dayOf_11.2.2.2.1, y_con_ct (ct := dk_X12_dayOf_11) (d_all x_X_cl d_hand dk_X12_dayOf_11 (List.mem_of_getElem? (i := 9) rfl)) (by decide), by decide +kernel⟩
  · exact ⟨dk_X12_dayOf_12.2.2.2.1, y_con_ct (ct := dk_X12_dayOf_12) (d_all x_X_cl d_hand dk_X12_dayOf_12 (List.mem_of_getElem? (i := 10) rfl)) (by decide), by decide +kernel⟩
  · exact ⟨dk_X12_dayOf_13.2.2.2.1, y_con_ct (ct := dk_X12_dayOf_13) (d_all x_X_cl d_hand dk_X12_dayOf_13 (List.mem_of_getElem? (i := 11) rfl)) (by decide), by decide +kernel⟩
  · exact ⟨dk_X12_dayOf_14.2.2.2.1, y_con_ct (ct := dk_X12_dayOf_14) (d_all x_X_cl d_hand dk_X12_dayOf_14 (List.mem_of_getElem? (i := 12) rfl)) (by decide), by decide +kernel⟩
  · exact ⟨dk_X12_dayOf_15.2.2.2.1, y_con_ct (ct := dk_X12_dayOf_15) (d_all x_X_cl d_hand dk_X12_dayOf_15 (List.mem_of_getElem? (i := 13) rfl)) (by decide), by decide +kernel⟩
  · exact ⟨dk_X12_dayOf_16.2.2.2.1, y_con_ct (ct := dk_X12_dayOf_16) (d_all x_X_cl d_hand dk_X12_dayOf_16 (List.mem_of_getElem? (i := 14) rfl)) (by decide), by decide +kernel⟩
  · exact ⟨dk_X12_dayOf_17.2.2.2.1, y_con_ct (ct := dk_X12_dayOf_17) (d_all x_X_cl d_hand dk_X12_dayOf_17 (List.mem_of_getElem? (i := 15) rfl)) (by decide), by decide +kernel⟩
  · exact ⟨dk_X12_dayOf_18.2.2.2.1, y_con_ct (ct := dk_X12_dayOf_18) (d_all x_X_cl d_hand dk_X12_dayOf_18 (List.mem_of_getElem? (i := 16) rfl)) (by decide), by decide +kernel⟩
  · exact ⟨dk_X12_dayOf_19.2.2.2.1, y_con_ct (ct := dk_X12_dayOf_19) (d_all x_X_cl d_hand dk_X12_dayOf_19 (List.mem_of_getElem? (i := 17) rfl)) (by decide), by decide +kernel⟩
  · exact ⟨dk_X12_dayOf_20.2.2.2.1, y_con_ct (ct := dk_X12_dayOf_20) (d_all x_X_cl d_hand dk_X12_dayOf_20 (List.mem_of_getElem? (i := 18) rfl)) (by decide), by decide +kernel⟩
