/-! FROM THE LAW'S ENTRY: what the Statement gives of the start; the constructors; the loop. -/
def qs_loopOK : Prop := ∀ (xs : Nat → Int32) (L : Nat), L ≤ 3584 → ∃ f, qa_wq false f 1200 314 666 6845 23 qx_loc [] (qx_0 xs (Int32.ofNat L)) (fun r _ => r = some (lI 1))
theorem qs_w1 : ((List.range 13).all fun c => decide (Cond.instantiable (qa_own c) (qa_cn c) ∈ lw_tbl)) = true := by decide +kernel
theorem qs_w2 : ((List.range 5).all fun t => decide (Cond.arrayOver (qa_aty (t + 2)) ∈ lw_tbl)) = true := by decide +kernel
theorem qs_w3 : Cond.arrayClass .int ∈ lw_tbl ∧ Cond.arrayClass .long ∈ lw_tbl := ⟨by decide +kernel, by decide +kernel⟩
theorem qs_w4 : (qa_pm.all fun q => !q.2.2.2.2 || decide (Cond.methodLinkNest (qa_own q.1) q.2.1 (qa_y q.2.2.1) "DitchOpen" ∈ lw_tbl)) = true := by decide +kernel
theorem qs_w5 : (qa_thw.all fun w => decide (w ∈ lw_tbl) || goodWord w) = true := by decide +kernel
theorem qs_w6 : ((List.range 4).all fun t => decide (Cond.laysStatic (qa_sown (60 + t)).1 (qa_sown (60 + t)).2 "[I" ∈ lw_tbl) && decide (Cond.initialized (qa_sown (60 + t)).1 ∈ lw_tbl)) = true := by decide +kernel
theorem qs_w7 : ((List.range 3).all fun t => decide (Cond.stringRef (qa_stx t).1 (qa_stx t).2.1 (qa_stx t).2.2 ∈ lw_tbl)) = true := by decide +kernel
theorem qs_w8 : Cond.laysStatic "java/lang/String" "COMPACT_STRINGS" "Z" ∈ lw_tbl ∧ Cond.initialized "java/lang/String" ∈ lw_tbl := ⟨by decide +kernel, by decide +kernel⟩
theorem qs_w9 : Cond.laysStatic Bundle.tN "UNASSIGNED_STACK" Bundle.steD ∈ lw_tbl ∧ Cond.laysStatic Bundle.tN "SUPPRESSED_SENTINEL" Bundle.listD ∈ lw_tbl ∧ Cond.initialized Bundle.tN ∈ lw_tbl := ⟨by decide +kernel, by decide +kernel, by decide +kernel⟩
/-- the statics' words -/
def qs_st (k : Nat) : Term := .static (qa_sown k).1 (qa_sown k).2 "[I"
theorem qs_f1 : ((List.range 4).all fun t => decide (Cond.arrayOf (qs_st (60 + t)) .int ∈ flatC (Jvm.Cond.and given_1 narrow_1)) && (decide (Cond.eq (.length (qs_st (60 + t))) (.int (Int32.ofNat (qa_len (60 + t)))) ∈ flatC (Jvm.Cond.and given_1 narrow_1)) && (List.range (qa_len (60 + t))).all fun j => decide (Cond.eq (.elem (qs_st (60 + t)) (.int (Int32.ofNat j))) (.int (qa_stc (60 + t) j)) ∈ flatC (Jvm.Cond.and given_1 narrow_1)))) = true := by decide +kernel
def qs_tm (t : Nat) : Term := .string (qa_stx t).1 (qa_stx t).2.1
def qs_tv (t : Nat) : Term := .field (qs_tm t) "java/lang/String" "value" "[B"
theorem qs_f2 : ((List.range 3).all fun t => decide (Cond.exactly (qs_tm t) "java/lang/String" ∈ flatC (Jvm.Cond.and given_1 narrow_1)) && (decide (Cond.eq (.field (qs_tm t) "java/lang/String" "coder" "B") (.int 0) ∈ flatC (Jvm.Cond.and given_1 narrow_1)) && (decide (Cond.arrayOf (qs_tv t) .byte ∈ flatC (Jvm.Cond.and given_1 narrow_1)) && (decide (Cond.eq (.length (qs_tv t)) (.int (Int32.ofNat (([3, 4, 8] : List Nat).getD t 0))) ∈ flatC (Jvm.Cond.and given_1 narrow_1)) &&
  (List.range (([3, 4, 8] : List Nat).getD t 0)).all fun j => decide (Cond.eq (.elem (qs_tv t) (.int (Int32.ofNat j))) (.int ((([qa_str 0, qa_str 1, qa_str 2] : List (List Int32)).getD t []).getD j 0)) ∈ flatC (Jvm.Cond.and given_1 narrow_1)))))) = true := by decide +kernel
theorem qs_f3 : ((List.range 3).all fun i => (List.range 3).all fun j => Nat.beq i j || (decide (Cond.not (Cond.eq (qs_tm i) (qs_tm j)) ∈ flatC (Jvm.Cond.and given_1 narrow_1)) || decide (Cond.not (Cond.eq (qs_tm j) (qs_tm i)) ∈ flatC (Jvm.Cond.and given_1 narrow_1)))) = true := by decide +kernel
theorem qs_f4 : Cond.eq (.static "java/lang/String" "COMPACT_STRINGS" "Z") (.int 1) ∈ flatC (Jvm.Cond.and given_1 narrow_1) ∧ Cond.isRef (.static Bundle.tN "UNASSIGNED_STACK" Bundle.steD) ∈ flatC (Jvm.Cond.and given_1 narrow_1) ∧ Cond.isRef (.static Bundle.tN "SUPPRESSED_SENTINEL" Bundle.listD) ∈ flatC (Jvm.Cond.and given_1 narrow_1) := ⟨by decide +kernel, by decide +kernel, by decide +kernel⟩
theorem qs_flags {l : Launch} (h : l.flags = flags0) : l.stackTraces = false := by
  unfold Launch.stackTraces
  rw [h]
  decide +kernel
section QSTART
variable {s : State} {args : Array Value}
/-- a start's world -/
theorem qs_world {b L : Nat} {xs : Nat → Int32} (hL : L ≤ 3584) (hts : ∀ w ∈ lw_tbl, w.before args s = true) (hgv : (Jvm.Cond.and given_1 narrow_1).before args s = true) (hX : va_X b L xs s s.heap) (hbl : b < s.heap.size) :
    ∃ z : qa_S, z.2.2.1 = s.heap.size ∧ z.2.2.2.2.1 = L ∧ z.2.2.2.2.2 = xs ∧ z.2.2.2.1 65 0 = b ∧ va_K z.1 vwCl (qa_tys z) s ∧ qa_SF z s s.heap := by
  have hs := flat_of_before _ hgv
  have hA : ∀ a : Nat, a < s.heap.size → ¬ s.heap.size ≤ a := fun a h => Nat.not_le.mpr h
  have hcl : ∀ c, ∃ q : ClassId × (Nat → Nat), c < 13 → u_Kn s (qa_own c) (qa_clT c) (qa_cn c) q.1 q.2 := by
    intro c
    by_cases hc : c < 13
    · obtain ⟨cC, iS, h⟩ := u_known (ws := lw_tbl) (n := qa_cn c) hts (fun w hw => (List.mem_filter.mp (qa_cl_in hc w hw)).1) (hts _ (of_decide_eq_true (List.all_eq_true.mp qs_w1 c (List.mem_range.mpr hc))))
      exact ⟨(cC, iS), fun _ => h⟩
    · exact ⟨(0, fun _ => 0), fun h => absurd h hc⟩
  obtain ⟨D0, hD⟩ := Classical.axiomOfChoice hcl
  have har : ∀ t, ∃ cA : ClassId, t < 7 → ArrOfT s cA (qa_aty t) ∧ va_RA s cA (qa_aty t) := by
    intro t
    have hao : ∀ t, 2 ≤ t → t < 7 → (Cond.arrayOver (qa_aty t)).before args s = true := fun t h1 h2 => by
      have h3 := of_decide_eq_true (List.all_eq_true.mp qs_w2 (t - 2) (List.mem_range.mpr (by omega)))
      rw [show t - 2 + 2 = t by omega] at h3
      exact hts _ h3
    by_cases ht : t < 7
    · rcases (show t = 0 ∨ t = 1 ∨ t = 2 ∨ t = 3 ∨ t = 4 ∨ t = 5 ∨ t = 6 by omega) with rfl | rfl | rfl | rfl | rfl | rfl | rfl
      · obtain ⟨cA, k, comp, h1, h2, h3⟩ := Cond.arrayClass_spec (hts _ qs_w3.1)
        exact ⟨cA, fun _ => ⟨fun n z => ⟨(fun k h => by cases h), k, h2, comp, h3⟩, h1⟩⟩
      · obtain ⟨cA, k, comp, h1, h2, h3⟩ := Cond.arrayClass_spec (hts _ qs_w3.2)
        exact ⟨cA, fun _ => ⟨fun n z => ⟨(fun k h => by cases h), k, h2, comp, h3⟩, h1⟩⟩
      · obtain ⟨comp, cA, k, h1, -, h3, h4, h5⟩ := Cond.arrayOver_spec (hao 2 (by omega) (by omega))
        exact ⟨cA, fun _ => ⟨fun n z => ⟨(fun k h => by cases h), k, h3, comp, h4⟩, ⟨k, comp, h3, h4, h1, h5⟩⟩⟩
      · obtain ⟨comp, cA, k, h1, -, h3, h4, h5⟩ := Cond.arrayOver_spec (hao 3 (by omega) (by omega))
        exact ⟨cA, fun _ => ⟨fun n z => ⟨(fun k h => by cases h), k, h3, comp, h4⟩, ⟨k, comp, h3, h4, h1, h5⟩⟩⟩
      · obtain ⟨comp, cA, k, h1, -, h3, h4, h5⟩ := Cond.arrayOver_spec (hao 4 (by omega) (by omega))
        exact ⟨cA, fun _ => ⟨fun n z => ⟨(fun k h => by cases h), k, h3, comp, h4⟩, ⟨k, comp, h3, h4, h1, h5⟩⟩⟩
      · obtain ⟨comp, cA, k, h1, -, h3, h4, h5⟩ := Cond.arrayOver_spec (hao 5 (by omega) (by omega))
        exact ⟨cA, fun _ => ⟨fun n z => ⟨(fun k h => by cases h), k, h3, comp, h4⟩, ⟨k, comp, h3, h4, h1, h5⟩⟩⟩
      · obtain ⟨comp, cA, k, h1, -, h3, h4, h5⟩ := arrayOverA_spec (hao 6 (by omega) (by omega))
        exact ⟨cA, fun _ => ⟨fun n z => ⟨(fun k h => by cases h), k, h3, comp, h4⟩, h5⟩⟩
    · exact ⟨0, fun h => absurd h ht⟩
  obtain ⟨ids, hids⟩ := Classical.axiomOfChoice har
  have hst : ∀ k, ∃ t : Nat, 60 ≤ k → k < 64 → va_Z (qa_sown k).1 (qa_sown k).2 "[I" (.ref t) (fun q => s.heap.size ≤ q) s s.heap ∧ va_T .int t (qa_len k) (fun j => .int (qa_stc k j)) (fun q => s.heap.size ≤ q) s s.heap := by
    intro k
    by_cases hk : 60 ≤ k ∧ k < 64
    · obtain ⟨f1, f2⟩ := qa_and (List.all_eq_true.mp qs_f1 (k - 60) (List.mem_range.mpr (by omega)))
      obtain ⟨f2, f3⟩ := qa_and f2
      have f3 := List.all_eq_true.mp f3
      obtain ⟨g1, g2⟩ := qa_and (List.all_eq_true.mp qs_w6 (k - 60) (List.mem_range.mpr (by omega)))
      rw [show 60 + (k - 60) = k by omega] at f1 f2 f3 g1 g2
      obtain ⟨t, ht, hT⟩ := va_Tof (tm := qs_st k) (N := qa_len k) (f := fun j => .int (qa_stc k j)) (A := fun q => s.heap.size ≤ q) (by
          have : ∀ k, k < 64 → qa_len k < 2 ^ 31 := by decide +kernel
          exact this k hk.2) (hs _ (of_decide_eq_true f1)) (va_eqt (hs _ (of_decide_eq_true f2))) (fun j hj => va_eqt (hs _ (of_decide_eq_true (f3 j (List.mem_range.mpr hj))))) hA
      exact ⟨t, fun _ _ => ⟨va_Zof (hts _ (of_decide_eq_true g1)) (hts _ (of_decide_eq_true g2)) ht hA, hT⟩⟩
    · exact ⟨0, fun h1 h2 => absurd ⟨h1, h2⟩ hk⟩
  obtain ⟨ad, had⟩ := Classical.axiomOfChoice hst
  have hq2 : ∀ i, i < 3 → _ := fun i hi => List.all_eq_true.mp qs_f2 i (List.mem_range.mpr hi)
  obtain ⟨adK, adV, hS, hev⟩ := vk_Sof (args := args) (s := s) (N := 3) (tm := qs_tm) (len := [3, 4, 8]) (byt := [qa_str 0, qa_str 1, qa_str 2]) (A := fun q => s.heap.size ≤ q)
    (by intro i hi; rcases (show i = 0 ∨ i = 1 ∨ i = 2 by omega) with rfl | rfl | rfl <;> decide)
    (fun i hi => hs _ (of_decide_eq_true (qa_and (hq2 i hi)).1))
    (fun i hi => hs _ (of_decide_eq_true (qa_and (qa_and (hq2 i hi)).2).1))
    (fun i hi => hs _ (of_decide_eq_true (qa_and (qa_and (qa_and (hq2 i hi)).2).2).1))
    (fun i hi => hs _ (of_decide_eq_true (qa_and (qa_and (qa_and (qa_and (hq2 i hi)).2).2).2).1))
    (fun i hi j hj => hs _ (of_decide_eq_true (List.all_eq_true.mp (qa_and (qa_and (qa_and (qa_and (hq2 i hi)).2).2).2).2 j (List.mem_range.mpr hj))))
    (fun i j hi hj hij => by
      have h := List.all_eq_true.mp (List.all_eq_true.mp qs_f3 i (List.mem_range.mpr hi)) j (List.mem_range.mpr hj)
      have hb : Nat.beq i j = false := by
        cases h9 : Nat.beq i j with
        | false => rfl
        | true => exact absurd (qa_beq h9) hij
      rw [hb, Bool.false_or] at h
      rcases Bool.or_eq_true_iff.mp h with h | h
      · exact Or.inl (hs _ (of_decide_eq_true h))
      · exact Or.inr (hs _ (of_decide_eq_true h))) hA
  let z : qa_S := ((fun c => (D0 c).1, fun c => (D0 c).2), ids, s.heap.size, (fun k i => match Nat.beq k 64 with | true => adK i | false => match Nat.beq k 65 with | true => b | false => ad k), L, xs)
  refine ⟨z, rfl, rfl, rfl, rfl, ⟨fun c q hq => ?_, fun k q hq => ?_⟩, ?_⟩
  · have hc : c < 13 := (List.getElem?_eq_some_iff.mp hq).1
    rw [qa_cl_get c hc] at hq
    cases hq
    exact hD c hc
  · unfold qa_tys at hq
    rw [List.getElem?_map] at hq
    by_cases hk : k < 7
    · rw [List.getElem?_range hk] at hq
      cases hq
      exact hids k hk
    · rw [List.getElem?_eq_none (by rw [List.length_range]; omega)] at hq
      cases hq
  · refine ⟨fun k h1 h2 => ?_, ?_, hL, fun t ht => ?_, ⟨adV, hS⟩, ⟨?_, ?_⟩, ?_⟩
    · have hz : z.2.2.2.1 k 0 = ad k := by
        have e1 : Nat.beq k 64 = false := by
          cases h9 : Nat.beq k 64 with
          | false => rfl
          | true => exact absurd (qa_beq h9) (by omega)
        have e2 : Nat.beq k 65 = false := by
          cases h9 : Nat.beq k 65 with
          | false => rfl
          | true => exact absurd (qa_beq h9) (by omega)
        show (match Nat.beq k 64 with | true => adK 0 | false => match Nat.beq k 65 with | true => b | false => ad k) = ad k
        rw [e1, e2]
      rw [hz]
      exact had k h1 h2
    · obtain ⟨scr, q1, q2, q3, q4, q5⟩ := hX
      exact ⟨scr, q1, q2, q3, Nat.le_of_eq q4.symm, by rw [q4], q5, hA b hbl⟩
    · exact vk_R.of (hts _ (of_decide_eq_true (List.all_eq_true.mp qs_w7 t (List.mem_range.mpr ht)))) (hev t ht)
    · exact va_Zof (hts _ qs_w8.1) (hts _ qs_w8.2) (va_eqi (hs _ qs_f4.1)) hA
    · refine ⟨fun w hw hg => ?_, vx_Zqof (hts _ qs_w9.1) (hts _ qs_w9.2.2) (hs _ qs_f4.2.1) hA, vx_Zqof (hts _ qs_w9.2.1) (hts _ qs_w9.2.2) (hs _ qs_f4.2.2) hA⟩
      have h1 := List.all_eq_true.mp qs_w5 w hw
      rw [hg, Bool.or_false] at h1
      have h2 := (qa_and (List.all_eq_true.mp qa_thw9 w hw)).2
      rw [hg] at h2
      have h3 := hts w (of_decide_eq_true h1)
      cases w <;> first | (cases h2; done) | exact va_Nw.of rfl h3
    · refine ⟨fun q hq hn => ?_, fun q hq hn => ?_, fun t h1 h2 => ?_⟩
      · obtain ⟨o, i, k, j, n⟩ := q
        have hn : n = true := hn
        subst hn
        have h1 := List.all_eq_true.mp qa_pf9 _ hq
        exact va_Nw.of rfl (hts _ (of_decide_eq_true (qa_and h1).1))
      · have h1 := List.all_eq_true.mp qs_w4 q hq
        rw [hn] at h1
        exact va_Nw.of rfl (hts _ (of_decide_eq_true (by simpa using h1)))
      · have h3 := of_decide_eq_true (List.all_eq_true.mp qs_w2 (t - 2) (List.mem_range.mpr (by omega)))
        rw [show t - 2 + 2 = t by omega] at h3
        exact hts _ h3
end QSTART
theorem qs_WL (w : Cond) (h : w ∈ qa_W) : w ∈ lw_tbl := (List.mem_filter.mp h).1
theorem qs_start (hloop : qs_loopOK) {p : Program} {e : Env} {s : State} {m : MethodId} {below : List Frame} {meth : Method} {c : Code} (l : Launch) (hflags : l.flags = flags0) {b L : Nat} {xs : Nat → Int32} (hL : L ≤ 3584) (C0 : lw_At p s m meth c b L xs) : W p l e room_1 s m #[Value.ref b] below meth c s.heap [] 0 0 (lw_Z below #[Value.ref b] s) (entryFrame m ([Value.ref b] : List Value).toArray 7) := by
  obtain ⟨hx, hb, hret, hml, hown, hts, hX, hbl, hlk, hgv⟩ := C0
  obtain ⟨z, z1, z2, z3, z4, hK, hSF⟩ := qs_world (Nat.le_trans hL (by decide)) hts hgv hX hbl
  have hl9 := qs_flags hflags
  have hI := qr_hint (l := l) (z := z) hl9
  obtain ⟨f, hlp⟩ := hloop xs L hL
  have hb0 : z.2.2.1 ≤ s.heap.size := Nat.le_of_eq z1
  have hF : ∀ ph, qa_F z ph 314 p room_1 s m #[Value.ref b] meth c 1000 20000 0 := fun ph => ⟨hx, hb, hml, hown, fun w hw => hts w (qs_WL w hw), fun q => absurd q (by decide), hK, hSF, hb0, fun _ => by rw [z1]; rfl, Nat.le_of_ble_eq_true rfl, Nat.le_of_ble_eq_true rfl, Nat.le_of_ble_eq_true rfl, Nat.le_of_ble_eq_true rfl⟩
  have hK2 : ∀ bc bs loc st w, (bc = 666 ∧ bs = 6845 ∧ loc = qx_loc ∧ st = [] ∧ ∃ l9, qx_chkI l9 = true ∧ qx_chkR l9 = true ∧ w = qx_M (qx_B xs (Int32.ofNat L)) (l9, 334)) → qa_G z true 314 1000 20000 0 p l e room_1 s m #[Value.ref b] below meth c (lw_Z below #[Value.ref b] s) bc bs 23 loc st w := by
    rintro bc bs loc st w ⟨rfl, rfl, rfl, rfl, l9, hcI, hcR, rfl⟩
    intro H locs cells slots ls hR hS hLo hV h1 h2 h3 h4
    exact qa_BL hI (hF false) hret hlk z1 (Nat.le_of_ble_eq_true rfl) (Nat.le_of_ble_eq_true rfl) f 1200 666 6845 23 qx_loc [] (qx_0 xs (Int32.ofNat L)) (Nat.le_of_ble_eq_true rfl) (Nat.le_of_ble_eq_true rfl) hlp H locs cells slots ls (qx_switch hcI hcR hR) hS (qa_lo_le (s := qx_M (qx_B xs (Int32.ofNat L)) (l9, 334)) (s' := qx_0 xs (Int32.ofNat L)) (Nat.le_refl 334) hLo) trivial h1 h2 (Nat.zero_le _) (fun q => by cases q)
  have hG := qa_BS (fun f => qa_B_all (fun q => by cases q) f) (hF true) hK2 6000 1200 1000 20000 0 _ [] _ (Nat.le_of_ble_eq_true rfl) (Nat.le_of_ble_eq_true rfl) (qx_law (xs := xs) (L := Int32.ofNat L) (fun l9 h1 h2 => ⟨rfl, rfl, rfl, rfl, l9, h1, h2, rfl⟩))
  have hR0 : qa_Rel z true (qx_M (qx_B xs (Int32.ofNat L)) ([], 0)) s.heap := by
    refine ⟨Nat.zero_le _, fun k q hq => ?_, hb0, fun _ => by rw [z1]; rfl, fun k i j r hk hv hi hr => ?_, fun j hj => ?_, ?_⟩
    · cases hq
    · exact absurd (hv.1 hk).1 (Nat.not_lt_zero _)
    · rw [z3]
      rfl
    · rw [z2]
      rfl
  rw [lg_entry_eq]
  have hval : ([lR 65 (some 0)].map (qa_val z)) = [Value.ref b] := by
    show [Value.ref (z.2.2.2.1 65 0)] = _
    rw [z4]
  have hlo := qa_lo_mk (z := z) (w := qx_M (qx_B xs (Int32.ofNat L)) ([], 0)) (As := [lR 65 (some 0)]) (n := 7) (fun v hv => by
    rcases List.mem_cons.mp hv with rfl | hv
    · exact ⟨fun q => absurd q (by decide), fun _ => ⟨by decide, Or.inl rfl⟩⟩
    · cases hv) (Nat.le_of_ble_eq_true rfl)
  rw [hval] at hlo
  exact hG s.heap [] 0 0 _ hR0 va_S.rf hlo trivial (Nat.zero_add _) (Nat.zero_add _) (Nat.le_refl 0) (fun _ => rfl)
