/-! DitchOpen.reach, that may throw, and DitchOpenLaw.reach, that catches. -/
theorem dX11_reach_0 : decode cX11_reach 0 = .ok (.aload_n 0, 1) := by decide +kernel
theorem dX11_reach_1 : decode cX11_reach 1 = .ok (.iload_n 1, 1) := by decide +kernel
theorem dX11_reach_2 : decode cX11_reach 2 = .ok (.invokevirtual 147, 3) := by decide +kernel
theorem dX11_reach_5 : decode cX11_reach 5 = .ok (.astore 4, 2) := by decide +kernel
theorem dX11_reach_7 : decode cX11_reach 7 = .ok (.aload 4, 2) := by decide +kernel
theorem dX11_reach_9 : decode cX11_reach 9 = .ok (.ifnull 18, 3) := by decide +kernel
theorem dX11_reach_12 : decode cX11_reach 12 = .ok (.iload_n 2, 1) := by decide +kernel
theorem dX11_reach_13 : decode cX11_reach 13 = .ok (.iconst (-1), 1) := by decide +kernel
theorem dX11_reach_14 : decode cX11_reach 14 = .ok (.if_icmp .ne 13, 3) := by decide +kernel
theorem dX11_reach_17 : decode cX11_reach 17 = .ok (.iload_n 3, 1) := by decide +kernel
theorem dX11_reach_18 : decode cX11_reach 18 = .ok (.ifCond .ne 9, 3) := by decide +kernel
theorem dX11_reach_21 : decode cX11_reach 21 = .ok (.aload 4, 2) := by decide +kernel
theorem dX11_reach_23 : decode cX11_reach 23 = .ok (.invokevirtual 150, 3) := by decide +kernel
theorem dX11_reach_26 : decode cX11_reach 26 = .ok (.ireturn, 1) := by decide +kernel
theorem dX11_reach_27 : decode cX11_reach 27 = .ok (.aload 4, 2) := by decide +kernel
theorem dX11_reach_29 : decode cX11_reach 29 = .ok (.ifnonnull 7, 3) := by decide +kernel
theorem dX11_reach_32 : decode cX11_reach 32 = .ok (.iconst (-1), 1) := by decide +kernel
theorem dX11_reach_33 : decode cX11_reach 33 = .ok (.goto 10, 3) := by decide +kernel
theorem dX11_reach_36 : decode cX11_reach 36 = .ok (.aload 4, 2) := by decide +kernel
theorem dX11_reach_38 : decode cX11_reach 38 = .ok (.iload_n 2, 1) := by decide +kernel
theorem dX11_reach_39 : decode cX11_reach 39 = .ok (.iload_n 3, 1) := by decide +kernel
theorem dX11_reach_40 : decode cX11_reach 40 = .ok (.invokevirtual 153, 3) := by decide +kernel
theorem dX11_reach_43 : decode cX11_reach 43 = .ok (.istore 5, 2) := by decide +kernel
theorem dX11_reach_45 : decode cX11_reach 45 = .ok (.iload 5, 2) := by decide +kernel
theorem dX11_reach_47 : decode cX11_reach 47 = .ok (.iconst (-1), 1) := by decide +kernel
theorem dX11_reach_48 : decode cX11_reach 48 = .ok (.if_icmp .ne 11, 3) := by decide +kernel
theorem dX11_reach_51 : decode cX11_reach 51 = .ok (.new 157, 3) := by decide +kernel
theorem dX11_reach_54 : decode cX11_reach 54 = .ok (.dup, 1) := by decide +kernel
theorem dX11_reach_55 : decode cX11_reach 55 = .ok (.invokespecial 159, 3) := by decide +kernel
theorem dX11_reach_58 : decode cX11_reach 58 = .ok (.athrow, 1) := by decide +kernel
theorem dX11_reach_59 : decode cX11_reach 59 = .ok (.iload 5, 2) := by decide +kernel
theorem dX11_reach_61 : decode cX11_reach 61 = .ok (.ireturn, 1) := by decide +kernel
theorem dL_reach_0 : decode cL_reach 0 = .ok (.aload 4, 2) := by decide +kernel
theorem dL_reach_2 : decode cL_reach 2 = .ok (.iconst 0, 1) := by decide +kernel
theorem dL_reach_3 : decode cL_reach 3 = .ok (.aload_n 0, 1) := by decide +kernel
theorem dL_reach_4 : decode cL_reach 4 = .ok (.iload_n 1, 1) := by decide +kernel
theorem dL_reach_5 : decode cL_reach 5 = .ok (.iload_n 2, 1) := by decide +kernel
theorem dL_reach_6 : decode cL_reach 6 = .ok (.iload_n 3, 1) := by decide +kernel
theorem dL_reach_7 : decode cL_reach 7 = .ok (.invokevirtual 7, 3) := by decide +kernel
theorem dL_reach_10 : decode cL_reach 10 = .ok (.i2l, 1) := by decide +kernel
theorem dL_reach_11 : decode cL_reach 11 = .ok (.lastore, 1) := by decide +kernel
theorem dL_reach_12 : decode cL_reach 12 = .ok (.goto 7, 3) := by decide +kernel
theorem dL_reach_15 : decode cL_reach 15 = .ok (.astore 5, 2) := by decide +kernel
theorem dL_reach_17 : decode cL_reach 17 = .ok (.iconst 1, 1) := by decide +kernel
theorem dL_reach_18 : decode cL_reach 18 = .ok (.ireturn, 1) := by decide +kernel
theorem dL_reach_19 : decode cL_reach 19 = .ok (.iconst 0, 1) := by decide +kernel
theorem dL_reach_20 : decode cL_reach 20 = .ok (.ireturn, 1) := by decide +kernel
theorem qr_lt {a b : Int32} {n : Int} (h : a < b) (hb : b.toInt = n) : a.toInt < n := by
  rw [← hb]
  exact Int32.lt_iff_toInt_lt.mp h
theorem qr_find {d : Nat} {w : LMem} {n : Int32} {Q : LPost} (hQ : Q (some (lR 4 (if n < gI w 15 0 0 ∧ ¬ n < 0 ∧ n < 5 then some n.toNatClampNeg else none))) w) : qa_wy false true 80 (d + 3) 151 0 0 0 (qa_mk [lR 0 (some 0), lI n] 2) [] w Q := by
  refine And.intro (fun h => absurd h (by decide)) (fun _ => ?_)
  refine And.intro (fun _ => ?_) (fun h => absurd (by decide) h)
  refine And.intro (fun _ => ?_) (fun h => absurd (by decide) h)
  refine And.intro (Or.inr rfl) (Exists.intro _ (And.intro rfl ?_))
  refine And.intro (fun h => absurd h (by decide)) (fun _ => ?_)
  refine And.intro (show qa_vin 0 3 from fun q => by rcases q with q | q <;> exact absurd q (by decide)) ?_
  refine Exists.intro _ (And.intro rfl ?_)
  refine And.intro (fun h1 => ?_) (fun h1 => ?_)
  · refine And.intro (fun h2 => ?_) (fun h2 => ?_)
    · refine Or.inl (And.intro rfl ?_)
      rw [if_neg (fun q => q.2.1 h2)] at hQ
      exact hQ
    · refine And.intro (fun h3 => ?_) (fun h3 => ?_)
      · refine And.intro (fun q => ?_) (Or.inr (Exists.intro _ (And.intro rfl ?_)))
        · rcases q with q | q
          · exact h2 q
          · have h4 : n.toInt < 5 := qr_lt h3 (by decide)
            have h5 : 5 ≤ n.toInt.toNat := q
            omega
        · rw [if_pos ⟨h1, h2, h3⟩] at hQ
          exact hQ
      · refine Or.inl (And.intro rfl ?_)
        rw [if_neg (fun q => h3 q.2.2)] at hQ
        exact hQ
  · rw [if_neg (fun q => h1 q.1)] at hQ
    exact hQ
theorem qr_reaches {d i : Nat} {w : LMem} {Q : LPost} (hQ : Q (some (lI (gI w 4 i 1))) w) : qa_wy false true 80 d 1 0 0 0 (qa_mk [lR 4 (some i)] 1) [] w Q := hQ
theorem qr_tells {d i : Nat} {w : LMem} {r x : Int32} {Q : LPost} (hQ : Q (some (lI (if ¬ r < 0 ∧ r < gI w 4 i 1 ∧ r < 20 ∧ ¬ x < 0 ∧ x < 5 then gI w 6 (20 * i + r.toNatClampNeg) x.toNatClampNeg else -1))) w) : qa_wy false true 80 d 2 0 0 0 (qa_mk [lR 4 (some i), lI r, lI x] 4) [] w Q := by
  refine And.intro (fun h => ?_) (fun h1 => ?_)
  · refine And.intro (fun _ => ?_) (fun q => absurd rfl q)
    rw [if_neg (fun q => q.1 h)] at hQ
    exact hQ
  refine And.intro (fun h2 => ?_) (fun h => ?_)
  case refine_2 =>
    refine And.intro (fun _ => ?_) (fun q => absurd rfl q)
    rw [if_neg (fun q => h q.2.1)] at hQ
    exact hQ
  refine And.intro (fun h3 => ?_) (fun h => ?_)
  case refine_2 =>
    refine And.intro (fun _ => ?_) (fun q => absurd rfl q)
    rw [if_neg (fun q => h q.2.2.1)] at hQ
    exact hQ
  refine And.intro (fun h => absurd h (by decide)) (fun _ => ?_)
  refine And.intro (fun h => ?_) (fun h4 => ?_)
  · rw [if_neg (fun q => q.2.2.2.1 h)] at hQ
    exact hQ
  have hv1 : qa_vin r 20 := fun q => by
    rcases q with q | q
    · exact h1 q
    · have g1 : r.toInt < 20 := qr_lt h3 (by decide)
      have g2 : 20 ≤ r.toInt.toNat := q
      omega
  refine And.intro hv1 ?_
  refine And.intro (fun h5 => ?_) (fun h => ?_)
  case refine_2 =>
    rw [if_neg (fun q => h q.2.2.2.2)] at hQ
    exact hQ
  refine And.intro hv1 (And.intro (fun q => ?_) ?_)
  · rcases q with q | q
    · exact h4 q
    · have g1 : x.toInt < 5 := qr_lt h5 (by decide)
      have g2 : 5 ≤ x.toInt.toNat := q
      omega
  · rw [if_pos ⟨h1, h2, h3, h4, h5⟩] at hQ
    exact hQ
theorem qr_w1 : Cond.methodLink RX11 147 (qa_y 151) ∈ qa_W ∧ Cond.instanceMethod (qa_y 151) ∈ qa_W ∧ Cond.selects RX11 (qa_y 151) (qa_y 151) ∈ qa_W := ⟨qa_mW (by decide +kernel), qa_mW (by decide +kernel), qa_mW (by decide +kernel)⟩
theorem qr_w2 : Cond.methodLink RX11 150 (qa_y 1) ∈ qa_W ∧ Cond.instanceMethod (qa_y 1) ∈ qa_W ∧ Cond.selects RX0 (qa_y 1) (qa_y 1) ∈ qa_W := ⟨qa_mW (by decide +kernel), qa_mW (by decide +kernel), qa_mW (by decide +kernel)⟩
theorem qr_w3 : Cond.methodLink RX11 153 (qa_y 2) ∈ qa_W ∧ Cond.instanceMethod (qa_y 2) ∈ qa_W ∧ Cond.selects RX0 (qa_y 2) (qa_y 2) ∈ qa_W := ⟨qa_mW (by decide +kernel), qa_mW (by decide +kernel), qa_mW (by decide +kernel)⟩
theorem qr_i11 : Cond.initialized RX11 ∈ qa_W := qa_mW (by decide +kernel)
theorem qr_i0 : Cond.initialized RX0 ∈ qa_W := qa_mW (by decide +kernel)
abbrev qr_E : String := "java/util/NoSuchElementException"
theorem qr_k1 : Cond.classLink RX11 157 qr_E ∈ qa_W ∧ Cond.initialized qr_E ∈ qa_W := ⟨qa_mW (by decide +kernel), qa_mW (by decide +kernel)⟩
theorem qr_th : qa_thw.all (fun w => !goodWord w || (decide (w ∈ lw_tbl) && goodWord w)) = true := by decide +kernel
/-- what DitchOpen.reach does -/
def qr_post (w : LMem) (d r x : Int32) : Int32 → Unit → Prop := fun v _ => qa_rOK w d r x ∧ v = qa_rV w d r x
def qr_B (z : qa_S) (w : LMem) : Unit → State → Prop := fun _ t => qa_Rel z false w t.heap
def qr_BX (z : qa_S) (w : LMem) : String → Unit → State → Prop := fun E _ t => E = qr_E ∧ qa_Rel z false w t.heap
def qr_rm : Room := { frames := 10, cells := 1, slots := 6, locals := 640 }
theorem qr_not1 {w : LMem} {d r x : Int32} (h : ¬ (d < gI w 15 0 0 ∧ ¬ d < 0 ∧ d < 5)) : ¬ qa_rOK w d r x := fun q => h ⟨q.1.2.2, Int32.not_lt.mpr q.1.1, q.1.2.1⟩
theorem qr_not2 {w : LMem} {d r x : Int32} (h0 : ¬ (r = -1 ∧ x = 0)) (h : (if ¬ r < 0 ∧ r < gI w 4 d.toNatClampNeg 1 ∧ r < 20 ∧ ¬ x < 0 ∧ x < 5 then gI w 6 (20 * d.toNatClampNeg + r.toNatClampNeg) x.toNatClampNeg else -1) = -1) : ¬ qa_rOK w d r x := by
  rintro ⟨-, h1 | ⟨g1, g2, g3, g4, g5, g6⟩⟩
  · exact h0 h1
  · rw [if_pos ⟨Int32.not_lt.mpr g1, g2, g3, Int32.not_lt.mpr g4, g5⟩] at h
    exact g6 h
theorem qr_yes2 {w : LMem} {d r x : Int32} (hf : d < gI w 15 0 0 ∧ ¬ d < 0 ∧ d < 5) (h0 : ¬ (r = -1 ∧ x = 0)) (h : ¬ (if ¬ r < 0 ∧ r < gI w 4 d.toNatClampNeg 1 ∧ r < 20 ∧ ¬ x < 0 ∧ x < 5 then gI w 6 (20 * d.toNatClampNeg + r.toNatClampNeg) x.toNatClampNeg else -1) = -1) :
    qa_rOK w d r x ∧ (if ¬ r < 0 ∧ r < gI w 4 d.toNatClampNeg 1 ∧ r < 20 ∧ ¬ x < 0 ∧ x < 5 then gI w 6 (20 * d.toNatClampNeg + r.toNatClampNeg) x.toNatClampNeg else -1) = qa_rV w d r x := by
  by_cases hc : ¬ r < 0 ∧ r < gI w 4 d.toNatClampNeg 1 ∧ r < 20 ∧ ¬ x < 0 ∧ x < 5
  · rw [if_pos hc] at h ⊢
    refine ⟨⟨⟨Int32.not_lt.mp hf.2.1, hf.2.2, hf.1⟩, Or.inr ⟨Int32.not_lt.mp hc.1, hc.2.1, hc.2.2.1, Int32.not_lt.mp hc.2.2.2.1, hc.2.2.2.2, h⟩⟩, ?_⟩
    unfold qa_rV
    rw [if_neg h0]
  · rw [if_neg hc] at h
    exact absurd rfl h
theorem qr_yes1 {w : LMem} {d r x : Int32} (hf : d < gI w 15 0 0 ∧ ¬ d < 0 ∧ d < 5) (h0 : r = -1 ∧ x = 0) : qa_rOK w d r x ∧ gI w 4 d.toNatClampNeg 1 = qa_rV w d r x := by
  refine ⟨⟨⟨Int32.not_lt.mp hf.2.1, hf.2.2, hf.1⟩, Or.inl h0⟩, ?_⟩
  unfold qa_rV
  rw [if_pos h0]
theorem qr_recv {z : qa_S} {w : LMem} {s : State} {H : Heap} {k i : Nat} (hk : k < 60) (ho : qa_oc k < 13) (hv : qa_vd w k i) (hK : va_K z.1 vwCl (qa_tys z) s) (hR : qa_Rel z false w H) : ∃ cellB : Cell, H[qa_rho z k i]? = some cellB ∧ cellB.vm.isStatics = false ∧ s.vm.findClass (qa_own (qa_oc k)) = some cellB.cls := by
  have he := qa_wl_get (z := z) (ph := false) hk hv
  unfold qa_ce at he
  rw [qa_blt ho] at he
  exact va_recv hK hR.2.1 (qa_cl_get _ ho) he
theorem qr_ext {z : qa_S} {w : LMem} {H H1 : Heap} (hR : qa_Rel z false w H) (hs : H.size ≤ H1.size) (ho : ∀ q : Nat, q < H.size → H1[q]? = H[q]?) : qa_Rel z false w H1 := by
  obtain ⟨h1, h2, h3, h4, h5, h6, h7⟩ := hR
  exact ⟨h1, h2.kept (fun k q hk => ho q.1 ((h2 k q hk).lt)), Nat.le_trans h3 hs, (fun q => by cases q), h5, h6, h7⟩
theorem qr_hat {z : qa_S} {s : State} {args : Array Value} (hW : ∀ x ∈ qa_W, x.before args s = true) (hSF : qa_SF z s s.heap) : ∀ w ∈ qa_thw, w.before args s = true := by
  intro w hw
  cases hg : goodWord w with
  | true =>
    have h1 := List.all_eq_true.mp qr_th w hw
    rw [hg] at h1
    refine hW w (qa_mW ?_)
    rw [hg]
    simpa using h1
  | false =>
    have h1 := (qa_and (List.all_eq_true.mp qa_thw9 w hw)).2
    rw [hg] at h1
    have h2 := hSF.2.2.2.2.2.1.2.1 w hw hg
    cases w <;> first | (cases h1; done) | exact va_Nw.use rfl h2
section QRT
variable {p : Program} {l : Launch} {e : Env} {s : State} {m : MethodId} {args : Array Value} {below : List Frame} {meth : Method} {c : Code} {z : qa_S} {w : LMem} {H : Heap} {locs : List Loc} {d r x : Int32}
/-- the throw -/
theorem qr_throw (hx : p.tables.exec = Jvm.exec) (hb : c.code = cX11_reach) (hl9 : l.stackTraces = false) (hml : c.maxLocals = 6) (hown : s.vm.findClass RX11 = some m.cls) (hW : ∀ x ∈ qa_W, x.before args s = true) (hSF : qa_SF z s s.heap) (htb : ∀ x ∈ c.exceptionTable.toList, False) (hlk : meth.locks = false) (hR : qa_Rel z false w H) (hS : va_S (qa_A z) s.heap H locs) (hno : ¬ qa_rOK w d r x) {ls : Array Slot} (hls : ls.size = 6) :
    W p l e qr_rm s m args below meth c H locs 0 0 (vx_MQ below (va_Qi (qr_post w d r x) (qr_B z w) (qa_A z)) (vx_X (fun _ : Unit => ¬ qa_rOK w d r x) (qr_BX z w) (qa_A z)) args s 1 6 (qa_A z)) (F0 m 51 ls []) := by
  refine vx_throw0 (cls := qr_E) (names := ["java/lang/RuntimeException", "java/lang/Exception"]) (A := qa_A z) hx hb hl9 hown (by decide +kernel) (by decide +kernel) (hW _ qr_k1.1) (hW _ qr_k1.2) (qr_hat hW hSF) (fun w hw => ?_) hSF.2.2.2.2.2.1.2.2.1 hSF.2.2.2.2.2.1.2.2.2 hS (by rw [hml]; exact hls) dX11_reach_51 dX11_reach_54 dX11_reach_55 dX11_reach_58 (fun x hx => (htb x hx).elim) (by decide) (by decide) (by decide) (by decide) hlk (fun t hal hs ho => ?_) hS.2.2 (by decide) (by decide)
  · rcases List.mem_cons.mp hw with rfl | hw
    · rfl
    · rcases List.mem_cons.mp hw with rfl | hw
      · rfl
      · exact (qa_and (List.all_eq_true.mp qa_thw9 w hw)).1
  · exact ⟨(), hno, ⟨rfl, qr_ext hR hs ho⟩, Nat.le_trans hS.1 hs, fun q h1 h2 => (ho q (Nat.lt_of_lt_of_le h1 hS.1)).trans (hS.2.1 q h1 h2)⟩
theorem qr_ret {v : Int32} {pc : Nat} {ls : Array Slot} (hx : p.tables.exec = Jvm.exec) (hb : c.code = cX11_reach) (hr : meth.sig.returnType = some .int) (hlk : meth.locks = false) (hR : qa_Rel z false w H) (hS : va_S (qa_A z) s.heap H locs) (hv : qa_rOK w d r x ∧ v = qa_rV w d r x) (hdg : decode cX11_reach pc = .ok (.ireturn, 1)) :
    W p l e qr_rm s m args below meth c H locs 0 0 (vx_MQ below (va_Qi (qr_post w d r x) (qr_B z w) (qa_A z)) (vx_X (fun _ : Unit => ¬ qa_rOK w d r x) (qr_BX z w) (qa_A z)) args s 1 6 (qa_A z)) (F0 m pc ls [.int v]) := by
  refine vx_ret (W.widen (k := 1) (n := 6) (by decide) (by decide) ?_)
  exact W.iret hx hb hr (fun t ht _ => ⟨⟨v, (), rfl, hv, by show qa_Rel z false w t.heap; rw [ht]; exact hR⟩, hS.F ht⟩) hS.2.2 hdg hlk
end QRT
set_option maxHeartbeats 1000000 in
theorem qr_reach {l : Launch} {z : qa_S} {w : LMem} {d r x : Int32} (hl9 : l.stackTraces = false) (hvd0 : qa_vd w 0 0) : vx_Met l yX11_reach (.code yX11_reach cX11_reach 6 (some .int) :: qa_W) qr_rm (qa_Pc z false [lR 0 (some 0), lI d, lI r, lI x] w) (va_Qi (qr_post w d r x) (qr_B z w) (qa_A z)) (vx_X (fun _ : Unit => ¬ qa_rOK w d r x) (qr_BX z w) (qa_A z)) 1 6 (qa_A z) := by
  refine vx_ofW (cc := cX11_reach) (maxL := 6) (ret := some .int) (by decide) rfl ?_
  intro p e s m args below meth cc s₁ B hml htb hpc
  obtain ⟨rfl, hK, hSF, hR⟩ := hpc
  have hts := atoms_spec (ws := .code yX11_reach cX11_reach 6 (some .int) :: qa_W) B.pre
  have hW : ∀ x ∈ qa_W, x.before _ s = true := fun x hx => hts x (List.mem_cons_of_mem _ hx)
  have hown : s.vm.findClass RX11 = some m.cls := findClass_of_methodNamed B.named
  rw [lg_entry_eq]
  have hl := lv_entry ([lR 0 (some 0), lI d, lI r, lI x].map (qa_val z)) (n := 6) (Nat.le_of_ble_eq_true rfl)
  have hfix : CallFix p m cc cX11_reach 6 s (([lR 0 (some 0), lI d, lI r, lI x].map (qa_val z)).toArray) qa_W RX11 := ⟨B.exec, B.bytes, hml, hown, hW⟩
  have hBN : qa_B z false true l 80 := qa_B_all (fun q => by cases q) 80
  refine lv_aload_n B.exec B.bytes dX11_reach_0 rfl (lv_at hl 0 rfl) ?_
  refine lv_iload_n B.exec B.bytes dX11_reach_1 rfl (lv_at hl 1 rfl) ?_
  have hM1 : Met l (qa_y 151) (.code (qa_y 151) (qa_code 151) (qa_mL 151) (qa_ret 151) :: qa_W) (qj_rm 4) (qa_Pc z false [lR 0 (some 0), lI d] w) (qa_Qc z false (gN w) 0 (fun r' w' => r' = some (lR 4 (if d < gI w 15 0 0 ∧ ¬ d < 0 ∧ d < 5 then some d.toNatClampNeg else none)) ∧ w' = w)) 0 0 (qa_A z) :=
    qa_met (d := 3) (As := [lR 0 (some 0), lI d]) hBN (by decide) (fun v hv => by
      rcases List.mem_cons.mp hv with rfl | hv
      · exact hvd0
      · rcases List.mem_cons.mp hv with rfl | hv
        · trivial
        · cases hv) (Nat.le_of_ble_eq_true rfl) (qr_find (d := 0) ⟨rfl, rfl⟩)
  have hc1 := qj_runV (R := qr_rm) (l := l) (e := e) (below := below) (meth := meth) (H := s.heap) (locs := []) (cells := 0) (slots := 0) (As := [.int d]) (rest := []) (pc := 2) hfix hM1 (qa_cd 151 (by decide)) qr_i11 qr_w1 (by decide) rfl (⟨qa_Pc_blind, qr_recv (k := 0) (i := 0) (by decide) (by decide) hvd0 hK hR, qj_pre (As := [lR 0 (some 0), lI d]) hK hSF hR va_S.rf⟩ : PreV s s.heap RX11 (qa_rho z 0 0) (qa_Pc z false [lR 0 (some 0), lI d] w) [.int d]) (by decide) (by decide) rfl hl.1 (by decide) dX11_reach_2 (by decide) (by decide)
  refine qa_callW (Q' := fun r' w' => r' = some (lR 4 (if d < gI w 15 0 0 ∧ ¬ d < 0 ∧ d < 5 then some d.toNatClampNeg else none)) ∧ w' = w) hc1 va_S.rf (fun r' w' H1 locs1 hq hR1 k1 k2 k3 hS1 => ?_)
  obtain ⟨hr', hw'⟩ := hq
  subst hw'
  subst hr'
  by_cases hf : d < gI w' 15 0 0 ∧ ¬ d < 0 ∧ d < 5
  · rw [if_pos hf] at k3 ⊢
    have hvd : qa_vd w' 4 d.toNatClampNeg := k3 _ rfl
    refine lv_astore B.exec B.bytes dX11_reach_5 hl (by decide) rfl (fun ls1 hl1 => ?_)
    have h27 : ¬ (r = -1 ∧ x = 0) → W p l e qr_rm s m (([lR 0 (some 0), lI d, lI r, lI x].map (qa_val z)).toArray) below meth cc H1 locs1 0 0 (vx_MQ below (va_Qi (qr_post w' d r x) (qr_B z w') (qa_A z)) (vx_X (fun _ : Unit => ¬ qa_rOK w' d r x) (qr_BX z w') (qa_A z)) (([lR 0 (some 0), lI d, lI r, lI x].map (qa_val z)).toArray) s 1 6 (qa_A z)) (F0 m 27 ls1 []) := by
      intro h0
      refine lv_aload B.exec B.bytes dX11_reach_27 (lv_at hl1 0 rfl) ?_
      refine lv_ifnonnull B.exec B.bytes dX11_reach_29 (tgt := 36) rfl ?_
      refine lv_aload B.exec B.bytes dX11_reach_36 (lv_at hl1 0 rfl) ?_
      refine lv_iload_n B.exec B.bytes dX11_reach_38 rfl (lv_at hl1 3 rfl) ?_
      refine lv_iload_n B.exec B.bytes dX11_reach_39 rfl (lv_at hl1 4 rfl) ?_
      have hM3 : Met l (qa_y 2) (.code (qa_y 2) (qa_code 2) (qa_mL 2) (qa_ret 2) :: qa_W) (qj_rm 1) (qa_Pc z false [lR 4 (some d.toNatClampNeg), lI r, lI x] w') (qa_Qc z false (gN w') 0 (fun r' w9 => r' = some (lI (if ¬ r < 0 ∧ r < gI w' 4 d.toNatClampNeg 1 ∧ r < 20 ∧ ¬ x < 0 ∧ x < 5 then gI w' 6 (20 * d.toNatClampNeg + r.toNatClampNeg) x.toNatClampNeg else -1)) ∧ w9 = w')) 0 0 (qa_A z) :=
        qa_met (d := 0) (As := [lR 4 (some d.toNatClampNeg), lI r, lI x]) hBN (by decide) (fun v hv => by
          rcases List.mem_cons.mp hv with rfl | hv
          · exact hvd
          · rcases List.mem_cons.mp hv with rfl | hv
            · trivial
            · rcases List.mem_cons.mp hv with rfl | hv
              · trivial
              · cases hv) (Nat.le_of_ble_eq_true rfl) (qr_tells ⟨rfl, rfl⟩)
      have hc3 := qj_runV (R := qr_rm) (l := l) (e := e) (below := below) (meth := meth) (H := H1) (locs := locs1) (cells := 0) (slots := 0) (As := [.int r, .int x]) (rest := []) (pc := 40) hfix hM3 (qa_cd 2 (by decide)) qr_i0 qr_w3 (by decide) rfl (⟨qa_Pc_blind, qr_recv (k := 4) (by decide) (by decide) hvd hK hR1, qj_pre (As := [lR 4 (some d.toNatClampNeg), lI r, lI x]) hK hSF hR1 hS1⟩ : PreV s H1 RX0 (qa_rho z 4 d.toNatClampNeg) (qa_Pc z false [lR 4 (some d.toNatClampNeg), lI r, lI x] w') [.int r, .int x]) (by decide) (by decide) rfl hl1.1 (by decide) dX11_reach_40 (by decide) (by decide)
      refine qa_callW (Q' := fun r' w9 => r' = some (lI (if ¬ r < 0 ∧ r < gI w' 4 d.toNatClampNeg 1 ∧ r < 20 ∧ ¬ x < 0 ∧ x < 5 then gI w' 6 (20 * d.toNatClampNeg + r.toNatClampNeg) x.toNatClampNeg else -1)) ∧ w9 = w') hc3 hS1 (fun r' w9 H2 locs2 hq2 hR2 k4 k5 k6 hS2 => ?_)
      obtain ⟨hr9, hw9⟩ := hq2
      subst hw9
      subst hr9
      refine lv_istore B.exec B.bytes dX11_reach_43 hl1 (by decide) rfl (fun ls2 hl2 => ?_)
      refine lv_iload B.exec B.bytes dX11_reach_45 (lv_at hl2 0 rfl) ?_
      refine lv_iconst B.exec B.bytes dX11_reach_47 (v := -1) rfl ?_
      refine lv_icmp_ne B.exec B.bytes dX11_reach_48 (tgt := 59) rfl (fun h => ?_) (fun h => ?_)
      · refine lv_iload B.exec B.bytes dX11_reach_59 (lv_at hl2 0 rfl) ?_
        exact qr_ret B.exec B.bytes B.returns B.notSynchronized hR2 hS2 (qr_yes2 hf h0 h) dX11_reach_61
      · exact qr_throw B.exec B.bytes hl9 hml hown hW hSF htb B.notSynchronized hR2 hS2 (qr_not2 h0 h) hl2.1
    refine lv_aload B.exec B.bytes dX11_reach_7 (lv_at hl1 0 rfl) ?_
    refine lv_ifnull B.exec B.bytes dX11_reach_9 ?_
    refine lv_iload_n B.exec B.bytes dX11_reach_12 rfl (lv_at hl1 3 rfl) ?_
    refine lv_iconst B.exec B.bytes dX11_reach_13 (v := -1) rfl ?_
    refine lv_icmp_ne B.exec B.bytes dX11_reach_14 (tgt := 27) rfl (fun h => h27 (fun q => h q.1)) (fun h => ?_)
    refine lv_iload_n B.exec B.bytes dX11_reach_17 rfl (lv_at hl1 4 rfl) ?_
    refine lv_if_ne B.exec B.bytes dX11_reach_18 (tgt := 27) rfl (fun h2 => h27 (fun q => h2 q.2)) (fun h2 => ?_)
    refine lv_aload B.exec B.bytes dX11_reach_21 (lv_at hl1 0 rfl) ?_
    have hM2 : Met l (qa_y 1) (.code (qa_y 1) (qa_code 1) (qa_mL 1) (qa_ret 1) :: qa_W) (qj_rm 1) (qa_Pc z false [lR 4 (some d.toNatClampNeg)] w') (qa_Qc z false (gN w') 0 (fun r' w9 => r' = some (lI (gI w' 4 d.toNatClampNeg 1)) ∧ w9 = w')) 0 0 (qa_A z) :=
      qa_met (d := 0) (As := [lR 4 (some d.toNatClampNeg)]) hBN (by decide) (fun v hv => by
        rcases List.mem_cons.mp hv with rfl | hv
        · exact hvd
        · cases hv) (Nat.le_of_ble_eq_true rfl) (qr_reaches ⟨rfl, rfl⟩)
    have hc2 := qj_runV (R := qr_rm) (l := l) (e := e) (below := below) (meth := meth) (H := H1) (locs := locs1) (cells := 0) (slots := 0) (As := []) (rest := []) (pc := 23) hfix hM2 (qa_cd 1 (by decide)) qr_i0 qr_w2 (by decide) rfl (⟨qa_Pc_blind, qr_recv (k := 4) (by decide) (by decide) hvd hK hR1, qj_pre (As := [lR 4 (some d.toNatClampNeg)]) hK hSF hR1 hS1⟩ : PreV s H1 RX0 (qa_rho z 4 d.toNatClampNeg) (qa_Pc z false [lR 4 (some d.toNatClampNeg)] w') []) (by decide) (by decide) rfl hl1.1 (by decide) dX11_reach_23 (by decide) (by decide)
    refine qa_callW (Q' := fun r' w9 => r' = some (lI (gI w' 4 d.toNatClampNeg 1)) ∧ w9 = w') hc2 hS1 (fun r' w9 H2 locs2 hq2 hR2 k4 k5 k6 hS2 => ?_)
    obtain ⟨hr9, hw9⟩ := hq2
    subst hw9
    subst hr9
    exact qr_ret B.exec B.bytes B.returns B.notSynchronized hR2 hS2 (qr_yes1 hf ⟨h, h2⟩) dX11_reach_26
  · rw [if_neg hf] at k3 ⊢
    refine lv_astoreN B.exec B.bytes dX11_reach_5 hl (by decide) rfl (fun ls1 hl1 => ?_)
    refine lv_aloadN B.exec B.bytes dX11_reach_7 (lv_at hl1 0 rfl) ?_
    refine lv_ifnullN B.exec B.bytes dX11_reach_9 (tgt := 27) rfl ?_
    refine lv_aloadN B.exec B.bytes dX11_reach_27 (lv_at hl1 0 rfl) ?_
    refine lv_ifnonnullN B.exec B.bytes dX11_reach_29 ?_
    refine lv_iconst B.exec B.bytes dX11_reach_32 (v := -1) rfl ?_
    refine lv_goto B.exec B.bytes dX11_reach_33 (tgt := 43) rfl ?_
    refine lv_istore B.exec B.bytes dX11_reach_43 hl1 (by decide) rfl (fun ls2 hl2 => ?_)
    refine lv_iload B.exec B.bytes dX11_reach_45 (lv_at hl2 0 rfl) ?_
    refine lv_iconst B.exec B.bytes dX11_reach_47 (v := -1) rfl ?_
    refine lv_icmp_ne B.exec B.bytes dX11_reach_48 (tgt := 59) rfl (fun h => absurd rfl h) (fun _ => ?_)
    exact qr_throw B.exec B.bytes hl9 hml hown hW hSF htb B.notSynchronized hR1 hS1 (qr_not1 hf) hl2.1
set_option maxRecDepth 20000 in
theorem qr_cdr : Cond.code yX11_reach cX11_reach 6 (some .int) ∈ qa_W := List.mem_filter.mpr ⟨qa_in6 (List.mem_of_getElem? (i := 62) rfl), rfl⟩
set_option maxRecDepth 20000 in
theorem qr_cdl : Cond.codeWith yL_reach cL_reach 6 (some .int) [(0, 12, 15, 13)] ∈ qa_W := List.mem_filter.mpr ⟨qa_in6 (List.mem_of_getElem? (i := 57) rfl), rfl⟩
theorem qr_v1 : Cond.methodLink RL 7 yX11_reach ∈ qa_W ∧ Cond.instanceMethod yX11_reach ∈ qa_W ∧ Cond.selects RX11 yX11_reach yX11_reach ∈ qa_W := ⟨qa_mW (by decide +kernel), qa_mW (by decide +kernel), qa_mW (by decide +kernel)⟩
theorem qr_k2 : Cond.classLink RL 13 qr_E ∈ qa_W := qa_mW (by decide +kernel)
theorem qr_cast : Cond.castable qr_E qr_E ∈ qa_thw := by decide +kernel
def qr_rmL : Room := { frames := 12, cells := 1, slots := 6, locals := 768 }
set_option maxHeartbeats 1000000 in
theorem qr_law {l : Launch} {z : qa_S} {w : LMem} {d r x : Int32} {Q' : LPost} (hl9 : l.stackTraces = false) (hvd0 : qa_vd w 0 0) (hvd58 : qa_vd w 58 0) (hQ1 : qa_rOK w d r x → Q' (some (lI 0)) (sL w 58 0 0 (qa_rV w d r x).toInt64)) (hQ2 : ¬ qa_rOK w d r x → Q' (some (lI 1)) w) :
    Met l yL_reach (.codeWith yL_reach cL_reach 6 (some .int) [(0, 12, 15, 13)] :: qa_W) qr_rmL (qa_Pc z false [lR 0 (some 0), lI d, lI r, lI x, lR 58 (some 0)] w) (qa_Qc z false (gN w) 1 Q') 1 6 (qa_A z) := by
  refine va_MetW (cc := cL_reach) (maxL := 6) (ret := some .int) (hh := [(0, 12, 15, 13)]) (by decide) rfl ?_
  intro p e s m args below meth cc s₁ B hml hpc
  obtain ⟨rfl, hK, hSF, hR⟩ := hpc
  have hts := atoms_spec (ws := .codeWith yL_reach cL_reach 6 (some .int) [(0, 12, 15, 13)] :: qa_W) B.pre
  have hW : ∀ x ∈ qa_W, x.before _ s = true := fun x hx => hts x (List.mem_cons_of_mem _ hx)
  have hown : s.vm.findClass RL = some m.cls := findClass_of_methodNamed B.named
  have htab := vx_table (x := yL_reach) B (hts _ List.mem_cons_self)
  rw [lg_entry_eq]
  have hl := lv_entry ([lR 0 (some 0), lI d, lI r, lI x, lR 58 (some 0)].map (qa_val z)) (n := 6) (Nat.le_of_ble_eq_true rfl)
  have hfix : CallFix p m cc cL_reach 6 s (([lR 0 (some 0), lI d, lI r, lI x, lR 58 (some 0)].map (qa_val z)).toArray) qa_W RL := ⟨B.exec, B.bytes, hml, hown, hW⟩
  refine lv_aload B.exec B.bytes dL_reach_0 (lv_at hl 4 rfl) ?_
  refine lv_iconst B.exec B.bytes dL_reach_2 (v := 0) rfl ?_
  refine lv_aload_n B.exec B.bytes dL_reach_3 rfl (lv_at hl 0 rfl) ?_
  refine lv_iload_n B.exec B.bytes dL_reach_4 rfl (lv_at hl 1 rfl) ?_
  refine lv_iload_n B.exec B.bytes dL_reach_5 rfl (lv_at hl 2 rfl) ?_
  refine lv_iload_n B.exec B.bytes dL_reach_6 rfl (lv_at hl 3 rfl) ?_
  have hcall := vx_runV (l := l) (e := e) (R := qr_rmL) (below := below) (meth := meth) (H := s.heap) (locs := []) (cells := 0) (slots := 0) (index := 7) (n := 3) (C := RX11) (g := F0 m 7 ((lg_sl ([lR 0 (some 0), lI d, lI r, lI x, lR 58 (some 0)].map (qa_val z)) ++ List.replicate (6 - (lg_sl ([lR 0 (some 0), lI d, lI r, lI x, lR 58 (some 0)].map (qa_val z))).length) Slot.unset).toArray) [.int x, .int r, .int d, .ref (qa_rho z 0 0), .int 0, .ref (qa_rho z 58 0)]) (As := [.int d, .int r, .int x]) (rest := [.int 0, .ref (qa_rho z 58 0)]) hfix (qr_reach (l := l) (z := z) (w := w) (d := d) (r := r) (x := x) hl9 hvd0) ⟨⟨rfl, rfl, by decide, by decide, pay_in hW (qj_good qr_cdr), List.mem_cons_self, hW _ qr_cdr, hW _ qr_i11, by decide, fun sig h9 => by cases h9; rfl, hW _ qr_v1.1⟩, hW _ qr_v1.2.1, hW _ qr_v1.2.2⟩ ⟨qa_Pc_blind, qr_recv (k := 0) (i := 0) (by decide) (by decide) hvd0 hK hR, qj_pre (As := [lR 0 (some 0), lI d, lI r, lI x]) hK hSF hR va_S.rf⟩ rfl rfl hl.1 rfl (lv_room (by show 1 + (1 + 0) ≤ 8; omega)) dL_reach_7 ⟨by decide, by decide⟩
  refine vx_calli hcall va_S.rf (fun q _ h => h) (fun q h => h) (fun q _ h => h) (fun E ce q9 u t H1 locs1 ht hal hpx hbx hsz hold hS1 hce hcv hcl => ?_) (fun v u t H1 locs1 ht hal hp hb hsz hold hS1 => ?_)
  · obtain ⟨hE, hR1⟩ := hbx
    subst hE
    rw [ht] at hR1
    refine vx_catch hown [] ⟨0, 12, 15, 13⟩ [] htab (fun z hz => by cases hz) rfl (by decide) (hW _ qr_k2) (qr_hat hW hSF _ qr_cast) hce hcv hcl ?_
    refine lv_astore B.exec B.bytes dL_reach_15 hl (by decide) rfl (fun ls1 hl1 => ?_)
    refine lv_iconst B.exec B.bytes dL_reach_17 (v := 1) rfl ?_
    exact W.iret B.exec B.bytes B.returns (fun t' ht' _ => ⟨⟨some (lI 1), w, hQ2 hpx, rfl, by rw [ht']; exact hR1, Nat.le_refl _, fun q => (by cases q), fun v hv => by cases hv; trivial⟩, hS1.F ht'⟩) hS1.2.2 dL_reach_18 B.notSynchronized
  · obtain ⟨hok, hv⟩ := hp
    subst hv
    have hR1 : qa_Rel z false w t.heap := hb
    rw [ht] at hR1
    refine lv_i2l B.exec B.bytes dL_reach_10 rfl ?_
    have ha := qa_wl_get (z := z) (ph := false) (k := 58) (by decide) hvd58
    rw [qa_ce_L (by decide) (by decide)] at ha
    have htt := qa_tys_get (z := z) (qa_ti9 58 (by decide)).1
    rw [(qa_ti9 58 (by decide)).2.2.1 (by decide)] at htt
    refine va_last B.exec B.bytes hK hR1.2.1 (qa_wl_D hR1.1) hS1 _ _ ha htt (fun q => by rcases q with q | q <;> exact absurd q (by decide)) dL_reach_11 (fun H2 locs2 hP2 hD2 hS2 => ?_)
    have hce : qa_ce z false (sL w 58 0 0 (qa_rV w d r x).toInt64) 58 0 = .inl (z.2.1 (qa_ti 58), qa_len 58, .inr (.inl (vp_updL (fun j => gL w 58 0 j) (0 : Int32).toNatClampNeg (qa_rV w d r x).toInt64))) := by
      have hf9 : (fun j => gL (sL w 58 0 0 (qa_rV w d r x).toInt64) 58 0 j) = vp_updL (fun j => gL w 58 0 j) (0 : Int32).toNatClampNeg (qa_rV w d r x).toInt64 := by
        funext j
        simp [gL_sL, vp_updL]
      rw [qa_ce_L (by decide) (by decide), hf9]
    have hb0 : z.2.2.1 ≤ s.heap.size := Nat.le_trans (Nat.le_add_right _ _) hR.2.2.1
    have hlow : z.2.2.1 + gN w ≤ H2.size := by
      have hP3 := hP2
      have h8 := qa_wl_set (z := z) (ph := false) (s := w) (s' := sL w 58 0 0 (qa_rV w d r x).toInt64) (k := 58) (i := 0) (by decide) hvd58 hR1.1 rfl (fun k' i' h9 => qa_ce_sL h9) hce
      rw [h8] at hP3
      exact qa_lower (w := sL w 58 0 0 (qa_rV w d r x).toInt64) (Nat.le_trans hb0 hS2.1) hP3
    have hR2 : qa_Rel z false (sL w 58 0 0 (qa_rV w d r x).toInt64) H2 := qa_Rel_sL hR1 (by decide) hvd58 hce hP2 hlow (fun q => by cases q)
    refine lv_goto B.exec B.bytes dL_reach_12 (tgt := 19) rfl ?_
    refine lv_iconst B.exec B.bytes dL_reach_19 (v := 0) rfl ?_
    exact W.iret B.exec B.bytes B.returns (fun t' ht' _ => ⟨⟨some (lI 0), sL w 58 0 0 (qa_rV w d r x).toInt64, hQ1 hok, rfl, by rw [ht']; exact hR2, Nat.le_refl _, fun q => (by cases q), fun v hv => by cases hv; trivial⟩, hS2.F ht'⟩) hS2.2.2 dL_reach_20 B.notSynchronized
theorem qr_inv5 {As : List LV} {w : LMem} {Q' : LPost} (h : qa_intr 1005 As w Q') : ∃ t a, As = [lR 64 (some t), lI a] ∧ (0 ≤ a ∧ a < 256) ∧ Q' (some (lI (qa_ix t a))) w := by
  have h : (match (generalizing := false) As with | [Sum.inr (Sum.inr (64, some t)), Sum.inl a] => (0 ≤ a ∧ a < 256) ∧ Q' (some (lI (qa_ix t a))) w | _ => False) := h
  split at h
  · exact ⟨_, _, rfl, h.1, h.2⟩
  · exact h.elim
theorem qr_inv6 {As : List LV} {w : LMem} {Q' : LPost} (h : qa_intr 1006 As w Q') : ∃ t, As = [lR 64 (some t)] ∧ Q' (some (lI (qa_sl t))) w := by
  have h : (match (generalizing := false) As with | [Sum.inr (Sum.inr (64, some t))] => Q' (some (lI (qa_sl t))) w | _ => False) := h
  split at h
  · exact ⟨_, rfl, h⟩
  · exact h.elim
theorem qr_inv7 {As : List LV} {w : LMem} {Q' : LPost} (h : qa_intr 1007 As w Q') : ∃ d r x, As = [lR 0 (some 0), lI d, lI r, lI x, lR 58 (some 0)] ∧ (qa_rOK w d r x → Q' (some (lI 0)) (sL w 58 0 0 (qa_rV w d r x).toInt64)) ∧ (¬ qa_rOK w d r x → Q' (some (lI 1)) w) := by
  have h : qa_reach As w Q' := h
  unfold qa_reach at h
  split at h
  · exact ⟨_, _, _, rfl, h.1, h.2⟩
  · exact h.elim
/-- THE CALLS THAT ARE TOLD BY WHAT THEY DO -/
theorem qr_hint {l : Launch} {z : qa_S} (hl9 : l.stackTraces = false) : qa_HINT z false l := by
  intro mi p e R s m args below meth c mc ms n0 hF hfr hlo c' na v rk cc cs i pc As w Q' H locs cells slots ls rest h1000 hcase hpm hdg hC hv hlen hcat hR hS hls hcl hsl
  obtain ⟨hx, hb, hml, hown, hts, hnm, hK, hSF, hb0, -⟩ := hF
  obtain ⟨n9, hw⟩ := qa_pmW hpm
  have hfix : CallFix p m c (qa_code mi) (qa_mL mi) s args qa_W (qa_own (qa_ow mi)) := ⟨hx, hb, hml, hown, hts⟩
  have hcat' : ((rest.map (qa_val z)).map fun v => v.category).sum ≤ 8 := by rw [qa_catS]; exact hcat
  obtain ⟨adV, hSt⟩ := hSF.2.2.2.2.1
  rcases hcase with h | h | h
  · cases h
    obtain ⟨t, a, rfl, hC⟩ := qr_inv5 hC
    · have ht : t < 3 := by
        have h9 : qa_vd w 64 t := hv (lR 64 (some t)) List.mem_cons_self
        have := (h9.2 (by decide)).2
        omega
      exact qj_runV (y := yJ0_indexOf_0f7a4) (bytes := cJ0_indexOf_0f7a4) (As := [.int a]) (b := z.2.2.2.1 64 t) (rest := rest.map (qa_val z)) (n := 1) hfix (qj_indexOf1 (l := l) ht hC.1.1 hC.1.2 hC.2) qj_cd_indexOf1 qj_i0 ⟨hw _ List.mem_cons_self, hw _ (List.mem_cons_of_mem _ List.mem_cons_self), hw _ (List.mem_cons_of_mem _ (List.mem_cons_of_mem _ List.mem_cons_self))⟩ (by decide) rfl ⟨qa_Pc_blind, vk_recv hSt ht hS, qj_pre (As := [lR 64 (some t), lI a]) hK hSF hR hS⟩ (by omega) (by omega) rfl hls hcat' hdg hcl hsl
  · cases h
    obtain ⟨t, rfl, hC⟩ := qr_inv6 hC
    · have ht : t < 3 := by
        have h9 : qa_vd w 64 t := hv (lR 64 (some t)) List.mem_cons_self
        have := (h9.2 (by decide)).2
        omega
      exact qj_runV (y := yJ0_length_8abf5) (bytes := cJ0_length_8abf5) (As := []) (b := z.2.2.2.1 64 t) (rest := rest.map (qa_val z)) (n := 0) hfix (qj_length (l := l) ht hC) qj_cd_length qj_i0 ⟨hw _ List.mem_cons_self, hw _ (List.mem_cons_of_mem _ List.mem_cons_self), hw _ (List.mem_cons_of_mem _ (List.mem_cons_of_mem _ List.mem_cons_self))⟩ (by decide) rfl ⟨qa_Pc_blind, vk_recv hSt ht hS, qj_pre (As := [lR 64 (some t)]) hK hSF hR hS⟩ (by omega) (by omega) rfl hls hcat' hdg hcl hsl
  · cases h
    obtain ⟨d, r, x, rfl, hC⟩ := qr_inv7 hC
    · have hv0 : qa_vd w 0 0 := hv (lR 0 (some 0)) List.mem_cons_self
      have hv58 : qa_vd w 58 0 := hv (lR 58 (some 0)) (List.mem_cons_of_mem _ (List.mem_cons_of_mem _ (List.mem_cons_of_mem _ (List.mem_cons_of_mem _ List.mem_cons_self))))
      refine vx_runSW (index := i) (n := 5) (g := F0 m pc ls (([lR 0 (some 0), lI d, lI r, lI x, lR 58 (some 0)].reverse ++ rest).map (qa_val z))) (As := [lR 0 (some 0), lI d, lI r, lI x, lR 58 (some 0)].map (qa_val z)) (rest := rest.map (qa_val z)) hfix (qr_law (l := l) (d := d) (r := r) (x := x) hl9 hv0 hv58 hC.1 hC.2) ⟨⟨rfl, rfl, by show 12 + 1 ≤ R.frames; omega, by show 8 + (6 + 11) + 768 ≤ R.locals; omega, pay_in hts (fun x hx9 => ?_), List.mem_cons_self⟩, hts _ qr_cdl, hts _ (hw _ (List.mem_cons_of_mem _ (List.mem_cons_of_mem _ List.mem_cons_self))), by decide, fun sig h9 => by cases h9; rfl, hts _ (hw _ List.mem_cons_self), hts _ (hw _ (List.mem_cons_of_mem _ List.mem_cons_self))⟩ ⟨qa_Pc_blind, qj_pre (As := [lR 0 (some 0), lI d, lI r, lI x, lR 58 (some 0)]) hK hSF hR hS⟩ rfl rfl hls ?_ (lv_room hcat') hdg ⟨hcl, hsl⟩
      · rcases List.mem_cons.mp hx9 with rfl | hx9
        · exact ⟨qr_cdl, qa_Wgood qr_cdl⟩
        · exact ⟨hx9, qa_Wgood hx9⟩
      · rfl
