/-! becomes; the days that are counted. -/
section BD
variable {d : Nat} {s : LMem} {Q : LPost}
theorem J_cp {m m' : LMem} {i j p : Nat} (h1 : y_sB 17 ((p : Int), (p : Int)) (y_lB 17 ((p : Int), (p : Int))) = true) (h2 : y_sP 17 ((p : Int), (p : Int)) = true) (hJ : y_J x_X m) (hB : y_JB m') : y_J x_X (sI m 17 i p (gI m' 17 j p)) := y_J_sI x_X_cl (q := ((p : Int), (p : Int))) (v := y_lB 17 ((p : Int), (p : Int))) hJ ⟨Int.le_refl _, Int.le_refl _⟩ (y_lB_ok hB ⟨Int.le_refl _, Int.le_refl _⟩) h1 h2
/-- what is dug of one is what is dug of the other -/
def bcK (i j z : Nat) (s m : LMem) : Prop := gR m 17 i 4 = (if 0 < z then some (20 * i) else none) ∧ gI m 17 i 5 = nI z ∧ gI m 17 i 10 = gI s 17 j 10 ∧ gR m 17 i 6 = gR s 17 j 6 ∧ gR m 17 i 7 = gR s 17 j 7 ∧ gL m 17 i 8 = gL s 17 j 8
def bcS (i j : Nat) (m : LMem) : LMem :=
  let a := sL m 17 i 9 (gL m 17 j 9)
  let b := sI a 17 i 10 (gI a 17 j 10)
  let c := sI b 17 i 11 (gI b 17 j 11)
  let e := sI c 17 i 12 (gI c 17 j 12)
  sI e 17 i 13 (gI e 17 j 13)
theorem bcS_J {i j : Nat} {m : LMem} (hJ : y_J x_X m) : y_J x_X (bcS i j m) := by
  have a := y_J_sL (k := 17) (i := i) (j := 9) (x := gL m 17 j 9) hJ
  have b := J_cp (i := i) (j := j) (p := 10) (by decide) (by decide) a a.1
  have c := J_cp (i := i) (j := j) (p := 11) (by decide) (by decide) b b.1
  have e := J_cp (i := i) (j := j) (p := 12) (by decide) (by decide) c c.1
  exact J_cp (i := i) (j := j) (p := 13) (by decide) (by decide) e e.1
theorem bcm_F {i j z : Nat} {sw1 sw2 : List YW} {sb1 sb2 : YCut} {sB1 sB2 se1 : List YCut} {f n1 n2 : Nat}
    (g1 : y_seg yL_34 sw1 sw1 17 60 [] (sb1 :: sB1) se1 f n1 = true) (g2 : y_seg yL_34 sw2 sw2 17 60 [(none, [])] (sb2 :: sB2) [] f n2 = true)
    (e1 : sb1.1 = 8 ∧ sb1.2.1 = [some (.inr (.inr (17, (0, 0), ((i : Int), (i : Int))))), some (.inr (.inr (17, (0, 0), ((j : Int), (j : Int))))), none, none] ∧ sb1.2.2.1 = [])
    (e2 : ∃ o2 o3, se1 = [(44, [some (.inr (.inr (17, (0, 0), ((i : Int), (i : Int))))), some (.inr (.inr (17, (0, 0), ((j : Int), (j : Int))))), o2, o3], [], [])] ∧ o2 = none ∧ o3 = none)
    (e3 : sb2.1 = 102 ∧ sb2.2.1 = [some (.inr (.inr (17, (0, 0), ((i : Int), (i : Int))))), some (.inr (.inr (17, (0, 0), ((j : Int), (j : Int))))), none, some (.inl (0, 6))] ∧ sb2.2.2.1 = [])
    (w1 : (sw1.all fun w => !(Nat.beq w.1 17)) = true) (w2 : (sw2.all fun w => !(Nat.beq w.1 17)) = true)
    (hd : 62 ≤ d) (hi : i ≤ 2) (hj : j ≤ 2) (hij : i ≠ j) (hJ : y_J x_X s) (hz : z ≤ 20) (hn : gI s 17 j 5 = nI z) (h : ∀ m, bcK i j z s m → Q none m) : qC false (d + 1) 17 [lR 17 (some i), lR 17 (some j)] s Q := by
  obtain ⟨d, rfl⟩ : ∃ d', d = d' + 1 := ⟨d - 1, by omega⟩
  have off : ∀ {W : List YW} {a b : LMem}, (W.all fun w => !(Nat.beq w.1 17)) = true → y_Fr W a b → ∀ p q, gI b 17 p q = gI a 17 p q ∧ gL b 17 p q = gL a 17 p q ∧ gR b 17 p q = gR a 17 p q := fun hW F p q => F 17 p q (fun ⟨w, hw, e, _⟩ => by
    have r := List.all_eq_true.mp hW w hw
    rw [e] at r
    exact absurd r (by decide))
  obtain ⟨a1, a2, a3⟩ := e1
  obtain ⟨o2, o3, b1, rfl, rfl⟩ := e2
  obtain ⟨c1, c2, c3⟩ := e3
  subst b1
  have main : ∀ bc bs, qC false (d + 1) 12 [lR 17 (some i), lI (gI s 17 j 5)] s (fun r m => r = none ∧ qW false (d + 1) 17 bc bs 8 [some (lR 17 (some i)), some (lR 17 (some j)), none, none] [] m Q) := fun bc bs => by
    rw [hn]
    refine ch_F hi hz hJ fun m1 J1 K1 => ⟨rfl, ?_⟩
    have st := y_seg_ok (y_cl_v x_X_cl sw1) (y_all x_X_cl h_all0) g1 (d := d + 1) (bc := bc) (bs := bs) (by omega) (s0 := m1) (Q := Q) (fun r m a _ _ => by
      obtain ⟨a, ha, _⟩ := a
      exact absurd ha List.not_mem_nil) (fun c hc L2 s2 hL2 hm2 J2 F2 => by
      have hc := List.mem_singleton.mp hc
      subst hc
      obtain ⟨y1, La, rfl, q1, ha⟩ := y_slsS hL2
      obtain ⟨y2, Lb, rfl, q2, hb⟩ := y_slsS ha
      obtain ⟨y3, Lc, rfl, hc3⟩ := y_slsN hb
      obtain ⟨y4, Ld, rfl, hd4⟩ := y_slsN hc3
      have e0 := y_sls0 hd4
      subst e0
      have e1 := y_this (k := 17) (i := i) q1
      subst e1
      have e1 := y_this (k := 17) (i := j) q2
      subst e1
      show qW false (d + 1) 17 bc bs 44 _ [] s2 Q
      refine qa_t1_W (cut := [102]) 80 ?_
      refine bg_F (i := i) (f := gR s2 17 j 6) (g := gR s2 17 j 7) (l := gL s2 17 j 8) (by omega) hi (fun q hq => J2.2.1.2.1 j q hq) (fun q hq => J2.2.1.2.2.1 j q hq) J2 fun m3 J3 F3 => And.intro rfl ?_
      have W3 := fun p q => F3 17 p q (fun ⟨w, hw, e, _⟩ => by
        have hw : w ∈ [((19 : Nat), (i : Int), (i : Int), (0 : Int), (5 : Int)), (20, (i : Int), (i : Int), 0, 5)] := hw
        rcases List.mem_cons.mp hw with rfl | hw
        · exact absurd (show (19 : Nat) = 17 from e) (by decide)
        · rw [List.mem_singleton.mp hw] at e
          exact absurd (show (20 : Nat) = 17 from e) (by decide))
      have J4 : y_J x_X (bcS i j m3) := bcS_J J3
      have go : ∀ o, qW false (d + 1) 17 bc bs sb2.1 [some (lR 17 (some i)), some (lR 17 (some j)), o, some (lI 0)] [] (bcS i j m3) Q := fun o => by
        refine y_seg_ok (y_cl_v x_X_cl sw2) (y_all x_X_cl h_all0) g2 (by omega) (s0 := bcS i j m3) (fun r m a J5 F5 => ?_) (fun c hc => absurd hc List.not_mem_nil) sb2 List.mem_cons_self _ _ (by
          rw [c2]
          exact ⟨y_rcv, y_rcv, ⟨by decide, by decide⟩, trivial⟩) (by
          rw [c3]
          exact fun _ q => absurd q List.not_mem_nil) J4 (y_Fr_rf _ _)
        rw [y_none a]
        have O5 := off w2 F5
        have O2 := off w1 F2
        have eI : ∀ q, q ≠ 10 → q ≠ 11 → q ≠ 12 → q ≠ 13 → gI (bcS i j m3) 17 i q = gI m3 17 i q := fun q n1 n2 n3 n4 => by
          unfold bcS
          dsimp only
          rw [gI_sI, if_neg (fun c => n4 c.2.2), gI_sI, if_neg (fun c => n3 c.2.2), gI_sI, if_neg (fun c => n2 c.2.2), gI_sI, if_neg (fun c => n1 c.2.2)]
          rfl
        have eJ : ∀ q, gI (bgS i (gR s2 17 j 6) (gR s2 17 j 7) (gL s2 17 j 8) s2) 17 j q = gI s2 17 j q := fun q => by
          unfold bgS
          rw [gI_sI, if_neg (fun c => hij c.2.1.symm), gI_sI, if_neg (fun c => hij c.2.1.symm), gI_sI, if_neg (fun c => hij c.2.1.symm), gI_sI, if_neg (fun c => hij c.2.1.symm)]
          rfl
        have k1J : ∀ q, gI m1 17 j q = gI s 17 j q := fun q => (K1.1 17 j q).trans (by
          show gI (sI s 17 i 5 (nI z)) 17 j q = gI s 17 j q
          rw [gI_sI, if_neg (fun c => hij c.2.1.symm)])
        have k1R : ∀ q, q ≠ 4 → gR m1 17 j q = gR s 17 j q := fun q hq => K1.2.2.2.1 17 j q (fun c => hq c.2.2) (fun c => absurd c.1 (by decide))
        refine h m ⟨?_, ?_, ?_, ?_, ?_, ?_⟩
        · rw [(O5 i 4).2.2]
          show gR m3 17 i 4 = _
          rw [(W3 i 4).2.2]
          show gR (sR (sR s2 17 i 6 (gR s2 17 j 6)) 17 i 7 (gR s2 17 j 7)) 17 i 4 = _
          rw [gR_sR, if_neg (fun c => absurd c.2.2 (by decide)), gR_sR, if_neg (fun c => absurd c.2.2 (by decide)), (O2 i 4).2.2, K1.2.2.1]
          rfl
        · rw [(O5 i 5).1, eI 5 (by decide) (by decide) (by decide) (by decide), (W3 i 5).1]
          unfold bgS
          rw [gI_sI, if_neg (fun c => absurd c.2.2 (by decide)), gI_sI, if_neg (fun c => absurd c.2.2 (by decide)), gI_sI, if_neg (fun c => absurd c.2.2 (by decide)), gI_sI, if_neg (fun c => absurd c.2.2 (by decide))]
          show gI s2 17 i 5 = _
          rw [(O2 i 5).1, K1.1 17 i 5]
          show gI (sI s 17 i 5 (nI z)) 17 i 5 = nI z
          rw [gI_sI, if_pos ⟨rfl, rfl, rfl⟩]
        · have e10 : gI (bcS i j m3) 17 i 10 = gI m3 17 j 10 := by
            unfold bcS
            dsimp only
            rw [gI_sI, if_neg (fun c => absurd c.2.2 (by decide)), gI_sI, if_neg (fun c => absurd c.2.2 (by decide)), gI_sI, if_neg (fun c => absurd c.2.2 (by decide)), gI_sI, if_pos ⟨rfl, rfl, rfl⟩]
            rfl
          rw [(O5 i 10).1, e10, (W3 j 10).1, eJ, (O2 j 10).1, k1J]
        · rw [(O5 i 6).2.2]
          show gR m3 17 i 6 = _
          rw [(W3 i 6).2.2]
          show gR (sR (sR s2 17 i 6 (gR s2 17 j 6)) 17 i 7 (gR s2 17 j 7)) 17 i 6 = _
          rw [gR_sR, if_neg (fun c => absurd c.2.2 (by decide)), gR_sR, if_pos ⟨rfl, rfl, rfl⟩, (O2 j 6).2.2, k1R 6 (by decide)]
        · rw [(O5 i 7).2.2]
          show gR m3 17 i 7 = _
          rw [(W3 i 7).2.2]
          show gR (sR (sR s2 17 i 6 (gR s2 17 j 6)) 17 i 7 (gR s2 17 j 7)) 17 i 7 = _
          rw [gR_sR, if_pos ⟨rfl, rfl, rfl⟩, (O2 j 7).2.2, k1R 7 (by decide)]
        · rw [(O5 i 8).2.1]
          show gL (sL m3 17 i 9 (gL m3 17 j 9)) 17 i 8 = _
          rw [gL_sL, if_neg (fun c => absurd c.2.2 (by decide)), (W3 i 8).2.1]
          show gL (sL (sL (sR (sR s2 17 i 6 (gR s2 17 j 6)) 17 i 7 (gR s2 17 j 7)) 17 i 8 (gL s2 17 j 8)) 17 i 9 (gL s2 17 j 8)) 17 i 8 = _
          rw [gL_sL, if_neg (fun c => absurd c.2.2 (by decide)), gL_sL, if_pos ⟨rfl, rfl, rfl⟩, (O2 j 8).2.1, K1.2.1 17 j 8]
      rw [c1] at go
      exact go _) sb1 List.mem_cons_self [some (lR 17 (some i)), some (lR 17 (some j)), none, none] m1 (by
      rw [a2]
      exact ⟨y_rcv, y_rcv, trivial⟩) (by
      rw [a3]
      exact fun _ q => absurd q List.not_mem_nil) J1 (y_Fr_rf _ _)
    rw [a1] at st
    exact st
  refine qC_of rfl rfl ?_
  refine qa_t1_W (cut := [8]) 20 ?_
  exact main _ _
theorem bcm_20 {z : Nat} (hd : 62 ≤ d) (hJ : y_J x_X s) (hz : z ≤ 20) (hn : gI s 17 0 5 = nI z) (h : ∀ m, bcK 2 0 z s m → Q none m) : qC false (d + 1) 17 [lR 17 (some 2), lR 17 (some 0)] s Q := bcm_F (i := 2) (j := 0) st_becomes_20 st_becomesH_20 ⟨rfl, rfl, rfl⟩ ⟨_, _, rfl, rfl, rfl⟩ ⟨rfl, rfl, rfl⟩ (by decide) (by decide) hd (by decide) (by decide) (by decide) hJ hz hn h
theorem bcm_02 {z : Nat} (hd : 62 ≤ d) (hJ : y_J x_X s) (hz : z ≤ 20) (hn : gI s 17 2 5 = nI z) (h : ∀ m, bcK 0 2 z s m → Q none m) : qC false (d + 1) 17 [lR 17 (some 0), lR 17 (some 2)] s Q := bcm_F (i := 0) (j := 2) st_becomes_02 st_becomesH_02 ⟨rfl, rfl, rfl⟩ ⟨_, _, rfl, rfl, rfl⟩ ⟨rfl, rfl, rfl⟩ (by decide) (by decide) hd (by decide) (by decide) (by decide) hJ hz hn h
/-- a day of the class is counted -/
theorem gd_F {x : Int32} (hd : 60 ≤ d) (hJ : y_J x_X s) (h : ∀ m, gI m 17 0 10 = gI s 17 0 10 + 1 → Q none m) : qC false (d + 1) 22 [lR 17 (some 0), lI x] s Q := by
  refine qC_of rfl rfl ?_
  refine y_seg_ok (y_cl_v x_X_cl sw_goDay_0) (y_all x_X_cl h_all0) st_goDay_0 hd (s0 := s) (fun r m a _ _ => ?_) (fun c hc L2 s2 hL2 hm2 J2 F2 => ?_) sb_goDay_0 List.mem_cons_self _ s ⟨y_rcv, z_in_top _, trivial⟩ (fun _ q => absurd q List.not_mem_nil) hJ (y_Fr_rf _ _)
  · obtain ⟨a, ha, _⟩ := a
    exact absurd ha List.not_mem_nil
  · have hc := List.mem_singleton.mp hc
    subst hc
    obtain ⟨y1, L3, rfl, q1, hL2⟩ := y_slsS hL2
    have e1 := y_this (k := 17) (i := 0) q1
    subst e1
    show qW false d 22 _ _ 44 _ [] s2 Q
    refine qa_t1_W (cut := []) 12 ?_
    refine h _ ?_
    show gI (sI s2 17 0 10 (gI s2 17 0 10 + 1)) 17 0 10 = _
    rw [gI_sI, if_pos ⟨rfl, rfl, rfl⟩, (F2 17 0 10 (x_nW 10 10 (by decide) (by decide) (by decide))).1]
/-- a day of the reference is counted -/
theorem do_n {x : Int32} {n f n1 : Nat} {c e : YCut} {cs : List YCut} (g : y_seg dL_5 sw_day sw_day 253 38 [] (c :: cs) [e] f n1 = true) (e1 : c.1 = 0 ∧ c.2.1 = [some (.inr (.inr (33, (0, 0), (0, 0)))), some (.inl (-2147483648, 2147483647)), none, none] ∧ c.2.2.1 = [(48, 0, 272, .inl ((n : Int), (n : Int)))]) (e2 : e.1 = 265 ∧ ∃ l, e.2.1 = some (.inr (.inr (33, (0, 0), (0, 0)))) :: l) (hd : 38 ≤ d) (hJ : y_J x_X s) (hn : (gI s 48 0 272).toInt = n) (h : ∀ m, gI m 48 0 273 = gI s 48 0 273 + 1 → Q none m) : qC false (d + 1) 253 [lR 33 (some 0), lI x] s Q := by
  obtain ⟨a1, a2, a3⟩ := e1
  obtain ⟨b1, l, b2⟩ := e2
  have st := fun bc bs => y_seg_ok (y_cl_v x_X_cl sw_day) (d_all x_X_cl d_hand) g (d := d) (bc := bc) (bs := bs) hd (s0 := s) (Q := Q) (fun r m a _ _ => by
    obtain ⟨a, ha, _⟩ := a
    exact absurd ha List.not_mem_nil) (fun e' hc L2 s2 hL2 hm2 J2 F2 => by
    have hc := List.mem_singleton.mp hc
    subst hc
    rw [b2] at hL2
    obtain ⟨y1, L3, rfl, q1, hL2⟩ := y_slsS hL2
    have e1 := y_this (k := 33) (i := 0) q1
    subst e1
    rw [b1]
    refine qa_t1_W (cut := []) 12 ?_
    refine And.intro (x_vc (by decide) (by decide)) (And.intro (x_vc (by decide) (by decide)) (h _ ?_))
    show gI (sI s2 48 0 273 (gI s2 48 0 273 + 1)) 48 0 273 = _
    rw [gI_sI, if_pos ⟨rfl, rfl, rfl⟩, (F2 48 0 273 (x_nW 273 273 (by decide) (by decide) (by decide))).1]) c List.mem_cons_self [some (lR 33 (some 0)), some (lI x), none, none] s (by
    rw [a2]
    exact ⟨y_rcv, z_in_top _, trivial⟩) (by
    rw [a3]
    intro q hq
    rw [List.mem_singleton.mp hq]
    show (n : Int) ≤ (gI s 48 0 272).toInt ∧ (gI s 48 0 272).toInt ≤ (n : Int)
    rw [hn]
    exact ⟨Int.le_refl _, Int.le_refl _⟩) hJ (y_Fr_rf _ _)
  rw [a1] at st
  refine qC_of rfl rfl ?_
  exact st _ _
theorem do_F {x : Int32} (hd : 38 ≤ d) (hJ : y_J x_X s) (h : ∀ m, gI m 48 0 273 = gI s 48 0 273 + 1 → Q none m) : qC false (d + 1) 253 [lR 33 (some 0), lI x] s Q := by
  obtain ⟨n, hn2, hn⟩ := x_many hJ 48 (Or.inl rfl)
  have hn : (gI s 48 0 272).toInt = n := by rw [hn, nI_toInt (by omega)]
  rcases (show n = 0 ∨ n = 1 ∨ n = 2 ∨ n = 3 ∨ n = 4 ∨ n = 5 ∨ n = 6 ∨ n = 7 ∨ n = 8 ∨ n = 9 ∨ n = 10 ∨ n = 11 ∨ n = 12 ∨ n = 13 ∨ n = 14 ∨ n = 15 ∨ n = 16 ∨ n = 17 ∨ n = 18 ∨ n = 19 ∨ n = 20 by omega) with rfl | rfl | rfl | rfl | rfl | rfl | rfl | rfl | rfl | rfl | rfl | rfl | rfl | rfl | rfl | rfl | rfl | rfl | rfl | rfl | rfl
  · exact do_n (n := 0) st_day_0 ⟨rfl, rfl, rfl⟩ ⟨rfl, _, rfl⟩ hd hJ hn h
  · exact do_n (n := 1) st_day_1 ⟨rfl, rfl, rfl⟩ ⟨rfl, _, rfl⟩ hd hJ hn h
  · exact do_n (n := 2) st_day_2 ⟨rfl, rfl, rfl⟩ ⟨rfl, _, rfl⟩ hd hJ hn h
  · exact do_n (n := 3) st_day_3 ⟨rfl, rfl, rfl⟩ ⟨rfl, _, rfl⟩ hd hJ hn h
  · exact do_n (n := 4) st_day_4 ⟨rfl, rfl, rfl⟩ ⟨rfl, _, rfl⟩ hd hJ hn h
  · exact do_n (n := 5) st_day_5 ⟨rfl, rfl, rfl⟩ ⟨rfl, _, rfl⟩ hd hJ hn h
  · exact do_n (n := 6) st_day_6 ⟨rfl, rfl, rfl⟩ ⟨rfl, _, rfl⟩ hd hJ hn h
  · exact do_n (n := 7) st_day_7 ⟨rfl, rfl, rfl⟩ ⟨rfl, _, rfl⟩ hd hJ hn h
  · exact do_n (n := 8) st_day_8 ⟨rfl, rfl, rfl⟩ ⟨rfl, _, rfl⟩ hd hJ hn h
  · exact do_n (n := 9) st_day_9 ⟨rfl, rfl, rfl⟩ ⟨rfl, _, rfl⟩ hd hJ hn h
  · exact do_n (n := 10) st_day_10 ⟨rfl, rfl, rfl⟩ ⟨rfl, _, rfl⟩ hd hJ hn h
  · exact do_n (n := 11) st_day_11 ⟨rfl, rfl, rfl⟩ ⟨rfl, _, rfl⟩ hd hJ hn h
  · exact do_n (n := 12) st_day_12 ⟨rfl, rfl, rfl⟩ ⟨rfl, _, rfl⟩ hd hJ hn h
  · exact do_n (n := 13) st_day_13 ⟨rfl, rfl, rfl⟩ ⟨rfl, _, rfl⟩ hd hJ hn h
  · exact do_n (n := 14) st_day_14 ⟨rfl, rfl, rfl⟩ ⟨rfl, _, rfl⟩ hd hJ hn h
  · exact do_n (n := 15) st_day_15 ⟨rfl, rfl, rfl⟩ ⟨rfl, _, rfl⟩ hd hJ hn h
  · exact do_n (n := 16) st_day_16 ⟨rfl, rfl, rfl⟩ ⟨rfl, _, rfl⟩ hd hJ hn h
  · exact do_n (n := 17) st_day_17 ⟨rfl, rfl, rfl⟩ ⟨rfl, _, rfl⟩ hd hJ hn h
  · exact do_n (n := 18) st_day_18 ⟨rfl, rfl, rfl⟩ ⟨rfl, _, rfl⟩ hd hJ hn h
  · exact do_n (n := 19) st_day_19 ⟨rfl, rfl, rfl⟩ ⟨rfl, _, rfl⟩ hd hJ hn h
  · exact do_n (n := 20) st_day_20 ⟨rfl, rfl, rfl⟩ ⟨rfl, _, rfl⟩ hd hJ hn h
end BD
/-! digTold, dig of both sides, by what they write. -/
section DT
variable {d : Nat} {s : LMem} {Q : LPost}
theorem sB_ok {k j : Nat} {v : ZI} {x : Int32} (h1 : y_sB k ((j : Int), (j : Int)) v = true) (hv : v.1 ≤ x.toInt ∧ x.toInt ≤ v.2) : ∀ r ∈ y_B k, r.1 ≤ (j : Int) → (j : Int) ≤ r.2.1 → r.2.2.1 ≤ x.toInt ∧ x.toInt ≤ r.2.2.2 := fun r hr g1 g2 => by
  rcases (Bool.or_eq_true _ _).mp (List.all_eq_true.mp h1 r hr) with g | g
  · rcases (Bool.or_eq_true _ _).mp g with g | g
    · have g : (j : Int) < r.1 := of_decide_eq_true g
      omega
    · have g : r.2.1 < (j : Int) := of_decide_eq_true g
      omega
  · obtain ⟨g3, g4⟩ := qa_and g
    have g3 := of_decide_eq_true g3
    have g4 := of_decide_eq_true g4
    omega
theorem dtK_J {dd i z : Nat} {m : LMem} (hJ : y_J x_X s) (h : dtK dd i s m z) : y_J x_X m := by
  obtain ⟨h1, h2, h3, h4⟩ := h
  refine ⟨fun k a j r hr g1 g2 => ?_, ⟨fun a q hq => hJ.2.1.1 a q (by rw [← h3]; exact hq), fun a q hq => hJ.2.1.2.1 a q (by rw [← h3]; exact hq), fun a q hq => hJ.2.1.2.2.1 a q (by rw [← h3]; exact hq), fun a q hq => hJ.2.1.2.2.2 a q (by rw [← h3]; exact hq)⟩, x_X_cl s m (fun k a j hp => h1 k a j (fun q => ?_)) hJ.2.2⟩
  · by_cases c : k = 21 ∧ 20 * i ≤ a ∧ a < 20 * i + z ∧ 1 ≤ j ∧ j ≤ 14
    · obtain ⟨rfl, c1, c2, c3, c4⟩ := c
      obtain ⟨e1, e2⟩ := h4 (a - 20 * i) (by omega)
      rw [show 20 * i + (a - 20 * i) = a by omega] at e1 e2
      have told : ∀ w, w < 5 → y_sB 21 (((1 + w : Nat) : Int), ((1 + w : Nat) : Int)) (y_lB 6 ((w : Int), (w : Int))) = true → j = 1 + w → r.2.2.1 ≤ (gI m 21 a j).toInt ∧ (gI m 21 a j).toInt ≤ r.2.2.2 := fun w hw hb ej => by
        subst ej
        rw [e1 w hw]
        exact sB_ok hb (y_lB_ok hJ.1 ⟨Int.le_refl _, Int.le_refl _⟩) r hr g1 g2
      have zero : y_sB 21 ((j : Int), (j : Int)) (0, 0) = true → 6 ≤ j → r.2.2.1 ≤ (gI m 21 a j).toInt ∧ (gI m 21 a j).toInt ≤ r.2.2.2 := fun hb hj => by
        rw [e2 j hj c4]
        exact sB_ok hb ⟨by decide, by decide⟩ r hr g1 g2
      rcases (show j = 1 ∨ j = 2 ∨ j = 3 ∨ j = 4 ∨ j = 5 ∨ j = 6 ∨ j = 7 ∨ j = 8 ∨ j = 9 ∨ j = 10 ∨ j = 11 ∨ j = 12 ∨ j = 13 ∨ j = 14 by omega) with rfl | rfl | rfl | rfl | rfl | rfl | rfl | rfl | rfl | rfl | rfl | rfl | rfl | rfl
      · exact told 0 (by decide) (by decide) rfl
      · exact told 1 (by decide) (by decide) rfl
      · exact told 2 (by decide) (by decide) rfl
      · exact told 3 (by decide) (by decide) rfl
      · exact told 4 (by decide) (by decide) rfl
      all_goals exact zero (by decide) (by decide)
    · rw [h1 k a j c]
      exact hJ.1 k a j r hr g1 g2
  · obtain ⟨rfl, _⟩ := q
    obtain ⟨r, hr, _⟩ := hp
    have hr : r ∈ ([] : List (Int × Int)) := hr
    exact absurd hr List.not_mem_nil
theorem h_reaches {dd : Nat} (h : Q (some (lI (gI s 4 dd 1))) s) : qC false (d + 1) 1 [lR 4 (some dd)] s Q := by
  refine qC_of rfl rfl ?_
  refine qa_t1_W (cut := []) 10 ?_
  exact h
/-- what digTold leaves: m1 behind the chain, m2 behind the reaches, m behind begin -/
theorem dgt_F {i dd z : Nat} {f g : Option Nat} {l : Int64} (hd : 62 ≤ d) (hi : i ≤ 2) (hJ : y_J x_X s) (hz : z ≤ 20) (hn : gI s 4 dd 1 = nI z) (hf : ∀ q, f = some q → q ≤ 6) (hg : ∀ q, g = some q → q ≤ 6) (h : ∀ m1 m2 m, ch_K i z s m1 0 → ch_N i z m1 0 → dtK dd i m1 m2 z → y_J x_X m → y_Fr (bgW i) (bgS i f g l m2) m → Q none m) : qC false (d + 1) 14 [lR 17 (some i), lR 4 (some dd), lR 8 f, lR 8 g, lL l] s Q := by
  obtain ⟨d, rfl⟩ : ∃ d', d = d' + 1 := ⟨d - 1, by omega⟩
  have main : ∀ bc bs, qC false (d + 1) 12 [lR 17 (some i), lI (gI s 4 dd 1)] s (fun r m1 => r = none ∧ qW false (d + 1) 14 bc bs 17 [some (lR 17 (some i)), some (lR 4 (some dd)), some (lR 8 f), some (lR 8 g), some (lL l), none, some (lI 0), some (lR 21 (gR m1 17 i 4))] [] m1 Q) := fun bc bs => by
    rw [hn]
    refine ch_H hi hz hJ fun m1 J1 K1 N1 => ⟨rfl, ?_⟩
    rw [K1.2.2.1]
    have e4 : gI m1 4 dd 1 = nI z := by
      rw [K1.1 4 dd 1]
      show gI (sI s 17 i 5 (nI z)) 4 dd 1 = nI z
      rw [gI_sI, if_neg (fun q => absurd q.1 (by decide)), hn]
    refine dgt_l hz e4 N1 (fun m2 o6 o7 K2 => ?_) z 0 m1 (Nat.zero_add z) ⟨fun _ _ _ _ => rfl, fun _ _ _ => rfl, fun _ _ _ => rfl, fun r hr => absurd hr (Nat.not_lt_zero _)⟩
    refine qa_t1_W (cut := []) 20 ?_
    exact bg_F (by omega) hi hf hg (dtK_J J1 K2) fun m J F => And.intro rfl (h m1 m2 m K1 N1 K2 J F)
  refine qC_of rfl rfl ?_
  refine qa_t1_W (cut := [17]) 40 ?_
  exact h_reaches (Exists.intro _ (And.intro rfl (main _ _)))
/-- what is dug, as far as both must agree of it -/
def dgK (i z : Nat) (f g : Option Nat) (l : Int64) (m : LMem) : Prop := gR m 17 i 4 = (if 0 < z then some (20 * i) else none) ∧ gI m 17 i 5 = nI z ∧ gI m 17 i 10 = 0 ∧ gR m 17 i 6 = f ∧ gR m 17 i 7 = g ∧ gL m 17 i 8 = l
theorem dgt_K {i dd z : Nat} {f g : Option Nat} {l : Int64} {m1 m2 m : LMem} (K1 : ch_K i z s m1 0) (K2 : dtK dd i m1 m2 z) (F : y_Fr (bgW i) (bgS i f g l m2) m) : dgK i z f g l m := by
  have W := fun p q => F 17 p q (fun ⟨w, hw, e, _⟩ => by
    have hw : w ∈ [((19 : Nat), (i : Int), (i : Int), (0 : Int), (5 : Int)), (20, (i : Int), (i : Int), 0, 5)] := hw
    rcases List.mem_cons.mp hw with rfl | hw
    · exact absurd (show (19 : Nat) = 17 from e) (by decide)
    · rw [List.mem_singleton.mp hw] at e
      exact absurd (show (20 : Nat) = 17 from e) (by decide))
  refine ⟨?_, ?_, ?_, ?_, ?_, ?_⟩
  · rw [(W i 4).2.2]
    show gR (sR (sR m2 17 i 6 f) 17 i 7 g) 17 i 4 = _
    rw [gR_sR, if_neg (fun c => absurd c.2.2 (by decide)), gR_sR, if_neg (fun c => absurd c.2.2 (by decide)), K2.2.2.1, K1.2.2.1]
    rfl
  · rw [(W i 5).1]
    unfold bgS
    rw [gI_sI, if_neg (fun c => absurd c.2.2 (by decide)), gI_sI, if_neg (fun c => absurd c.2.2 (by decide)), gI_sI, if_neg (fun c => absurd c.2.2 (by decide)), gI_sI, if_neg (fun c => absurd c.2.2 (by decide))]
    show gI m2 17 i 5 = _
    rw [K2.1 17 i 5 (fun q => absurd q.1 (by decide)), K1.1 17 i 5]
    show gI (sI s 17 i 5 (nI z)) 17 i 5 = nI z
    rw [gI_sI, if_pos ⟨rfl, rfl, rfl⟩]
  · rw [(W i 10).1]
    unfold bgS
    rw [gI_sI, if_neg (fun c => absurd c.2.2 (by decide)), gI_sI, if_neg (fun c => absurd c.2.2 (by decide)), gI_sI, if_neg (fun c => absurd c.2.2 (by decide)), gI_sI, if_pos ⟨rfl, rfl, rfl⟩]
  · rw [(W i 6).2.2]
    show gR (sR (sR m2 17 i 6 f) 17 i 7 g) 17 i 6 = _
    rw [gR_sR, if_neg (fun c => absurd c.2.2 (by decide)), gR_sR, if_pos ⟨rfl, rfl, rfl⟩]
  · rw [(W i 7).2.2]
    show gR (sR (sR m2 17 i 6 f) 17 i 7 g) 17 i 7 = _
    rw [gR_sR, if_pos ⟨rfl, rfl, rfl⟩]
  · rw [(W i 8).2.1]
    show gL (sL (sL (sR (sR m2 17 i 6 f) 17 i 7 g) 17 i 8 l) 17 i 9 l) 17 i 8 = _
    rw [gL_sL, if_neg (fun c => absurd c.2.2 (by decide)), gL_sL, if_pos ⟨rfl, rfl, rfl⟩]
/-- dig of the class -/
theorem dg_11Q {a b c : Int32} {l : Int64} (hJ : y_J x_X s) (hr : ∀ x : Nat, (x : Int) < (gI s 15 0 0).toInt → ∃ z, z ≤ 20 ∧ gI s 4 x 1 = nI z) (hy : ∀ (i f : Nat) g z m, (i : Int) < (gI s 15 0 0).toInt → a = nI i → b = nI f → ((c = -1 ∧ g = none) ∨ ∃ y, c = nI y ∧ g = some y) → dgP (gI s 15 0 0) (gI s 15 0 1) a b c → gI s 4 i 1 = nI z → z ≤ 20 → dgK 0 z (some f) g l m → Q (some (lI 1)) m) (hn : ¬ dgP (gI s 15 0 0) (gI s 15 0 1) a b c → Q (some (lI 0)) s) : qC false (d + 70) 162 [lR 0 (some 0), lI a, lI b, lI c, lL l] s Q := by
  have b0 := bd15 (j := 0) (hi := 4) hJ (by decide)
  have b1 := bd15 (j := 1) (hi := 6) hJ (by decide)
  have tell : ∀ (i f : Nat) (g : Option Nat) (K : LPost), a = nI i → (i : Int) < (gI s 15 0 0).toInt → b = nI f → (f : Int) ≤ 6 → ((c = -1 ∧ g = none) ∨ ∃ y, c = nI y ∧ g = some y) → (∀ z, g = some z → z ≤ 6) → dgP (gI s 15 0 0) (gI s 15 0 1) a b c → (∀ m, Q (some (lI 1)) m → K none m) → qC false (d + 69) 14 [lR 17 (some 0), lR 4 (some i), lR 8 (some f), lR 8 g, lL l] s K := fun i f g K ea hi eb hf ec hg P hK => by
    obtain ⟨z, hz, ez⟩ := hr i hi
    exact dgt_F (d := d + 68) (by omega) (by decide) hJ hz ez (fun q e => by
      have := Option.some.inj e
      omega) hg fun m1 m2 m K1 N1 K2 J F => hK m (hy i f g z m hi ea eb ec P ez hz (dgt_K K1 K2 F))
  have cl : ∀ {x : Int32}, 0 ≤ x.toInt → x = nI x.toNatClampNeg := fun {x} h => by
    obtain ⟨q, hq, e⟩ := nI_up (x := x) (hi := 2147483647) h (by have := Int32.toInt_lt x; omega) (by decide)
    rw [e, nI_clamp (by omega)]
  have ci : ∀ {x : Int32}, 0 ≤ x.toInt → (x.toNatClampNeg : Int) = x.toInt := fun {x} h => by
    obtain ⟨q, hq, e⟩ := nI_up (x := x) (hi := 2147483647) h (by have := Int32.toInt_lt x; omega) (by decide)
    rw [e, nI_clamp (by omega), nI_toInt (by omega)]
  refine qC_of rfl rfl ?_
  refine qa_t1_W (cut := []) 80 ?_
  refine h_findDitch (d := d + 65) hJ (fun x1 x2 => Or.inr (Exists.intro _ (And.intro rfl ?_))) (fun xn => Or.inl (And.intro rfl ?_))
  · refine h_findLaw (d := d + 65) hJ (fun y1 y2 => Or.inr (Exists.intro _ (And.intro rfl ?_))) (fun yn => Or.inl (And.intro rfl ?_))
    · refine h_findLaw (d := d + 65) hJ (fun z1 z2 => Or.inr (Exists.intro _ (And.intro rfl ?_))) (fun zn => Or.inl (And.intro rfl ?_))
      · refine tell a.toNatClampNeg b.toNatClampNeg (some c.toNatClampNeg) _ (cl x1) (by rw [ci x1]; exact x2) (cl y1) (by rw [ci y1]; omega) (Or.inr ⟨_, cl z1, rfl⟩) (fun z ez => ?_) ⟨⟨⟨x1, x2⟩, ⟨y1, y2⟩⟩, Or.inr ⟨z1, z2⟩⟩ (fun m q => And.intro rfl (And.intro (Or.inr rfl) q))
        have e := Option.some.inj ez
        have := ci z1
        omega
      · refine And.intro (fun e => ?_) (fun e => ?_)
        · exact tell a.toNatClampNeg b.toNatClampNeg none _ (cl x1) (by rw [ci x1]; exact x2) (cl y1) (by rw [ci y1]; omega) (Or.inl ⟨e, rfl⟩) (fun z ez => by cases ez) ⟨⟨⟨x1, x2⟩, ⟨y1, y2⟩⟩, Or.inl e⟩ (fun m q => And.intro rfl (And.intro (Or.inr rfl) q))
        · exact And.intro (Or.inl rfl) (hn (fun q => q.2.elim e zn))
    · refine h_findLaw (d := d + 65) hJ (fun z1 z2 => Or.inr (Exists.intro _ (And.intro rfl ?_))) (fun zn => Or.inl (And.intro rfl ?_))
      · exact And.intro (Or.inl rfl) (hn (fun q => yn q.1.2))
      · exact And.intro (Or.inl rfl) (hn (fun q => yn q.1.2))
  · refine h_findLaw (d := d + 65) hJ (fun y1 y2 => Or.inr (Exists.intro _ (And.intro rfl ?_))) (fun yn => Or.inl (And.intro rfl ?_))
    · refine h_findLaw (d := d + 65) hJ (fun z1 z2 => Or.inr (Exists.intro _ (And.intro rfl ?_))) (fun zn => Or.inl (And.intro rfl ?_))
      · exact And.intro (Or.inl rfl) (hn (fun q => xn q.1.1))
      · exact And.intro (Or.inl rfl) (hn (fun q => xn q.1.1))
    · refine h_findLaw (d := d + 65) hJ (fun z1 z2 => Or.inr (Exists.intro _ (And.intro rfl ?_))) (fun zn => Or.inl (And.intro rfl ?_))
      · exact And.intro (Or.inl rfl) (hn (fun q => xn q.1.1))
      · exact And.intro (Or.inl rfl) (hn (fun q => xn q.1.1))
/-- dig of the reference -/
theorem dg_12Q {a b c : Int32} {l : Int64} (hJ : y_J x_X s) (hy : ∀ (i : Nat) m, (i : Int) < (gI s 33 0 21).toInt → a = nI i → dgP (gI s 33 0 21) (gI s 33 0 13) a b c → gI m 48 0 272 = gI s 44 0 i → gI m 48 0 273 = 0 → gI m 48 0 277 = b → gI m 48 0 278 = c → gL m 33 0 30 = l → gI m 33 0 35 = 1 → Q (some (lI 1)) m) (hn : ¬ dgP (gI s 33 0 21) (gI s 33 0 13) a b c → Q (some (lI 0)) s) : qC false (d + 60) 246 [lR 33 (some 0), lI a, lI b, lI c, lL l] s Q := by
  obtain ⟨D, hD2, hD⟩ := y_nIof2 (N := 4) (x := gI s 33 0 21) (hJ.1 33 0 21 (21, 21, 0, 4) (by decide) (by decide) (by decide)).1 (hJ.1 33 0 21 (21, 21, 0, 4) (by decide) (by decide) (by decide)).2
  obtain ⟨L, hL2, hL⟩ := y_nIof2 (N := 6) (x := gI s 33 0 13) (hJ.1 33 0 13 (13, 13, 0, 6) (by decide) (by decide) (by decide)).1 (hJ.1 33 0 13 (13, 13, 0, 6) (by decide) (by decide) (by decide)).2
  have tD : (gI s 33 0 21).toInt = D := by rw [hD, nI_toInt (by omega)]
  have go : ∀ i, a = nI i → i < D → dgP (gI s 33 0 21) (gI s 33 0 13) a b c → ∀ K : LPost, (∀ m, (∀ v, v = 1 → gI (sI m 33 0 35 v) 33 0 35 = 1 → Q (some (lI 1)) (sI m 33 0 35 v)) → K none m) → qC false (d + 59) 245 [lR 33 (some 0), lI a] s (fun r m1 => r = none ∧ qC false (d + 59) 244 [lR 33 (some 0), lI b, lI c, lL l] m1 K) := fun i ei hi P K hK => by
    subst ei
    refine h_layOut (by omega) fun m1 k1 => ⟨rfl, ?_⟩
    refine h_beginF fun m2 g2 z2 f1 f2 l1 l2 => hK m2 fun v ev e35 => hy i _ (by rw [tD]; omega) rfl P ?_ ?_ ?_ ?_ ?_ e35
    · rw [gI_sI, if_neg (fun q => absurd q.1 (by decide)), g2.1 48 0 272 (fun q => q.2.2.2.1 rfl)]
      exact k1.2.1
    · rw [gI_sI, if_neg (fun q => absurd q.1 (by decide))]
      exact z2 273 (by omega)
    · rw [gI_sI, if_neg (fun q => absurd q.1 (by decide))]
      exact f1
    · rw [gI_sI, if_neg (fun q => absurd q.1 (by decide))]
      exact f2
    · exact l2
  have run : dgP (gI s 33 0 21) (gI s 33 0 13) a b c → ∀ K : LPost, (∀ m, Q (some (lI 1)) (sI m 33 0 35 1) → K none m) → qC false (d + 59) 245 [lR 33 (some 0), lI a] s (fun r m1 => r = none ∧ qC false (d + 59) 244 [lR 33 (some 0), lI b, lI c, lL l] m1 K) := fun h K hK => go a.toInt.toNat (y_nIof h.1.1.1) (by have := h.1.1; omega) h K fun m q => hK m (q 1 rfl (by rw [gI_sI, if_pos ⟨rfl, rfl, rfl⟩]))
  refine qC_of rfl rfl ?_
  refine qa_t1_W (cut := []) 60 ?_
  refine h_isD2 hD (by omega) (fun x1 x2 => Exists.intro 1 (And.intro rfl ?_)) (fun xn => Exists.intro 0 (And.intro rfl ?_))
  · refine And.intro (fun q => absurd q (by decide)) (fun _ => ?_)
    refine h_isL2 hL (by omega) (fun y1 y2 => Exists.intro 1 (And.intro rfl ?_)) (fun yn => Exists.intro 0 (And.intro rfl ?_))
    · refine And.intro (fun q => absurd q (by decide)) (fun _ => ?_)
      refine And.intro (fun e => ?_) (fun e => ?_)
      · have P : dgP (gI s 33 0 21) (gI s 33 0 13) a b c := ⟨⟨⟨x1, x2⟩, ⟨y1, y2⟩⟩, Or.inl e⟩
        exact run P _ (fun m q => And.intro rfl (And.intro (Or.inr rfl) (And.intro (Or.inr rfl) q)))
      · refine h_isL2 hL (by omega) (fun z1 z2 => Exists.intro 1 (And.intro rfl ?_)) (fun zn => Exists.intro 0 (And.intro rfl ?_))
        · have P : dgP (gI s 33 0 21) (gI s 33 0 13) a b c := ⟨⟨⟨x1, x2⟩, ⟨y1, y2⟩⟩, Or.inr ⟨z1, z2⟩⟩
          exact And.intro (fun q => absurd q (by decide)) (fun _ => run P _ (fun m q => And.intro rfl (And.intro (Or.inr rfl) (And.intro (Or.inr rfl) q))))
        · exact And.intro (fun _ => And.intro (Or.inl rfl) (hn (fun q => q.2.elim e zn))) (fun q => absurd rfl q)
    · exact And.intro (fun _ => And.intro (Or.inl rfl) (hn (fun q => yn q.1.2))) (fun q => absurd rfl q)
  · exact And.intro (fun _ => And.intro (Or.inl rfl) (hn (fun q => xn q.1.1))) (fun q => absurd rfl q)
end DT
/-! PAIRS: set, dig, day, run, image, back. -/
section PN
variable {s : LMem} {Q : LPost}
theorem kc {ct : YCt} (H : y_con x_X ct) (hk : (Nat.ble ct.2.2.2.2.2 1200 && ct.2.2.2.1.all rk_w) = true) (hp : ct.2.2.1 = ([], [])) {As : List LV} (hA : y_as ct.2.1 As) (hJ : zK s) : qC false 1200 ct.1 As s (fun _ m => zK m ∧ (∀ i j, gI m 65 i j = gI s 65 i j) ∧ y_Fr ct.2.2.2.1 s m) := by
  obtain ⟨k1, k2⟩ := qa_and hk
  have k4 := (rk_s k2).1
  exact qC_mono (fr_con (d := 1200) H (Nat.le_of_ble_eq_true k1) hp hA hJ.1.1) fun r m q => ⟨⟨⟨q.1, rt_fr k4 q.2 hJ.1.2⟩, RC_fr k2 hJ.1.1 q.2 hJ.2⟩, (rt_k k4 q.2).2.2.2.1, q.2⟩
theorem DK_n {m : LMem} {d k sd fl : Nat} (a : gR m 17 d 4 = gR s 17 d 4 ∧ gI m 17 d 5 = gI s 17 d 5 ∧ gR m 17 d 6 = gR s 17 d 6 ∧ gR m 17 d 7 = gR s 17 d 7 ∧ gL m 17 d 8 = gL s 17 d 8) (b : gI m k 0 272 = gI s k 0 272 ∧ gI m k 0 277 = gI s k 0 277 ∧ gI m k 0 278 = gI s k 0 278 ∧ gL m 33 0 sd = gL s 33 0 sd ∧ gI m 33 0 fl = gI s 33 0 fl) (c : gI s 33 0 fl = 1 → gI m 17 d 10 = gI m k 0 273) (h : DK s d k sd fl) : DK m d k sd fl := by
  obtain ⟨a1, a2, a3, a4, a5⟩ := a
  obtain ⟨b1, b2, b3, b4, b5⟩ := b
  unfold DK
  rw [a1, a2, a3, a4, a5, b1, b2, b3, b4, b5]
  rcases h with h | ⟨h0, h1, h2, h3, h4, h5, h6⟩
  · exact Or.inl h
  · exact Or.inr ⟨h0, h1, h2, c h0, h4, h5, h6⟩
/-- whether something is dug, on both sides -/
theorem DK_dug {d k sd fl : Nat} (h : DK s d k sd fl) : (gR s 17 d 4 = none ↔ gI s 33 0 fl = 0) := by
  rcases h with ⟨h0, h1, _⟩ | ⟨h0, h1, _⟩
  · exact ⟨fun _ => h0, fun _ => h1⟩
  · refine ⟨fun q => ?_, fun q => ?_⟩
    · rw [h1] at q
      cases q
    · rw [h0] at q
      exact absurd q (by decide)
theorem prd_set {a b : Int32} (hJ : zD s) (h : ∀ v s1, y_J x_X s1 → (∀ i j, gI s1 65 i j = gI s 65 i j) → (∀ a' b', a' = a → b' = b → qC false 1200 242 [lR 33 (some 0), lI a', lI b'] s1 (prd s1 v)) → Q (some (lI v)) s1) : qC false 1200 161 [lR 0 (some 0), lI a, lI b] s Q := by
  have a0 := st_11R (d := 1197) (w := a) (v := b) (s := s)
  have b0 := kc (s := s) (As := [lR 0 (some 0), lI a, lI b]) (y_all x_X_cl h_all0 yk_X11_set (List.mem_of_getElem? (i := 193) rfl)) (by decide) rfl ⟨y_rcv, z_in_top _, z_in_top _, trivial⟩ hJ.1
  refine qC_mono (qC_and a0 b0) fun r s1 q => ?_
  obtain ⟨⟨ea, T1⟩, z1, x1, F1⟩ := q
  have main : ∀ v, r = some (lI v) → ((stOK a b ∧ v = 1) ∨ (¬ stOK a b ∧ v = 0)) → Q r s1 := fun v er ev => by
    subst er
    refine h v s1 z1.1.1 x1 fun a' b' ea eb => ?_
    subst ea eb
    have a2 := st_12R (d := 1198) (w := a') (v := b') (s := s1)
    have b2 := kc (s := s1) (As := [lR 33 (some 0), lI a', lI b']) (y_all x_X_cl h_all0 yk_X12_set (List.mem_of_getElem? (i := 194) rfl)) (by decide) rfl ⟨y_rcv, z_in_top _, z_in_top _, trivial⟩ z1
    refine qC_mono (qC_and a2 b2) fun r2 s2 q => ?_
    obtain ⟨⟨eb, T2⟩, z2, x2, F2⟩ := q
    refine ⟨?_, ⟨z2, ?_⟩, x2⟩
    · rcases ev with ⟨k, rfl⟩ | ⟨k, rfl⟩
      · rcases eb with ⟨_, e⟩ | ⟨k2, _⟩
        · exact e
        · exact absurd k k2
      · rcases eb with ⟨k2, _⟩ | ⟨_, e⟩
        · exact absurd k2 k
        · exact e
    · obtain ⟨w1, w2, w3, w4, w5⟩ := hJ.2
      have f33 : ∀ j, gI s1 33 0 j = gI s 33 0 j := fun j => fr_K F1 33 (by decide) 0 j
      have f16 : ∀ j, gI s2 16 0 j = gI s1 16 0 j := fun j => fr_K F2 16 (by decide) 0 j
      refine ⟨fun j hj => ?_, ?_, ?_, ?_, ?_⟩
      · have := stR_det (fun j hj => (w1 j hj).trans (f33 (23 + j)).symm) T1 T2 j hj
        rw [f16]
        exact this
      · rw [fr_k F2 33 0 37 (by decide +kernel), f33]
        exact w2
      · exact DK_k (o17_ok (by decide +kernel) F2) (o48_ok (by decide +kernel) F2) (DK_k (o17_ok (by decide +kernel) F1) (o48_ok (by decide +kernel) F1) w3)
      · exact DK_k (o17_ok (by decide +kernel) F2) (o48_ok (by decide +kernel) F2) (DK_k (o17_ok (by decide +kernel) F1) (o48_ok (by decide +kernel) F1) w4)
      · rw [fr_k F2 33 0 36 (by decide +kernel), fr_k F2 33 0 35 (by decide +kernel), f33, f33]
        exact w5
  rcases ea with ⟨k, e⟩ | ⟨k, e⟩
  · exact main 1 e (Or.inl ⟨k, rfl⟩)
  · exact main 0 e (Or.inr ⟨k, rfl⟩)
end PN
/-! dig: both sides in a row. -/
section PG
variable {s : LMem} {Q : LPost}
theorem nI_inj {a b : Nat} (ha : a < 2147483648) (hb : b < 2147483648) (h : nI a = nI b) : a = b := by
  have := congrArg Int32.toInt h
  rw [nI_toInt (by omega), nI_toInt (by omega)] at this
  omega
theorem prd_dig {a b c : Int32} {l : Int64} (hJ : zD s) (h : ∀ v s1, y_J x_X s1 → (∀ i j, gI s1 65 i j = gI s 65 i j) → (∀ a' b' c' l', a' = a → b' = b → c' = c → l' = l → qC false 1200 246 [lR 33 (some 0), lI a', lI b', lI c', lL l'] s1 (prd s1 v)) → Q (some (lI v)) s1) : qC false 1200 162 [lR 0 (some 0), lI a, lI b, lI c, lL l] s Q := by
  have J := hJ.1.1.1
  have a0 := dg_11Q (d := 1130) (a := a) (b := b) (c := c) (l := l) (s := s) (Q := fun r m => (∃ (i f : Nat), ∃ g z, (i : Int) < (gI s 15 0 0).toInt ∧ a = nI i ∧ b = nI f ∧ ((c = -1 ∧ g = none) ∨ ∃ y : Nat, c = nI y ∧ g = some y) ∧ dgP (gI s 15 0 0) (gI s 15 0 1) a b c ∧ gI s 4 i 1 = nI z ∧ z ≤ 20 ∧ dgK 0 z (some f) g l m ∧ r = some (lI 1)) ∨ (¬ dgP (gI s 15 0 0) (gI s 15 0 1) a b c ∧ r = some (lI 0) ∧ m = s)) J (fun x _ => by
    obtain ⟨z, hz, ez⟩ := y_nIof2 (N := 20) (x := gI s 4 x 1) (J.1 4 x 1 (1, 1, 0, 20) (by decide) (by decide) (by decide)).1 (J.1 4 x 1 (1, 1, 0, 20) (by decide) (by decide) (by decide)).2
    exact ⟨z, hz, ez⟩) (fun i f g z m hi ea eb ec P ez hz K => Or.inl ⟨i, f, g, z, hi, ea, eb, ec, P, ez, hz, K, rfl⟩) (fun n => Or.inr ⟨n, rfl, rfl⟩)
  have b0 := kc (s := s) (As := [lR 0 (some 0), lI a, lI b, lI c, lL l]) (y_all x_X_cl h_all0 yk_X11_dig (List.mem_of_getElem? (i := 122) rfl)) (by decide +kernel) rfl ⟨y_rcv, z_in_top _, z_in_top _, z_in_top _, trivial, trivial⟩ hJ.1
  refine qC_mono (qC_and a0 b0) fun r s1 q => ?_
  obtain ⟨O, z1, x1, F1⟩ := q
  have f33 : ∀ j, gI s1 33 0 j = gI s 33 0 j := fun j => fr_K F1 33 (by decide +kernel) 0 j
  have f15 : ∀ j, gI s1 15 0 j = gI s 15 0 j := fun j => fr_K F1 15 (by decide +kernel) 0 j
  obtain ⟨⟨J0, l0, _, _, _, _, _, e0, e1, _⟩, C⟩ := hJ.1
  obtain ⟨w1, w2, w3, w4, w5⟩ := hJ.2
  have main : ∀ v, r = some (lI v) → ((∃ (i f : Nat), ∃ g z, (i : Int) < (gI s 15 0 0).toInt ∧ a = nI i ∧ b = nI f ∧ ((c = -1 ∧ g = none) ∨ ∃ y : Nat, c = nI y ∧ g = some y) ∧ dgP (gI s 15 0 0) (gI s 15 0 1) a b c ∧ gI s 4 i 1 = nI z ∧ z ≤ 20 ∧ dgK 0 z (some f) g l s1 ∧ v = 1) ∨ (¬ dgP (gI s 15 0 0) (gI s 15 0 1) a b c ∧ v = 0 ∧ s1 = s)) → Q r s1 := fun v er OO => by
    clear O
    subst er
    refine h v s1 z1.1.1 x1 fun a' b' c' l' ea eb ec el => ?_
    subst ea eb ec el
    have a2 := dg_12Q (d := 1140) (a := a') (b := b') (c := c') (l := l') (s := s1) (Q := fun r m => (∃ i : Nat, (i : Int) < (gI s1 33 0 21).toInt ∧ a' = nI i ∧ dgP (gI s1 33 0 21) (gI s1 33 0 13) a' b' c' ∧ gI m 48 0 272 = gI s1 44 0 i ∧ gI m 48 0 273 = 0 ∧ gI m 48 0 277 = b' ∧ gI m 48 0 278 = c' ∧ gL m 33 0 30 = l' ∧ gI m 33 0 35 = 1 ∧ r = some (lI 1)) ∨ (¬ dgP (gI s1 33 0 21) (gI s1 33 0 13) a' b' c' ∧ r = some (lI 0) ∧ m = s1)) z1.1.1 (fun i m hi ea P k1 k2 k3 k4 k5 k6 => Or.inl ⟨i, hi, ea, P, k1, k2, k3, k4, k5, k6, rfl⟩) (fun n => Or.inr ⟨n, rfl, rfl⟩)
    have b2 := kc (s := s1) (As := [lR 33 (some 0), lI a', lI b', lI c', lL l']) h_X12_dig (by decide +kernel) rfl ⟨y_rcv, z_in_top _, z_in_top _, z_in_top _, trivial, trivial⟩ z1
    refine qC_mono (qC_and a2 b2) fun r2 s2 q => ?_
    obtain ⟨O2, z2, x2, F2⟩ := q
    have eP : dgP (gI s1 33 0 21) (gI s1 33 0 13) a' b' c' = dgP (gI s 15 0 0) (gI s 15 0 1) a' b' c' := by rw [f33, f33, e0, e1]
    rw [eP] at O2
    rcases OO with ⟨i, f, g, z, hi, ea, eb, ec, P, ez, hz, ⟨k1, k2, k3, k4, k5, k6⟩, rfl⟩ | ⟨nP, rfl, es⟩
    · rcases O2 with ⟨i2, hi2, ea2, _, t1, t2, t3, t4, t5, t6, er2⟩ | ⟨nP, _⟩
      · refine ⟨er2, ⟨z2, ?_⟩, x2⟩
        have b21 : (gI s 33 0 21).toInt ≤ 4 := (J.1 33 0 21 (21, 21, 0, 4) (by decide) (by decide) (by decide)).2
        rw [f33] at hi2
        rw [e0] at hi
        have ei : i2 = i := nI_inj (by omega) (by omega) (ea2.symm.trans ea)
        subst ei
        have T := J.2.2.2.1 i2 (by unfold xI; omega) (by omega)
        have ci : i2 < (gI s 33 0 21).toNatClampNeg := by
          obtain ⟨D, hD, eD⟩ := nI_up (x := gI s 33 0 21) (hi := 4) (by omega) b21 (by decide)
          rw [eD, nI_clamp (by omega)]
          rw [eD, nI_toInt (by omega)] at hi
          omega
        have e44 : gI s 4 i2 1 = gI s 44 0 i2 := (C.1 i2 ci).1
        have z2 : 2 ≤ z := by
          have T1 : (2 : Int) ≤ (gI s 44 0 i2).toInt := T.1
          rw [← e44, ez, nI_toInt (by omega)] at T1
          omega
        have g44 : gI s1 44 0 i2 = gI s 44 0 i2 := fr_K F1 44 (by decide +kernel) 0 i2
        have g17 : ∀ j, gI s2 17 0 j = gI s1 17 0 j := fun j => fr_K F2 17 (by decide +kernel) 0 j
        have h17 : ∀ j, gR s2 17 0 j = gR s1 17 0 j ∧ gL s2 17 0 j = gL s1 17 0 j := fun j => by
          have n : ¬ y_iW yh_X12_dig.2.2.2.1 17 0 j := fun ⟨w, hw, e, _⟩ => by
            have r := List.all_eq_true.mp (show (yh_X12_dig.2.2.2.1.all fun w => !(Nat.beq w.1 17)) = true by decide +kernel) w hw
            rw [e] at r
            exact absurd r (by decide)
          exact ⟨(F2 17 0 j n).2.2, (F2 17 0 j n).2.1⟩
        refine ⟨fun j hj => ?_, ?_, Or.inr ⟨t6, ?_, ⟨?_, ?_⟩, ?_, ⟨f, ?_, ?_⟩, ?_, ?_⟩, ?_, fun _ => t6⟩
        · rw [(oW_ok (by decide +kernel) F2).1 j hj, (oW_ok (by decide +kernel) F2).2.1 j hj, (oW_ok (by decide +kernel) F1).1 j hj, (oW_ok (by decide +kernel) F1).2.1 j hj, w1 j hj]
        · rw [(oW_ok (by decide +kernel) F2).2.2, (oW_ok (by decide +kernel) F1).2.2, w2]
        · rw [(h17 4).1, k1, if_pos (by omega)]
        · rw [g17, k2, t1, g44, ← e44, ez]
        · rw [g17, k2, nI_toInt (by omega)]
          omega
        · rw [g17, k3, t2]
        · rw [(h17 6).1, k4]
        · rw [t3, eb]
        · rcases ec with ⟨q1, q2⟩ | ⟨y, q1, q2⟩
          · exact Or.inl ⟨t4.trans q1, (h17 7).1.trans (k5.trans q2)⟩
          · exact Or.inr ⟨y, (h17 7).1.trans (k5.trans q2), t4.trans q1⟩
        · rw [(h17 8).2, k6, t5]
        · exact DK_k (o17_ok (by decide +kernel) F2) (o48_ok (by decide +kernel) F2) (DK_k (o17_ok (by decide +kernel) F1) (o48_ok (by decide +kernel) F1) w4)
      · exact absurd P nP
    · rcases O2 with ⟨_, _, _, P, _⟩ | ⟨_, er2, es2⟩
      · exact absurd P nP
      · subst es2
        subst es
        exact ⟨er2, ⟨z2, hJ.2⟩, x2⟩
  rcases O with ⟨i, f, g, z, hi, ea, eb, ec, P, ez, hz, K, er⟩ | ⟨nP, er, es⟩
  · exact main 1 er (Or.inl ⟨i, f, g, z, hi, ea, eb, ec, P, ez, hz, K, rfl⟩)
  · exact main 0 er (Or.inr ⟨nP, rfl, es⟩)
end PG
