/-! clause: from its start. -/
theorem lx_back {i l n g ro c p q : Nat} {s m m1 m' : LMem} (hr : rd_S m m1) (hpq : p ≤ q) (H : lx_G i n l g ro c q s m1 m') : lx_G i n l g ro c p s m m' := by
  obtain ⟨c3, q3, t1, t2, t3, t4, t5, t6, t7, t8⟩ := H
  exact ⟨c3, q3, t1, t2, t3, by omega, by omega, fun k j hk hj => by rw [t6 k j hk hj, hr.1 k 0 _ (fun q => by omega)], fun k j g1 g2 => by rw [t7 k j g1 g2, hr.1 k 0 _ (fun q => by omega)], t8⟩
section CL2
variable {l n : Nat} {s : LMem}
theorem cl_104 {d bc bs j c p p1 : Nat} {m0 m M : LMem} {Q : LPost} (hn : n ≤ 6) (hn2 : xI s 33 13 ≤ (n : Int)) (hj : j ≤ 59) (hl : gI s 33 0 2 = nI l) (hl2 : l ≤ 200) (RS : rdr 0 n l 0 15 s 215 (d + 5)) (RS4 : rdr 0 n l 0 15 s 215 (d + 4)) (RC : rdr 0 n l 0 18 s 221 (d + 5)) (RA : rdr 1 n l 0 17 s 219 (d + 5)) (RO : rdr 1 n l 0 18 s 220 (d + 5)) (eM : M = m) (P : lx_P n l 0 c p1 s m) (B : cb n j c m0 m) (hp1 : p + 2 ≤ p1) (h : ∀ m', cl_O n l j c p s m0 m' → Q none m') : qW false (d + 5) 222 bc bs 104 [some (lR 33 (some 0)), some (lI (nI (60 * n + j))), none] [] M Q := by
  subst eM
  obtain ⟨S0, h3, hpl, hcp, h4, h5⟩ := P
  have RS3 : rdr 0 n l 0 15 s 215 (d + 2 + 3) := RS
  refine qa_t1_W (cut := [183]) 200 ?_
  refine h_look (lr_l S0 hl) hl2 h3 (by omega) fun m6 q6 r6 k4 k5 k3 hq hq2 _ => Exists.intro _ (And.intro rfl ?_)
  have cond : ∀ m7 q7, rd_S M m7 → gI m7 33 0 3 = nI q7 → p1 ≤ q7 → q7 ≤ l → gI m7 33 0 4 = -1 → gI m7 33 0 5 = nI 0 → qC false (d + 5) 221 [lR 33 (some 0)] m7 (fun r m8 => r = none ∧ qW false (d + 5) 222 bc bs 183 [some (lR 33 (some 0)), some (lI (nI (60 * n + j))), some (lI 1)] [] m8 Q) := fun m7 q7 r7 y3 y1 y2 y4 y5 =>
    RC c q7 m7 _ ⟨lr_rd S0 r7, y3, y2, by omega, y4, y5⟩ fun m8 hm8 => And.intro rfl (cl_183 (d := d + 2) hn hn2 hj hl hl2 RS3 (Or.inr rfl) (cb_rd B r7) hm8 (by decide) (by omega) (by omega) h)
  refine And.intro (fun e => ?_) (fun _ => ?_)
  · refine And.intro (fun q => absurd q (by decide)) (fun _ => ?_)
    exact cond m6 q6 r6 k3 hq (by omega) (by rw [k4, h4]) (by rw [k5, h5])
  · refine h_look (lr_l (lr_rd S0 r6) hl) hl2 k3 (by omega) fun m7 q7 r7 z4 z5 z3 hz hz2 _ => Exists.intro _ (And.intro rfl ?_)
    have r7 := rd_tr r6 r7
    have z4 : gI m7 33 0 4 = -1 := by rw [z4, k4, h4]
    have z5 : gI m7 33 0 5 = nI 0 := by rw [z5, k5, h5]
    refine And.intro (fun e => ?_) (fun _ => ?_)
    · refine And.intro (fun q => absurd q (by decide)) (fun _ => ?_)
      exact cond m7 q7 r7 z3 (by omega) (by omega) z4 z5
    · refine And.intro (fun _ => ?_) (fun q => absurd rfl q)
      have B7 := cb_rd B r7
      refine RS c q7 m7 _ ⟨lr_rd S0 r7, z3, by omega, by omega, z4, z5⟩ fun m8 hm8 => And.intro rfl ?_
      have hm8 := lx_mono (show 15 ≤ 18 by decide) hm8
      have e183 : ∀ m9 t, (t = 0 ∨ t = 1) → lx_G 0 n l 0 18 c q7 s m7 m9 → qW false (d + 5) 222 bc bs 183 [some (lR 33 (some 0)), some (lI (nI (60 * n + j))), some (lI t)] [] m9 Q := fun m9 t ht hm9 =>
        cl_183 (d := d + 2) hn hn2 hj hl hl2 RS3 ht B7 hm9 (by decide) (by omega) (by omega) h
      refine And.intro (fun w => ?_) (fun _ => And.intro (fun _ => e183 m8 0 (Or.inl rfl) hm8) (fun q => absurd rfl q))
      have w : gI m8 33 0 4 = -1 := w
      obtain ⟨c1, q1, P8, y1, y2, K8⟩ := lx_app (by omega) hm8 w
      have P8' := P8
      obtain ⟨S8, x3, xl, xc, x4, x5⟩ := P8
      refine h_look (lr_l S8 hl) hl2 x3 (by omega) fun m9 q9 r9 v4 v5 v3 hv hv2 _ => Exists.intro _ (And.intro rfl ?_)
      have v4 : gI m9 33 0 4 = -1 := by rw [v4, x4]
      have v5 : gI m9 33 0 5 = nI 0 := by rw [v5, x5]
      refine h_isSign (fun hs => Exists.intro 1 (And.intro rfl ?_)) (fun hs => Exists.intro 0 (And.intro rfl ?_))
      · refine And.intro (fun q => absurd q (by decide)) (fun _ => ?_)
        refine And.intro (fun q => absurd q (by decide)) (fun _ => ?_)
        have ors : ∀ m11, lx_G 0 n l 0 18 c q7 s m7 m11 → qC false (d + 5) 220 [lR 33 (some 0)] m11 (fun r m12 => r = none ∧ qW false (d + 5) 222 bc bs 183 [some (lR 33 (some 0)), some (lI (nI (60 * n + j))), some (lI 1)] [] m12 Q) := fun m11 hm11 => by
          by_cases w : gI m11 33 0 4 = -1
          · obtain ⟨c3, q3, P3, _, _, K3⟩ := lx_app (by omega) hm11 w
            exact RO c3 q3 m11 _ P3 fun m12 hm12 => And.intro rfl (e183 m12 1 (Or.inr rfl) (K3 m12 hm12))
          · exact h_or_x w (And.intro rfl (e183 m11 1 (Or.inr rfl) hm11))
        have ands : ∀ m10, lx_G 0 n l 0 18 c q7 s m7 m10 → qC false (d + 5) 219 [lR 33 (some 0)] m10 (fun r m11 => r = none ∧ qC false (d + 5) 220 [lR 33 (some 0)] m11 (fun r m12 => r = none ∧ qW false (d + 5) 222 bc bs 183 [some (lR 33 (some 0)), some (lI (nI (60 * n + j))), some (lI 1)] [] m12 Q)) := fun m10 hm10 => by
          by_cases w : gI m10 33 0 4 = -1
          · obtain ⟨c3, q3, P3, _, _, K3⟩ := lx_app (by omega) hm10 w
            exact RA c3 q3 m10 _ P3 fun m11 hm11 => And.intro rfl (ors m11 (K3 m11 (lx_mono (show 17 ≤ 18 by decide) hm11)))
          · exact h_and_x w (And.intro rfl (ors m10 hm10))
        refine h_compare (g := 0) (by decide) hn hn2 (by decide) hl hl2 RS4 ⟨lr_rd S8 r9, v3, by omega, by omega, v4, v5⟩ fun m10 hm10 => And.intro rfl ?_
        exact ands m10 (K8 m10 (lx_back r9 hv (lx_mono (show 15 + 1 ≤ 18 by decide) hm10)))
      · refine And.intro (fun _ => ?_) (fun q => absurd rfl q)
        refine And.intro (fun _ => ?_) (fun q => absurd rfl q)
        exact e183 m9 0 (Or.inl rfl) (K8 m9 (lx_id P8' r9 v3 hv (by omega) v4 v5))
theorem cl_18 {d bc bs j c p : Nat} {kk : Int32} {m : LMem} {Q : LPost} (hn : n ≤ 6) (hn2 : xI s 33 13 ≤ (n : Int)) (hj : j ≤ 59) (hl : gI s 33 0 2 = nI l) (hl2 : l ≤ 200) (RS : rdr 0 n l 0 15 s 215 (d + 5)) (RS4 : rdr 0 n l 0 15 s 215 (d + 4)) (RC : rdr 0 n l 0 18 s 221 (d + 5)) (RA : rdr 1 n l 0 17 s 219 (d + 5)) (RO : rdr 1 n l 0 18 s 220 (d + 5)) (ekk : kk = nI (60 * n + j)) (P : lx_P n l 0 c p s m) (h38 : gI m 38 0 n = nI j) (h : ∀ m', cl_O n l j c p s m m' → Q none m') : qW false (d + 5) 222 bc bs 18 [some (lR 33 (some 0)), some (lI kk), none] [] m Q := by
  subst ekk
  have en : (nI n).toNatClampNeg = n := nI_clamp (by omega)
  have ek : (nI (60 * n + j)).toNatClampNeg = 60 * n + j := nI_clamp (by omega)
  have vk : qa_vin (nI (60 * n + j)) 420 := nI_in (by omega) (by decide)
  obtain ⟨S0, h3, hpl, hcp, h4, h5⟩ := P
  refine qa_t1_W (cut := [104]) 200 ?_
  refine And.intro (fun _ => ?_) (fun w => absurd h4 w)
  refine h_look (lr_l S0 hl) hl2 h3 (by omega) fun m1 q1 r1 k4 k5 k3 hq hq2 _ => Exists.intro _ (And.intro rfl ?_)
  refine And.intro (fun e => ?_) (fun _ => ?_)
  · have hq3 := rch_lt (x := 121) (by decide) e
    have r2 := rd_tr r1 (rd_s (s := m1) (v := gI m1 33 0 3 + 1) (Or.inl rfl : (3 : Nat) = 3 ∨ (3 : Nat) = 4 ∨ (3 : Nat) = 5) rd_0)
    have a2 : gI (sI m1 33 0 3 (gI m1 33 0 3 + 1)) 33 0 3 = nI (q1 + 1) := by rw [gI_sI, if_pos ⟨rfl, rfl, rfl⟩, k3, nI_1]
    have w2 : gI (sI m1 33 0 3 (gI m1 33 0 3 + 1)) 33 0 4 = -1 := by rw [gI_sI, if_neg (fun q => absurd q.2.2 (by decide)), k4, h4]
    have d2 : gI (sI m1 33 0 3 (gI m1 33 0 3 + 1)) 33 0 5 = nI 0 := by rw [gI_sI, if_neg (fun q => absurd q.2.2 (by decide)), k5, h5]
    refine And.intro (fun _ => ?_) (fun w => absurd w2 w)
    refine h_look (lr_l (lr_rd S0 r2) hl) hl2 a2 (by omega) fun m3 q3 r3 z4 z5 z3 hz hz2 _ => Exists.intro _ (And.intro rfl ?_)
    have r3 := rd_tr r2 r3
    have z4 : gI m3 33 0 4 = -1 := z4.trans w2
    have z5 : gI m3 33 0 5 = nI 0 := z5.trans d2
    refine And.intro (fun e => ?_) (fun _ => ?_)
    · have hq5 := rch_lt (x := 58) (by decide) e
      have r4 := rd_tr r3 (rd_s (s := m3) (v := gI m3 33 0 3 + 1) (Or.inl rfl : (3 : Nat) = 3 ∨ (3 : Nat) = 4 ∨ (3 : Nat) = 5) rd_0)
      have S4 := lr_rd S0 r4
      have a4 : gI (sI m3 33 0 3 (gI m3 33 0 3 + 1)) 33 0 3 = nI (q3 + 1) := by rw [gI_sI, if_pos ⟨rfl, rfl, rfl⟩, z3, nI_1]
      have w4 : gI (sI m3 33 0 3 (gI m3 33 0 3 + 1)) 33 0 4 = -1 := by rw [gI_sI, if_neg (fun q => absurd q.2.2 (by decide)), z4]
      have d4 : gI (sI m3 33 0 3 (gI m3 33 0 3 + 1)) 33 0 5 = nI 0 := by rw [gI_sI, if_neg (fun q => absurd q.2.2 (by decide)), z5]
      have v7 : qa_vin (gI (sI m3 33 0 3 (gI m3 33 0 3 + 1)) 33 0 14) 7 := by rw [S4.2.2.1]; exact nI_in (by omega) (by decide)
      have a5 : sI (sI m3 33 0 3 (gI m3 33 0 3 + 1)) 39 0 (nI (60 * n + j)).toNatClampNeg (gI (sI m3 33 0 3 (gI m3 33 0 3 + 1)) 37 0 (gI (sI m3 33 0 3 (gI m3 33 0 3 + 1)) 33 0 14).toNatClampNeg) = sI (sI m3 33 0 3 (gI m3 33 0 3 + 1)) 39 0 (60 * n + j) (nI c) := by rw [S4.2.2.1, en, S4.2.2.2, ek]
      have g5 : ∀ k' j', ¬ (k' = 39 ∧ j' = 60 * n + j) → gI (sI (sI m3 33 0 3 (gI m3 33 0 3 + 1)) 39 0 (60 * n + j) (nI c)) k' 0 j' = gI (sI m3 33 0 3 (gI m3 33 0 3 + 1)) k' 0 j' := fun k' j' g1 => by
        rw [gI_sI, if_neg (fun q => g1 ⟨q.1, q.2.2⟩)]
      refine And.intro (fun _ => ?_) (fun w => absurd w4 w)
      refine And.intro v7 (And.intro vk ?_)
      refine cl_104 (p1 := q3 + 1) (c := c) hn hn2 hj hl hl2 RS RS4 RC RA RO a5 ⟨lr_c hn hn2 hj (Or.inl rfl) S4, ?_, by omega, by omega, ?_, ?_⟩ ⟨?_, ?_, fun k i hk hi => ?_, fun k i y1 y2 y3 => ?_⟩ (by omega) h
      · rw [g5 33 3 (fun q => by omega), a4]
      · rw [g5 33 4 (fun q => by omega), w4]
      · rw [g5 33 5 (fun q => by omega), d4]
      · rw [g5 38 _ (fun q => by omega), r4.1 38 0 _ (fun q => by omega), h38]
      · rw [gI_sI, if_pos ⟨rfl, rfl, rfl⟩]
      · rw [g5 k _ (fun q => by omega), r4.1 k 0 _ (fun q => by omega)]
      · rw [g5 k _ (fun q => by omega), r4.1 k 0 _ (fun q => by omega)]
    · have fb : ∀ x, x ≠ -1 → ((gI (sI (sI m3 33 0 4 x) 33 0 3 (gI (sI m3 33 0 4 x) 33 0 3 + 1)) 33 0 4 ≠ -1) ∧ Q none (sI (sI m3 33 0 4 x) 33 0 3 (gI (sI m3 33 0 4 x) 33 0 3 + 1))) := fun x hx => by
        have e4 : gI (sI (sI m3 33 0 4 x) 33 0 3 (gI (sI m3 33 0 4 x) 33 0 3 + 1)) 33 0 4 = x := by
          rw [gI_sI, if_neg (fun q => absurd q.2.2 (by decide)), gI_sI, if_pos ⟨rfl, rfl, rfl⟩]
        exact ⟨by rw [e4]; exact hx, h _ (cl_no S0 (rd_s (Or.inl rfl) (rd_s (Or.inr (Or.inl rfl)) r3)) (by rw [e4]; exact hx))⟩
      exact h_bad z3 (fun _ => And.intro rfl (And.intro (fun w => absurd w (fb _ (nI_ne1 (by omega))).1) (fun _ => (fb _ (nI_ne1 (by omega))).2))) (fun w => And.intro rfl (And.intro (fun w2 => absurd w2 (fb _ w).1) (fun _ => (fb _ w).2)))
  · have fb : ∀ x, x ≠ -1 → ((gI (sI (sI m1 33 0 4 x) 33 0 3 (gI (sI m1 33 0 4 x) 33 0 3 + 1)) 33 0 4 ≠ -1) ∧ (gI (sI (sI (sI m1 33 0 4 x) 33 0 3 (gI (sI m1 33 0 4 x) 33 0 3 + 1)) 33 0 3 (gI (sI (sI m1 33 0 4 x) 33 0 3 (gI (sI m1 33 0 4 x) 33 0 3 + 1)) 33 0 3 + 1)) 33 0 4 ≠ -1) ∧ Q none (sI (sI (sI m1 33 0 4 x) 33 0 3 (gI (sI m1 33 0 4 x) 33 0 3 + 1)) 33 0 3 (gI (sI (sI m1 33 0 4 x) 33 0 3 (gI (sI m1 33 0 4 x) 33 0 3 + 1)) 33 0 3 + 1))) := fun x hx => by
      have e4 : gI (sI (sI m1 33 0 4 x) 33 0 3 (gI (sI m1 33 0 4 x) 33 0 3 + 1)) 33 0 4 = x := by
        rw [gI_sI, if_neg (fun q => absurd q.2.2 (by decide)), gI_sI, if_pos ⟨rfl, rfl, rfl⟩]
      have e5 : gI (sI (sI (sI m1 33 0 4 x) 33 0 3 (gI (sI m1 33 0 4 x) 33 0 3 + 1)) 33 0 3 (gI (sI (sI m1 33 0 4 x) 33 0 3 (gI (sI m1 33 0 4 x) 33 0 3 + 1)) 33 0 3 + 1)) 33 0 4 = x := by
        rw [gI_sI, if_neg (fun q => absurd q.2.2 (by decide)), e4]
      exact ⟨by rw [e4]; exact hx, by rw [e5]; exact hx, h _ (cl_no S0 (rd_s (Or.inl rfl) (rd_s (Or.inl rfl) (rd_s (Or.inr (Or.inl rfl)) r1))) (by rw [e5]; exact hx))⟩
    exact h_bad k3 (fun _ => And.intro rfl (And.intro (fun w => absurd w (fb _ (nI_ne1 (by omega))).1) (fun _ => And.intro (fun w => absurd w (fb _ (nI_ne1 (by omega))).2.1) (fun _ => (fb _ (nI_ne1 (by omega))).2.2)))) (fun w => And.intro rfl (And.intro (fun w2 => absurd w2 (fb _ w).1) (fun _ => And.intro (fun w2 => absurd w2 (fb _ w).2.1) (fun _ => (fb _ w).2.2))))
theorem h_clause (hn : n ≤ 6) (hn2 : xI s 33 13 ≤ (n : Int)) (hl : gI s 33 0 2 = nI l) (hl2 : l ≤ 200) {d j c p : Nat} {m : LMem} {Q : LPost} (hj : j ≤ 59) (P : lx_P n l 0 c p s m) (h38 : gI m 38 0 n = nI j) (h : ∀ m', cl_O n l j c p s m m' → Q none m') : qC false (d + 40) 222 [lR 33 (some 0)] m Q := by
  have en : (nI n).toNatClampNeg = n := nI_clamp (by omega)
  have v7 : qa_vin (gI m 33 0 14) 7 := by rw [P.1.2.2.1]; exact nI_in (by omega) (by decide)
  have S : ∀ e, rdr 0 n l 0 15 s 215 (e + 25) := fun e c p m R h1 h2 => h_sumG hn hn2 hl hl2 6 0 rfl e c p m R h1 h2
  have U : ∀ e, rdr 0 n l 0 16 s 218 (e + 30 + 3) := h_unitG hn hn2 hl hl2 6 0 rfl
  have C : rdr 0 n l 0 18 s 221 (d + 34 + 5) := h_condition (by decide) hn hn2 hl hl2 U (d + 3)
  have A : rdr 1 n l 0 17 s 219 (d + 34 + 5) := h_and (d := d + 35) (by decide) hn hn2 hl hl2 (U (d + 5))
  have A4 : rdr 1 n l 0 17 s 219 (d + 35 + 3) := h_and (d := d + 34) (by decide) hn hn2 hl hl2 (U (d + 4))
  have O : rdr 1 n l 0 18 s 220 (d + 34 + 5) := h_or (d := d + 35) (by decide) hn hn2 hl hl2 (U (d + 5)) A4
  have ekk : (60 : Int32) * gI m 33 0 14 + gI m 38 0 (gI m 33 0 14).toNatClampNeg = nI (60 * n + j) := by rw [P.1.2.2.1, en, h38, show (60 : Int32) = nI 60 from rfl, nI_mul, nI_add]
  refine qC_of rfl rfl ?_
  refine qa_t1_W (cut := [18]) 40 ?_
  exact And.intro v7 (cl_18 (d := d + 34) hn hn2 hj hl hl2 (S (d + 14)) (S (d + 13)) C A O ekk P h38 h)
end CL2
