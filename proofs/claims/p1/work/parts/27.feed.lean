/-! feed, from a start: both sides count the bytes that aren't 0. -/
def qf_b (x k : Int32) : Int32 := (x.toUInt32 >>> (k.toUInt32 &&& Int32.toUInt32 31)).toInt32 &&& 255
def qf_n (v : Int32) : Nat := if v = 0 then 0 else 1
theorem qf_n_le (v : Int32) : qf_n v ≤ 1 := by
  unfold qf_n
  split <;> decide
def qf_B (x : Int32) : Nat := 0 + qf_n (qf_b x 24) + qf_n (qf_b x 16) + qf_n (qf_b x 8) + qf_n (qf_b x 0)
theorem qf_B_le (x : Int32) : qf_B x ≤ 4 := by
  have h1 := qf_n_le (qf_b x 24)
  have h2 := qf_n_le (qf_b x 16)
  have h3 := qf_n_le (qf_b x 8)
  have h4 := qf_n_le (qf_b x 0)
  unfold qf_B
  omega
theorem qf_bin1 {d n bc bs : Nat} {x k k' : Int32} {s : LMem} {Q : LPost} (hk : ¬ k < 0) (hk' : k + -8 = k') (h : qW false d 108 bc bs 5 [some (lI x), some (lI (nI (n + qf_n (qf_b x k)))), some (lI k')] [] s Q) : qW false d 108 bc bs 5 [some (lI x), some (lI (nI n)), some (lI k)] [] s Q := by
  subst hk'
  refine qa_t1_W (cut := [5]) 20 ?_
  refine And.intro (fun q => absurd q hk) (fun _ => ?_)
  refine And.intro (fun e => ?_) (fun e => ?_)
  · rw [show qf_n (qf_b x k) = 0 from if_pos e] at h
    exact h
  · rw [show qf_n (qf_b x k) = 1 from if_neg e, ← nI_1] at h
    exact h
theorem qf_bin {d : Nat} {x : Int32} {s : LMem} {Q : LPost} (h : Q (some (lI (nI (qf_B x)))) s) : qW false d 108 0 0 0 (qa_mk [lI x] 3) [] s Q := by
  refine qa_t1_W (cut := [5]) 20 ?_
  refine qf_bin1 (n := 0) (k' := 16) (by decide) (by decide) ?_
  refine qf_bin1 (k' := 8) (by decide) (by decide) ?_
  refine qf_bin1 (k' := 0) (by decide) (by decide) ?_
  refine qf_bin1 (k' := -8) (by decide) (by decide) ?_
  refine qa_t1_W (cut := [5]) 20 ?_
  exact And.intro (fun _ => h) (fun q => absurd (by decide) q)
/-- how many bytes the two hold; the script stays -/
def qf_I (s0 s : LMem) (c m : Nat) : Prop := gI s 1 0 1 = nI c ∧ gI s 33 0 2 = nI m ∧ ∀ i j, gI s 65 i j = gI s0 65 i j
section QF
variable {s0 : LMem}
theorem qf_s1 {s : LMem} {c m k i j : Nat} {v : Int32} (hk : k ≠ 1) (hk2 : k ≠ 33) (hk3 : k ≠ 65) (h : qf_I s0 s c m) : qf_I s0 (sI (sI s k i j v) 1 0 1 (gI (sI s k i j v) 1 0 1 + 1)) (c + 1) m := by
  refine ⟨?_, ?_, fun i' j' => ?_⟩
  · rw [gI_sI, if_pos ⟨rfl, rfl, rfl⟩, gI_sI, if_neg (fun q => hk q.1.symm), h.1, nI_1]
  · rw [gI_sI, if_neg (fun q => absurd q.1 (by decide)), gI_sI, if_neg (fun q => hk2 q.1.symm)]
    exact h.2.1
  · rw [gI_sI, if_neg (fun q => absurd q.1 (by decide)), gI_sI, if_neg (fun q => hk3 q.1.symm)]
    exact h.2.2 i' j'
theorem qf_s2 {s : LMem} {c m k i j : Nat} {v : Int32} (hk : k ≠ 1) (hk2 : k ≠ 33) (hk3 : k ≠ 65) (h : qf_I s0 s c m) : qf_I s0 (sI (sI s k i j v) 33 0 2 (gI (sI s k i j v) 33 0 2 + 1)) c (m + 1) := by
  refine ⟨?_, ?_, fun i' j' => ?_⟩
  · rw [gI_sI, if_neg (fun q => absurd q.1 (by decide)), gI_sI, if_neg (fun q => hk q.1.symm)]
    exact h.1
  · rw [gI_sI, if_pos ⟨rfl, rfl, rfl⟩, gI_sI, if_neg (fun q => hk2 q.1.symm), h.2.1, nI_1]
  · rw [gI_sI, if_neg (fun q => absurd q.1 (by decide)), gI_sI, if_neg (fun q => hk3 q.1.symm)]
    exact h.2.2 i' j'
theorem qf_app1 {d c m bc bs : Nat} {x k k' : Int32} {l3 : Option LV} {s : LMem} {Q : LPost} (hk : ¬ k < 0) (hk' : k + -8 = k') (hc : c < 200) (hI : qf_I s0 s c m)
    (h : ∀ s' l3, qf_I s0 s' (c + qf_n (qf_b x k)) m → qW false d 109 bc bs 3 [some (lR 1 (some 0)), some (lI x), some (lI k'), l3] [] s' Q) : qW false d 109 bc bs 3 [some (lR 1 (some 0)), some (lI x), some (lI k), l3] [] s Q := by
  subst hk'
  refine qa_t1_W (cut := [3]) 40 ?_
  refine And.intro (fun q => absurd q hk) (fun _ => ?_)
  refine And.intro (fun e => ?_) (fun e => ?_)
  · exact h s _ (by rw [show qf_n (qf_b x k) = 0 from if_pos e]; exact hI)
  · have hlt : gI s 1 0 1 < 200 := by
      rw [hI.1]
      exact nI_lt (b := 200) hc (by decide)
    have hv : qa_vin (gI s 1 0 1) 200 := by
      rw [hI.1]
      exact nI_in hc (by decide)
    refine And.intro (fun _ => ?_) (fun q => absurd hlt q)
    refine And.intro hv ?_
    exact h _ _ (by rw [show qf_n (qf_b x k) = 1 from if_neg e]; exact qf_s1 (by decide) (by decide) (by decide) hI)
theorem qf_app {d c m : Nat} {x : Int32} {s : LMem} {Q : LPost} (hc : c + 4 ≤ 200) (hI : qf_I s0 s c m) (h : ∀ s', qf_I s0 s' (c + qf_B x) m → Q none s') : qW false d 109 0 0 0 (qa_mk [lR 1 (some 0), lI x] 4) [] s Q := by
  have h1 := qf_n_le (qf_b x 24)
  have h2 := qf_n_le (qf_b x 16)
  have h3 := qf_n_le (qf_b x 8)
  refine qa_t1_W (cut := [3]) 20 ?_
  refine qf_app1 (k' := 16) (by decide) (by decide) (by omega) hI fun s1 l1 g1 => ?_
  refine qf_app1 (k' := 8) (by decide) (by decide) (by omega) g1 fun s2 l2 g2 => ?_
  refine qf_app1 (k' := 0) (by decide) (by decide) (by omega) g2 fun s3 l3 g3 => ?_
  refine qf_app1 (k' := -8) (by decide) (by decide) (by omega) g3 fun s4 l4 g4 => ?_
  refine qa_t1_W (cut := [3]) 20 ?_
  refine And.intro (fun _ => ?_) (fun q => absurd (by decide) q)
  refine h s4 ?_
  rw [show c + qf_B x = c + qf_n (qf_b x 24) + qf_n (qf_b x 16) + qf_n (qf_b x 8) + qf_n (qf_b x 0) by unfold qf_B; omega]
  exact g4
def qf_T (a b e f g : Int32) : Nat := qf_B a + qf_B b + qf_B e + qf_B f + qf_B g
theorem qf_take {d c m : Nat} {a b e f g : Int32} {s : LMem} {Q : LPost} (hc : c + 20 ≤ 200) (hI : qf_I s0 s c m) (h : ∀ s', qf_I s0 s' (c + qf_T a b e f g) m → Q (some (lI (nI (c + qf_T a b e f g)))) s') : qW false (d + 1) 107 0 0 0 (qa_mk [lR 1 (some 0), lI a, lI b, lI e, lI f, lI g] 7) [] s Q := by
  have h1 := qf_B_le a
  have h2 := qf_B_le b
  have h3 := qf_B_le e
  have h4 := qf_B_le f
  have h5 := qf_B_le g
  refine qa_t1_W (cut := []) 60 ?_
  refine qC_of rfl rfl (qf_bin (Exists.intro _ (And.intro rfl ?_)))
  refine qC_of rfl rfl (qf_bin (Exists.intro _ (And.intro rfl ?_)))
  refine qC_of rfl rfl (qf_bin (Exists.intro _ (And.intro rfl ?_)))
  refine qC_of rfl rfl (qf_bin (Exists.intro _ (And.intro rfl ?_)))
  refine qC_of rfl rfl (qf_bin (Exists.intro _ (And.intro rfl ?_)))
  have hle : ¬ (200 : Int32) < gI s 1 0 1 + (nI (qf_B a) + nI (qf_B b) + nI (qf_B e) + nI (qf_B f) + nI (qf_B g)) := by
    rw [hI.1, nI_add, nI_add, nI_add, nI_add, nI_add]
    exact nI_nlt (b := c + (qf_B a + qf_B b + qf_B e + qf_B f + qf_B g)) (a := 200) (by omega) (by decide)
  refine And.intro (fun q => absurd q hle) (fun _ => ?_)
  refine qC_of rfl rfl (qf_app (by omega) hI fun s1 g1 => And.intro rfl ?_)
  refine qC_of rfl rfl (qf_app (by omega) g1 fun s2 g2 => And.intro rfl ?_)
  refine qC_of rfl rfl (qf_app (by omega) g2 fun s3 g3 => And.intro rfl ?_)
  refine qC_of rfl rfl (qf_app (by omega) g3 fun s4 g4 => And.intro rfl ?_)
  refine qC_of rfl rfl (qf_app (by omega) g4 fun s5 g5 => And.intro rfl ?_)
  have g6 : qf_I s0 s5 (c + qf_T a b e f g) m := by
    rw [show c + qf_T a b e f g = c + qf_B a + qf_B b + qf_B e + qf_B f + qf_B g by unfold qf_T; omega]
    exact g5
  have h6 := h s5 g6
  rw [← g6.1] at h6
  exact h6
theorem qf_feedC {d c m : Nat} {a b e f g : Int32} {s : LMem} {Q : LPost} (hc : c + 20 ≤ 200) (hI : qf_I s0 s c m) (h : ∀ s', qf_I s0 s' (c + qf_T a b e f g) m → Q (some (lI (nI (c + qf_T a b e f g)))) s') : qW false (d + 2) 143 0 0 0 (qa_mk [lR 0 (some 0), lI a, lI b, lI e, lI f, lI g] 6) [] s Q := by
  refine qa_t1_W (cut := []) 20 ?_
  exact qC_of rfl rfl (qf_take hc hI fun s' h9 => Exists.intro _ (And.intro rfl (h s' h9)))
/-- the other side -/
def qf_w (a b e f g i : Int32) : Int32 := if i < 4 then a else if i < 8 then b else if i < 12 then e else if i < 16 then f else g
def qf_y (a b e f g i : Int32) : Int32 := (qf_w a b e f g i >>> ((24 - 8 * (i - i / 4 * 4)) &&& 31)) &&& 255
theorem qf_byteOf {d : Nat} {a b e f g i : Int32} {s : LMem} {Q : LPost} (h : Q (some (lI (qf_y a b e f g i))) s) : qW false d 202 0 0 0 (qa_mk [lI a, lI b, lI e, lI f, lI g, lI i] 7) [] s Q := by
  have h4 : ¬ (4 : Int32) = 0 := by decide
  unfold qf_y qf_w at h
  refine qa_t1_W (cut := []) 40 ?_
  refine And.intro (fun h1 => ?_) (fun h1 => ?_)
  · rw [if_pos h1] at h
    exact And.intro h4 h
  rw [if_neg h1] at h
  refine And.intro (fun h1 => ?_) (fun h1 => ?_)
  · rw [if_pos h1] at h
    exact And.intro h4 h
  rw [if_neg h1] at h
  refine And.intro (fun h1 => ?_) (fun h1 => ?_)
  · rw [if_pos h1] at h
    exact And.intro h4 h
  rw [if_neg h1] at h
  refine And.intro (fun h1 => ?_) (fun h1 => ?_)
  · rw [if_pos h1] at h
    exact And.intro h4 h
  rw [if_neg h1] at h
  exact And.intro h4 h
def qf_C (a b e f g : Int32) : Nat → Nat
  | 0 => 0
  | i + 1 => qf_C a b e f g i + qf_n (qf_y a b e f g (nI i))
theorem qf_C_le (a b e f g : Int32) : ∀ i, qf_C a b e f g i ≤ i
  | 0 => Nat.le_refl 0
  | i + 1 => Nat.add_le_add (qf_C_le a b e f g i) (qf_n_le _)
variable {d bc bs : Nat} {a b e f g : Int32} {T : Option LV} {s : LMem} {Q : LPost}
theorem qf_l1 (h : qW false (d + 1) 203 bc bs 44 [T, some (lI a), some (lI b), some (lI e), some (lI f), some (lI g), some (lI (nI (qf_C a b e f g 20))), some (lI (nI 20)), none] [] s Q) : ∀ j i, i + j = 20 → qW false (d + 1) 203 bc bs 6 [T, some (lI a), some (lI b), some (lI e), some (lI f), some (lI g), some (lI (nI (qf_C a b e f g i))), some (lI (nI i)), none] [] s Q := by
  intro j
  induction j with
  | zero =>
    intro i hi
    have hi : i = 20 := hi
    subst hi
    refine qa_t1_W (cut := [44]) 10 ?_
    exact And.intro (fun q => absurd q (by decide)) (fun _ => h)
  | succ j ih =>
    intro i hi
    have ih := ih (i + 1) (by omega)
    have hlt : nI i < 20 := nI_lt (b := 20) (by omega) (by decide)
    refine qa_t1_W (cut := [6]) 40 ?_
    refine And.intro (fun _ => ?_) (fun q => absurd hlt q)
    refine qC_of rfl rfl (qf_byteOf (Exists.intro _ (And.intro rfl ?_)))
    refine And.intro (fun e0 => ?_) (fun e0 => ?_)
    · rw [show qf_C a b e f g (i + 1) = qf_C a b e f g i + 0 from congrArg (qf_C a b e f g i + ·) (if_pos e0), ← nI_add, nI_succ] at ih
      exact ih
    · rw [show qf_C a b e f g (i + 1) = qf_C a b e f g i + 1 from congrArg (qf_C a b e f g i + ·) (if_neg e0), ← nI_add, nI_succ i] at ih
      exact ih
theorem qf_l2 {c m : Nat} {l6 : Int32} (hm : m + 20 ≤ 200) (h : ∀ s' l8, qf_I s0 s' c (m + qf_C a b e f g 20) → qW false (d + 1) 203 bc bs 115 [some (lR 33 (some 0)), some (lI a), some (lI b), some (lI e), some (lI f), some (lI g), some (lI l6), some (lI (nI 20)), l8] [] s' Q) :
    ∀ j i s l8, i + j = 20 → qf_I s0 s c (m + qf_C a b e f g i) → qW false (d + 1) 203 bc bs 62 [some (lR 33 (some 0)), some (lI a), some (lI b), some (lI e), some (lI f), some (lI g), some (lI l6), some (lI (nI i)), l8] [] s Q := by
  intro j
  induction j with
  | zero =>
    intro i s l8 hi hI
    have hi : i = 20 := hi
    subst hi
    refine qa_t1_W (cut := [115]) 10 ?_
    exact And.intro (fun q => absurd q (by decide)) (fun _ => h s l8 hI)
  | succ j ih =>
    intro i s l8 hi hI
    have ih := fun s l8 => ih (i + 1) s l8 (by omega)
    have hlt : nI i < 20 := nI_lt (b := 20) (by omega) (by decide)
    have hle := qf_C_le a b e f g i
    refine qa_t1_W (cut := [62]) 60 ?_
    refine And.intro (fun _ => ?_) (fun q => absurd hlt q)
    refine qC_of rfl rfl (qf_byteOf (Exists.intro _ (And.intro rfl ?_)))
    rw [nI_succ] at ih
    refine And.intro (fun e0 => ?_) (fun e0 => ?_)
    · exact ih s _ (by rw [show qf_C a b e f g (i + 1) = qf_C a b e f g i + 0 from congrArg (qf_C a b e f g i + ·) (if_pos e0)]; exact hI)
    · have hv : qa_vin (gI s 33 0 2) 200 := by
        rw [hI.2.1]
        exact nI_in (by omega) (by decide)
      refine And.intro hv ?_
      exact ih _ _ (by rw [show qf_C a b e f g (i + 1) = qf_C a b e f g i + 1 from congrArg (qf_C a b e f g i + ·) (if_neg e0)]; exact qf_s2 (by decide) (by decide) (by decide) hI)
theorem qf_feedR {c m : Nat} (hm : m + 20 ≤ 200) (hI : qf_I s0 s c m) (h : ∀ s', qf_I s0 s' c (m + qf_C a b e f g 20) → Q (some (lI (nI (m + qf_C a b e f g 20)))) s') : qW false (d + 1) 203 0 0 0 (qa_mk [lR 33 (some 0), lI a, lI b, lI e, lI f, lI g] 9) [] s Q := by
  refine qa_t1_W (cut := [6]) 10 ?_
  refine qf_l1 ?_ 20 0 rfl
  refine qa_t1_W (cut := [62]) 20 ?_
  have hle : ¬ (200 : Int32) < gI s 33 0 2 + nI (qf_C a b e f g 20) := by
    have := qf_C_le a b e f g 20
    rw [hI.2.1, nI_add]
    exact nI_nlt (a := 200) (by omega) (by decide)
  refine And.intro (fun q => absurd q hle) (fun _ => ?_)
  refine qf_l2 hm (fun s' l8 h9 => ?_) 20 0 s _ rfl hI
  refine qa_t1_W (cut := []) 10 ?_
  have h6 := h s' h9
  rw [← h9.2.1] at h6
  exact h6
end QF
/-- the bytes are the same -/
theorem qf_255 : ∀ i : Fin 32, ¬ i.val < 8 → (255#32).getLsbD i.val = false := by decide
theorem qf_bits (x : BitVec 32) (n : Nat) (hn : n ≤ 24) : x.sshiftRight n &&& 255#32 = x >>> n &&& 255#32 := by
  apply BitVec.eq_of_getLsbD_eq
  intro i hi
  rw [BitVec.getLsbD_and, BitVec.getLsbD_and, BitVec.getLsbD_sshiftRight, BitVec.getLsbD_ushiftRight]
  by_cases h8 : i < 8
  · rw [if_pos (by omega), decide_eq_false (by omega)]
    rfl
  · rw [qf_255 ⟨i, hi⟩ h8, Bool.and_false, Bool.and_false]
theorem qf_al24 (x : Int32) : (x >>> (24 : Int32)) &&& 255 = qf_b x 24 := by
  apply Int32.toBitVec_inj.mp
  exact qf_bits x.toBitVec 24 (by decide)
theorem qf_al16 (x : Int32) : (x >>> (16 : Int32)) &&& 255 = qf_b x 16 := by
  apply Int32.toBitVec_inj.mp
  exact qf_bits x.toBitVec 16 (by decide)
theorem qf_al8 (x : Int32) : (x >>> (8 : Int32)) &&& 255 = qf_b x 8 := by
  apply Int32.toBitVec_inj.mp
  exact qf_bits x.toBitVec 8 (by decide)
theorem qf_al0 (x : Int32) : (x >>> (0 : Int32)) &&& 255 = qf_b x 0 := by
  apply Int32.toBitVec_inj.mp
  exact qf_bits x.toBitVec 0 (by decide)
theorem qf_ye {a b e f g i w k v : Int32} (hw : qf_w a b e f g i = w) (hk : ((24 - 8 * (i - i / 4 * 4)) &&& 31) = k) (h : (w >>> k) &&& 255 = v) : qf_y a b e f g i = v := by
  unfold qf_y
  rw [hw, hk, h]
theorem qf_same (a b e f g : Int32) : qf_C a b e f g 20 = qf_T a b e f g := by
  have h : qf_C a b e f g 20 = 0 + qf_n (qf_y a b e f g (nI 0)) + qf_n (qf_y a b e f g (nI 1)) + qf_n (qf_y a b e f g (nI 2)) + qf_n (qf_y a b e f g (nI 3)) + qf_n (qf_y a b e f g (nI 4)) + qf_n (qf_y a b e f g (nI 5)) + qf_n (qf_y a b e f g (nI 6)) + qf_n (qf_y a b e f g (nI 7)) + qf_n (qf_y a b e f g (nI 8)) + qf_n (qf_y a b e f g (nI 9)) + qf_n (qf_y a b e f g (nI 10)) + qf_n (qf_y a b e f g (nI 11)) + qf_n (qf_y a b e f g (nI 12)) + qf_n (qf_y a b e f g (nI 13)) + qf_n (qf_y a b e f g (nI 14)) + qf_n (qf_y a b e f g (nI 15)) + qf_n (qf_y a b e f g (nI 16)) + qf_n (qf_y a b e f g (nI 17)) + qf_n (qf_y a b e f g (nI 18)) + qf_n (qf_y a b e f g (nI 19)) := rfl
  rw [qf_ye (i := nI 0) (w := a) (k := 24) rfl (by decide) (qf_al24 a)] at h
  rw [qf_ye (i := nI 1) (w := a) (k := 16) rfl (by decide) (qf_al16 a)] at h
  rw [qf_ye (i := nI 2) (w := a) (k := 8) rfl (by decide) (qf_al8 a)] at h
  rw [qf_ye (i := nI 3) (w := a) (k := 0) rfl (by decide) (qf_al0 a)] at h
  rw [qf_ye (i := nI 4) (w := b) (k := 24) rfl (by decide) (qf_al24 b)] at h
  rw [qf_ye (i := nI 5) (w := b) (k := 16) rfl (by decide) (qf_al16 b)] at h
  rw [qf_ye (i := nI 6) (w := b) (k := 8) rfl (by decide) (qf_al8 b)] at h
  rw [qf_ye (i := nI 7) (w := b) (k := 0) rfl (by decide) (qf_al0 b)] at h
  rw [qf_ye (i := nI 8) (w := e) (k := 24) rfl (by decide) (qf_al24 e)] at h
  rw [qf_ye (i := nI 9) (w := e) (k := 16) rfl (by decide) (qf_al16 e)] at h
  rw [qf_ye (i := nI 10) (w := e) (k := 8) rfl (by decide) (qf_al8 e)] at h
  rw [qf_ye (i := nI 11) (w := e) (k := 0) rfl (by decide) (qf_al0 e)] at h
  rw [qf_ye (i := nI 12) (w := f) (k := 24) rfl (by decide) (qf_al24 f)] at h
  rw [qf_ye (i := nI 13) (w := f) (k := 16) rfl (by decide) (qf_al16 f)] at h
  rw [qf_ye (i := nI 14) (w := f) (k := 8) rfl (by decide) (qf_al8 f)] at h
  rw [qf_ye (i := nI 15) (w := f) (k := 0) rfl (by decide) (qf_al0 f)] at h
  rw [qf_ye (i := nI 16) (w := g) (k := 24) rfl (by decide) (qf_al24 g)] at h
  rw [qf_ye (i := nI 17) (w := g) (k := 16) rfl (by decide) (qf_al16 g)] at h
  rw [qf_ye (i := nI 18) (w := g) (k := 8) rfl (by decide) (qf_al8 g)] at h
  rw [qf_ye (i := nI 19) (w := g) (k := 0) rfl (by decide) (qf_al0 g)] at h
  rw [h]
  unfold qf_T qf_B
  omega
theorem z_vinj {n : Int32} (h : n = Int32.ofNat 7) {i : Int32} (h0 : ¬ i < 0) (h1 : i.toNatClampNeg < 7) : qa_vin i n.toNatClampNeg := by
  subst h
  rintro (q | q)
  · exact h0 q
  · exact absurd h1 (Nat.not_lt.mpr q)
theorem z_feed (xs : Nat → Int32) (v : Int32) (hv : v = 0) : ∃ f, qa_wq false f 1200 315 666 6845 40 qx_loc [lI v] (qx_0 xs (Int32.ofNat 7)) (fun r _ => r = some (lI 1)) := by
  subst hv
  have hl : gI (qx_0 xs (Int32.ofNat 7)) 65 1 0 = Int32.ofNat 7 := rfl
  have hI0 : qf_I (qx_0 xs (Int32.ofNat 7)) (qx_0 xs (Int32.ofNat 7)) 0 0 := ⟨show qx_ini 1 0 1 = 0 by decide, show qx_ini 33 0 2 = 0 by decide, fun _ _ => rfl⟩
  show qW false 1200 315 666 6845 40 qx_loc [lI 0] (qx_0 xs (Int32.ofNat 7)) (fun r _ => r = some (lI 1))
  refine qa_t1_W (cut := [2073]) 60 ?_
  refine And.intro (fun _ => ?_) (fun q => absurd rfl q)
  refine And.intro (z_vinj hl (by decide) (by decide)) ?_
  refine And.intro (z_vinj hl (by decide) (by decide)) ?_
  refine And.intro (z_vinj hl (by decide) (by decide)) ?_
  refine And.intro (z_vinj hl (by decide) (by decide)) ?_
  refine And.intro (z_vinj hl (by decide) (by decide)) ?_
  refine qC_of rfl rfl (qf_feedC (by decide) hI0 fun s1 g1 => Exists.intro _ (And.intro rfl ?_))
  have hl1 : gI s1 65 1 0 = Int32.ofNat 7 := (g1.2.2 1 0).trans hl
  refine And.intro (z_vinj hl1 (by decide) (by decide)) ?_
  refine And.intro (z_vinj hl1 (by decide) (by decide)) ?_
  refine And.intro (z_vinj hl1 (by decide) (by decide)) ?_
  refine And.intro (z_vinj hl1 (by decide) (by decide)) ?_
  refine And.intro (z_vinj hl1 (by decide) (by decide)) ?_
  refine qC_of rfl rfl (qf_feedR (by decide) g1 fun s2 g2 => Exists.intro _ (And.intro rfl ?_))
  refine And.intro (fun _ => ?_) (fun q => absurd (by rw [qf_same, g1.2.2 0, g1.2.2 0, g1.2.2 0, g1.2.2 0, g1.2.2 0]) q)
  have hl2 : gI s2 65 1 0 = Int32.ofNat 7 := (g2.2.2 1 0).trans hl
  have hlt : gI s2 65 1 0 - 7 < 0 + 7 := by
    rw [hl2]
    decide
  refine qa_t1_W (cut := []) 20 ?_
  refine And.intro (fun _ => ?_) (fun q => absurd hlt q)
  exact And.intro (Or.inr rfl) rfl
theorem z_loopOK : qs_loopOK := z_loop z_feed
