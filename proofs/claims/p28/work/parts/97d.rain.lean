/-! NUMBERS of two digits; RAINS as functions of the bytes. -/
def numR (b : Nat → Int32) (l : Nat) (lo hi : Int32) (p : Nat) : Bool × Nat := if dgB (tc b l p) = true then (if dgB (tc b l (p + dr b l 2 p)) = true then (false, p + dr b l 2 p) else if lo.toInt ≤ (nvF b l 2 p 0).toInt ∧ (nvF b l 2 p 0).toInt ≤ hi.toInt then (true, sk b l (p + dr b l 2 p)) else (false, p + dr b l 2 p - 1)) else (false, p)
def rnF (b : Nat → Int32) (l : Nat) : Nat → Nat → Bool × Nat
  | 0, _ => (false, 0)
  | f + 1, p => sq (numR b l 0 99 p) fun q => if tc b l q = 44 ∧ 0 < f then rnF b l f (sk b l (q + 1)) else if tc b l q = -1 then (true, q) else (false, q)
def rnN (b : Nat → Int32) (l : Nat) : Nat → Nat → Nat
  | 0, _ => 0
  | f + 1, p => if tc b l (sk b l (p + dr b l 2 p)) = 44 ∧ 0 < f then rnN b l f (sk b l (sk b l (p + dr b l 2 p) + 1)) + 1 else 1
def rnP (b : Nat → Int32) (l : Nat) : Nat → Nat
  | 0 => sk b l 0
  | k + 1 => sk b l (sk b l (rnP b l k + dr b l 2 (rnP b l k)) + 1)
theorem rnP_sk {b : Nat → Int32} {l k : Nat} : sk b l (rnP b l k) = rnP b l k := by
  cases k with
  | zero => exact sk_sk 0
  | succ k => exact sk_sk _
theorem num_lt {b : Nat → Int32} {l p : Nat} (h : dgB (tc b l p) = true) : p < l := by
  rcases Nat.lt_or_ge p l with c | c
  · exact c
  · unfold tc at h
    rw [if_neg (by omega)] at h
    exact absurd h (by decide)
theorem dr_pos {b : Nat → Int32} {l n p : Nat} (h : dgB (tc b l p) = true) : 1 ≤ dr b l (n + 1) p := by
  show 1 ≤ (if dgB (tc b l p) = true then dr b l n (p + 1) + 1 else 0)
  rw [if_pos h]
  omega
/-- a number of two digits is within 0 .. 99 -/
theorem nv_99 {b : Nat → Int32} {l p : Nat} : (0 : Int32).toInt ≤ (nvF b l 2 p 0).toInt ∧ (nvF b l 2 p 0).toInt ≤ (99 : Int32).toInt := by
  obtain ⟨v, v1, v2⟩ := nv_nat (b := b) (l := l) 2 p 0 (by decide)
  have v1 : nvF b l 2 p 0 = nI v := v1
  have e99 : (99 : Int32).toInt = 99 := by decide
  rw [v1, nI_toInt (by omega), e99, i32_0']
  omega
theorem nv2_0 {b : Nat → Int32} {l p : Nat} (h : dgB (tc b l p) = true) (h2 : dgB (tc b l (p + 1)) = false) : dr b l 2 p = 1 ∧ nvF b l 2 p 0 = b p - 48 := by
  constructor
  · show (if dgB (tc b l p) = true then (if dgB (tc b l (p + 1)) = true then 0 + 1 else 0) + 1 else 0) = 1
    rw [if_pos h, if_neg (by rw [h2]; decide)]
  · show (if dgB (tc b l p) = true then (if dgB (tc b l (p + 1)) = true then _ else 0 * 10 + b p - 48) else 0) = b p - 48
    rw [if_pos h, if_neg (by rw [h2]; decide), show (0 : Int32) * 10 = 0 by decide, Int32.zero_add]
theorem nv2_1 {b : Nat → Int32} {l p : Nat} (h : dgB (tc b l p) = true) (h2 : dgB (tc b l (p + 1)) = true) : dr b l 2 p = 2 ∧ nvF b l 2 p 0 = 10 * (b p - 48) + b (p + 1) - 48 := by
  constructor
  · show (if dgB (tc b l p) = true then (if dgB (tc b l (p + 1)) = true then 0 + 1 else 0) + 1 else 0) = 2
    rw [if_pos h, if_pos h2]
  · show (if dgB (tc b l p) = true then (if dgB (tc b l (p + 1)) = true then (0 * 10 + b p - 48) * 10 + b (p + 1) - 48 else _) else 0) = _
    rw [if_pos h, if_pos h2, show (0 : Int32) * 10 = 0 by decide, Int32.zero_add, Int32.mul_comm]
section NU
variable {d bc bs l : Nat} {s : LMem} {Q : LPost}
/-- what number leaves: at behind it and its value, or what is wrong -/
def nuO (b : Nat → Int32) (l : Nat) (lo hi : Int32) (q : Nat) (v : Int32) (m : LMem) : Prop := (numR b l lo hi q = (true, sk b l (q + dr b l 2 q)) ∧ gI m 33 0 4 = -1 ∧ gI m 33 0 3 = nI (q + dr b l 2 q) ∧ v = nvF b l 2 q 0) ∨ (∃ w, numR b l lo hi q = (false, w) ∧ w ≤ 1000 ∧ gI m 33 0 4 = nI w ∧ ∃ z, z ≤ 1000 ∧ gI m 33 0 3 = nI z)
theorem nu_t {q e : Nat} {lo hi v : Int32} {m : LMem} (hl : gI s 33 0 2 = nI l) (hl2 : l ≤ 200) (hm : rd_S s m) (hd : dgB (tc (bS s) l q) = true) (he : e = q + dr (bS s) l 2 q) (he2 : e ≤ l) (hv : v = nvF (bS s) l 2 q 0) (h3 : gI m 33 0 3 = nI e) (h4 : gI m 33 0 4 = -1) (h : ∀ m v, rd_S s m → nuO (bS s) l lo hi q v m → Q (some (lI v)) m) : qW false (d + 2) 230 bc bs 67 [some (lR 33 (some 0)), some (lI lo), some (lI hi), some (lI v)] [] m Q := by
  have hl3 : gI m 33 0 2 = nI l := by rw [hm.1 33 0 2 (fun q => by omega), hl]
  have hdr : 1 ≤ dr (bS s) l 2 q := dr_pos (n := 1) hd
  refine qa_t1_W (cut := []) 60 ?_
  refine h_here hl3 hl2 h3 (by omega) (Exists.intro _ (And.intro rfl ?_))
  rw [rch_eq hm]
  refine h_dig12 (fun hg => Exists.intro 1 (And.intro rfl ?_)) (fun hg => Exists.intro 0 (And.intro rfl ?_))
  · have hg : dgB (tc (bS s) l e) = true := dgB_t hg
    refine And.intro (fun q => absurd q (by decide)) (fun _ => ?_)
    have fin : Q (some (lI v)) (sI m 33 0 4 (nI e)) := by
      refine h _ v (rd_s (Or.inr (Or.inl rfl)) hm) (Or.inr ⟨e, ?_, by omega, by rw [gI_sI, if_pos ⟨rfl, rfl, rfl⟩], e, by omega, by rw [gI_sI, if_neg (fun q => absurd q.2.2 (by decide)), h3]⟩)
      unfold numR
      rw [if_pos hd, ← he, if_pos hg]
    exact h_bad h3 (fun _ => And.intro rfl fin) (fun w => absurd h4 w)
  · have hg : dgB (tc (bS s) l e) = false := dgB_f hg
    refine And.intro (fun _ => ?_) (fun q => absurd rfl q)
    refine h_in (fun g1 g2 => Exists.intro 1 (And.intro rfl ?_)) (fun g => Exists.intro 0 (And.intro rfl ?_))
    · refine And.intro (fun q => absurd q (by decide)) (fun _ => ?_)
      rw [hv] at g1 g2
      refine h m v hm (Or.inl ⟨?_, h4, by rw [h3, he], hv⟩)
      unfold numR
      rw [if_pos hd, ← he, if_neg (by rw [hg]; decide), if_pos ⟨g1, g2⟩]
    · rw [hv] at g
      refine And.intro (fun _ => ?_) (fun q => absurd rfl q)
      have k3 : gI (sI m 33 0 3 (gI m 33 0 3 - 1)) 33 0 3 = nI (e - 1) := by
        rw [gI_sI, if_pos ⟨rfl, rfl, rfl⟩, h3]
        apply Int32.toInt_inj.mp
        rw [x_sub1' (by omega) (by omega), nI_toInt (by omega)]
        omega
      have k4 : gI (sI m 33 0 3 (gI m 33 0 3 - 1)) 33 0 4 = -1 := by rw [gI_sI, if_neg (fun q => absurd q.2.2 (by decide)), h4]
      have hm2 := rd_s (s := s) (v := gI m 33 0 3 - 1) (Or.inl rfl : (3 : Nat) = 3 ∨ (3 : Nat) = 4 ∨ (3 : Nat) = 5) hm
      have fin : Q (some (lI v)) (sI (sI m 33 0 3 (gI m 33 0 3 - 1)) 33 0 4 (nI (e - 1))) := by
        refine h _ v (rd_s (Or.inr (Or.inl rfl)) hm2) (Or.inr ⟨e - 1, ?_, by omega, by rw [gI_sI, if_pos ⟨rfl, rfl, rfl⟩], e - 1, by omega, by rw [gI_sI, if_neg (fun q => absurd q.2.2 (by decide)), k3]⟩)
        unfold numR
        rw [if_pos hd, ← he, if_neg (by rw [hg]; decide), if_neg g]
      exact h_bad k3 (fun _ => And.intro rfl fin) (fun w => absurd k4 w)
theorem h_numU {p : Nat} {lo hi : Int32} (hl : gI s 33 0 2 = nI l) (hl2 : l ≤ 200) (hp : gI s 33 0 3 = nI p) (hp2 : p ≤ 900) (hw : gI s 33 0 4 = -1) (h : ∀ m v, rd_S s m → nuO (bS s) l lo hi (sk (bS s) l p) v m → Q (some (lI v)) m) : qC false (d + 3) 230 [lR 33 (some 0), lI lo, lI hi] s Q := by
  have sk2 : sk (bS s) l p ≤ max p l := sk_le p
  refine qC_of rfl rfl ?_
  refine qa_t1_W (cut := [67]) 80 ?_
  refine h_lookF hl hl2 hp (by omega) fun m hm k4 k5 k3 => Exists.intro _ (And.intro rfl ?_)
  have hl3 : gI m 33 0 2 = nI l := by rw [hm.1 33 0 2 (fun q => by omega), hl]
  generalize hq : sk (bS s) l p = q at *
  refine h_dig12 (fun hd => Exists.intro 1 (And.intro rfl ?_)) (fun hd => Exists.intro 0 (And.intro rfl ?_))
  · refine And.intro (fun q => absurd q (by decide)) (fun _ => ?_)
    have hb := dgB_t hd
    have hql := num_lt hb
    have vq : rch s l q = bS s q := by
      show (if q < l then gI s 34 0 q else -1) = _
      rw [if_pos hql]
    refine h_here hl3 hl2 k3 (by omega) (Exists.intro _ (And.intro rfl ?_))
    rw [rch_eq hm, vq]
    have j3 : gI (sI m 33 0 3 (gI m 33 0 3 + 1)) 33 0 3 = nI (q + 1) := by rw [gI_sI, if_pos ⟨rfl, rfl, rfl⟩, k3, nI_1]
    have j4 : gI (sI m 33 0 3 (gI m 33 0 3 + 1)) 33 0 4 = -1 := by rw [gI_sI, if_neg (fun q => absurd q.2.2 (by decide)), k4, hw]
    have hm2 := rd_s (s := s) (v := gI m 33 0 3 + 1) (Or.inl rfl : (3 : Nat) = 3 ∨ (3 : Nat) = 4 ∨ (3 : Nat) = 5) hm
    have hl4 : gI (sI m 33 0 3 (gI m 33 0 3 + 1)) 33 0 2 = nI l := by rw [hm2.1 33 0 2 (fun q => by omega), hl]
    refine h_here hl4 hl2 j3 (by omega) (Exists.intro _ (And.intro rfl ?_))
    have re : rch (sI m 33 0 3 (gI m 33 0 3 + 1)) l (q + 1) = tc (bS s) l (q + 1) := rch_eq hm2
    refine h_dig12 (fun hd2 => Exists.intro 1 (And.intro rfl ?_)) (fun hd2 => Exists.intro 0 (And.intro rfl ?_))
    · refine And.intro (fun q => absurd q (by decide)) (fun _ => ?_)
      have hd2 : dg (rch (sI m 33 0 3 (gI m 33 0 3 + 1)) l (q + 1)) := hd2
      rw [re] at hd2
      have hb2 := dgB_t hd2
      have hql2 := num_lt hb2
      obtain ⟨n1, n2⟩ := nv2_1 hb hb2
      refine h_here hl4 hl2 j3 (by omega) (Exists.intro _ (And.intro rfl ?_))
      have i3 : gI (sI (sI m 33 0 3 (gI m 33 0 3 + 1)) 33 0 3 (gI (sI m 33 0 3 (gI m 33 0 3 + 1)) 33 0 3 + 1)) 33 0 3 = nI (q + 2) := by rw [gI_sI, if_pos ⟨rfl, rfl, rfl⟩, j3, nI_1]
      have i4 : gI (sI (sI m 33 0 3 (gI m 33 0 3 + 1)) 33 0 3 (gI (sI m 33 0 3 (gI m 33 0 3 + 1)) 33 0 3 + 1)) 33 0 4 = -1 := by rw [gI_sI, if_neg (fun q => absurd q.2.2 (by decide)), j4]
      have ve : (10 : Int32) * (bS s q - 48) + rch (sI m 33 0 3 (gI m 33 0 3 + 1)) l (q + 1) - 48 = nvF (bS s) l 2 q 0 := by
        rw [re, n2]
        show _ + (if q + 1 < l then bS s (q + 1) else -1) - 48 = _
        rw [if_pos hql2]
      exact nu_t (q := q) (e := q + 2) hl hl2 (rd_s (Or.inl rfl) hm2) hb (by rw [n1]) (by omega) ve i3 i4 h
    · refine And.intro (fun _ => ?_) (fun q => absurd rfl q)
      have hd2 : ¬ dg (rch (sI m 33 0 3 (gI m 33 0 3 + 1)) l (q + 1)) := hd2
      rw [re] at hd2
      have hb2 := dgB_f hd2
      obtain ⟨n1, n2⟩ := nv2_0 hb hb2
      exact nu_t (q := q) (e := q + 1) hl hl2 hm2 hb (by rw [n1]) (by omega) n2.symm j3 j4 h
  · refine And.intro (fun _ => ?_) (fun q => absurd rfl q)
    have hb := dgB_f hd
    have fin : Q (some (lI lo)) (sI m 33 0 4 (nI q)) := by
      refine h _ lo (rd_s (Or.inr (Or.inl rfl)) hm) (Or.inr ⟨q, ?_, by omega, by rw [gI_sI, if_pos ⟨rfl, rfl, rfl⟩], q, by omega, by rw [gI_sI, if_neg (fun q => absurd q.2.2 (by decide)), k3]⟩)
      unfold numR
      rw [if_neg (by rw [hb]; decide)]
    exact h_bad k3 (fun _ => And.intro rfl fin) (fun w => absurd (by rw [k4, hw]) w)
end NU
/-! readRain of the reference, by what it answers and keeps. -/
def rnO (b : Nat → Int32) (l : Nat) (K V : Nat → LMem → Int32) (m : LMem) (v : Int32) : Prop := (v = -1 ∧ (∃ q, rnF b l 30 (sk b l 0) = (true, q)) ∧ K 0 m = nI (rnN b l 30 (sk b l 0)) ∧ ∀ j, j < rnN b l 30 (sk b l 0) → V j m = nvF b l 2 (rnP b l j) 0) ∨ (∃ w, w ≤ 1000 ∧ v = nI w ∧ rnF b l 30 (sk b l 0) = (false, w))
/-- of rains, that one alone is written -/
def rfr (r : Nat) (s m : LMem) : Prop := ∀ k j, k ≠ 33 → ¬ (k = 46 ∧ j = r) → ¬ (k = 47 ∧ 30 * r ≤ j ∧ j < 30 * r + 30) → gI m k 0 j = gI s k 0 j
theorem rfr_rd {r : Nat} {s m m' : LMem} (h : rfr r s m) (h2 : rd_S m m') : rfr r s m' := fun k j a b c => by rw [h2.1 k 0 j (fun q => a q.1), h k j a b c]
theorem rfr_47 {r i : Nat} {x : Int32} {s m : LMem} (h : rfr r s m) (h1 : 30 * r ≤ i) (h2 : i < 30 * r + 30) : rfr r s (sI m 47 0 i x) := fun k j a b c => by
  rw [gI_sI, if_neg (fun q => c ⟨q.1, by rw [q.2.2]; exact h1, by rw [q.2.2]; exact h2⟩), h k j a b c]
theorem rfr_46 {r : Nat} {x : Int32} {s m : LMem} (h : rfr r s m) : rfr r s (sI m 46 0 r x) := fun k j a b c => by
  rw [gI_sI, if_neg (fun q => b ⟨q.1, q.2.2⟩), h k j a b c]
theorem rfr_33 {r j' : Nat} {x : Int32} {s m : LMem} (h : rfr r s m) : rfr r s (sI m 33 0 j' x) := fun k j a b c => by
  rw [gI_sI, if_neg (fun q => a q.1), h k j a b c]
def rr_T (l r : Nat) (s m : LMem) (k : Nat) : Prop := bS m = bS s ∧ gI m 33 0 2 = nI l ∧ gI m 46 0 r = nI k ∧ rfr r s m ∧ ∀ j, j < k → gI m 47 0 (30 * r + j) = nvF (bS s) l 2 (rnP (bS s) l j) 0
theorem rrT_rd {l r k : Nat} {s m m' : LMem} (h : rr_T l r s m k) (h2 : rd_S m m') : rr_T l r s m' k := ⟨by rw [bS_rd h2, h.1], by rw [h2.1 33 0 2 (fun q => by omega), h.2.1], by rw [h2.1 46 0 r (fun q => absurd q.1 (by decide)), h.2.2.1], rfr_rd h.2.2.2.1 h2, fun j hj => by rw [h2.1 47 0 _ (fun q => absurd q.1 (by decide)), h.2.2.2.2 j hj]⟩
section RRU
variable {d bc bs l r : Nat} {s : LMem} {Q : LPost}
abbrev rO12 (l r : Nat) (s m : LMem) (v : Int32) : Prop := rnO (bS s) l (fun _ m => gI m 46 0 r) (fun j m => gI m 47 0 (30 * r + j)) m v ∧ rfr r s m
/-- the end: at = y, nothing wrong so far, or wrong is laid -/
theorem ru_119 {o : Option LV} {k y : Nat} {m : LMem} (hl2 : l ≤ 200) (hO : (rr_T l r s m k ∧ gI m 33 0 4 = -1 ∧ gI m 33 0 3 = nI y ∧ y ≤ 1000 ∧ rnN (bS s) l 30 (sk (bS s) l 0) = k ∧ rnF (bS s) l 30 (sk (bS s) l 0) = (if tc (bS s) l (sk (bS s) l y) = -1 then (true, sk (bS s) l y) else (false, sk (bS s) l y))) ∨ (∃ w, w ≤ 1000 ∧ gI m 33 0 4 = nI w ∧ rnF (bS s) l 30 (sk (bS s) l 0) = (false, w) ∧ rfr r s m)) (h : ∀ m v, rO12 l r s m v → Q (some (lI v)) m) : qW false (d + 3) 234 bc bs 119 [some (lR 33 (some 0)), some (lI (nI r)), o] [] m Q := by
  refine qa_t1_W (cut := []) 40 ?_
  rcases hO with ⟨T, w, h3, hy, eN, eF⟩ | ⟨w, w1, w2, w3, F⟩
  · refine And.intro (fun _ => ?_) (fun c => absurd w c)
    have hb := T.1
    refine h_lookF T.2.1 hl2 h3 hy fun m1 hm k4 k5 k3 => Exists.intro _ (And.intro rfl ?_)
    have T1 := rrT_rd T hm
    rw [hb] at k3 ⊢
    have sk2 : sk (bS s) l y ≤ max y l := sk_le y
    generalize hq : sk (bS s) l y = q at *
    refine And.intro (fun e => ?_) (fun ne => ?_)
    · have e : tc (bS s) l q = -1 := e
      rw [if_pos e] at eF
      refine h m1 _ ⟨Or.inl ⟨k4.trans w, ⟨q, eF⟩, by rw [eN]; exact T1.2.2.1, fun j hj => T1.2.2.2.2 j (by omega)⟩, T1.2.2.2.1⟩
    · have ne : ¬ tc (bS s) l q = -1 := ne
      rw [if_neg ne] at eF
      have fin : Q (some (lI (gI (sI m1 33 0 4 (nI q)) 33 0 4))) (sI m1 33 0 4 (nI q)) := h _ _ ⟨Or.inr ⟨q, by omega, by rw [gI_sI, if_pos ⟨rfl, rfl, rfl⟩], eF⟩, rfr_33 T1.2.2.2.1⟩
      exact h_bad k3 (fun _ => And.intro rfl fin) (fun w2 => absurd (by rw [k4, w]) w2)
  · refine And.intro (fun c => absurd (w2.symm.trans c) (nI_ne1 (by omega))) (fun _ => h m _ ⟨Or.inr ⟨w, w1, w2, w3⟩, F⟩)
theorem ru_64 {k e : Nat} {m : LMem} (hr : r ≤ 4) (hl2 : l ≤ 200) (hk : k ≤ 29) (hO : (rr_T l r s m (k + 1) ∧ gI m 33 0 4 = -1 ∧ gI m 33 0 3 = nI e ∧ e ≤ 900 ∧ sk (bS s) l (sk (bS s) l e + 1) = rnP (bS s) l (k + 1) ∧ rnN (bS s) l 30 (sk (bS s) l 0) = k + (if tc (bS s) l (sk (bS s) l e) = 44 ∧ 0 < 29 - k then rnN (bS s) l (29 - k) (rnP (bS s) l (k + 1)) + 1 else 1) ∧ rnF (bS s) l 30 (sk (bS s) l 0) = (if tc (bS s) l (sk (bS s) l e) = 44 ∧ 0 < 29 - k then rnF (bS s) l (29 - k) (rnP (bS s) l (k + 1)) else if tc (bS s) l (sk (bS s) l e) = -1 then (true, sk (bS s) l e) else (false, sk (bS s) l e))) ∨ (∃ w, w ≤ 1000 ∧ gI m 33 0 4 = nI w ∧ rnF (bS s) l 30 (sk (bS s) l 0) = (false, w) ∧ rfr r s m)) (h : ∀ m v, rO12 l r s m v → Q (some (lI v)) m) (next : ∀ m p, k + 1 ≤ 29 → rr_T l r s m (k + 1) → gI m 33 0 4 = -1 → gI m 33 0 3 = nI p → p ≤ l → sk (bS s) l p = rnP (bS s) l (k + 1) → rnF (bS s) l 30 (sk (bS s) l 0) = rnF (bS s) l (29 - k) (rnP (bS s) l (k + 1)) → rnN (bS s) l 30 (sk (bS s) l 0) = k + 1 + rnN (bS s) l (29 - k) (rnP (bS s) l (k + 1)) → qW false (d + 3) 234 bc bs 19 [some (lR 33 (some 0)), some (lI (nI r)), some (lI 1)] [] m Q) : qW false (d + 3) 234 bc bs 64 [some (lR 33 (some 0)), some (lI (nI r)), some (lI 1)] [] m Q := by
  have v5 : qa_vin (nI r) 5 := nI_in (by omega) (by decide)
  have er : (nI r).toNatClampNeg = r := nI_clamp (by omega)
  have add0 : ∀ m' : LMem, gI m' 33 0 3 + 0 = gI m' 33 0 3 := fun m' => Int32.add_zero _
  -- behind it nothing more
  have stop : ∀ m' : LMem, (∀ m2, rd_S m' m2 → gI m2 33 0 4 = gI m' 33 0 4 → gI m2 33 0 3 = gI m' 33 0 3 → qW false (d + 3) 234 bc bs 119 [some (lR 33 (some 0)), some (lI (nI r)), some (lI 0)] [] m2 Q) → ((0 : Int32) = 0 → qW false (d + 3) 234 bc bs 19 [some (lR 33 (some 0)), some (lI (nI r)), some (lI 0)] [] (sI m' 33 0 3 (gI m' 33 0 3 + 0)) Q) := fun m' t _ => by
    have r2 := rd_s (s := m') (v := gI m' 33 0 3 + 0) (Or.inl rfl : (3 : Nat) = 3 ∨ (3 : Nat) = 4 ∨ (3 : Nat) = 5) rd_0
    have st := t _ r2 (by rw [gI_sI, if_neg (fun q => absurd q.2.2 (by decide))]) (by rw [gI_sI, if_pos ⟨rfl, rfl, rfl⟩, add0])
    refine qa_t1_W (cut := [119]) 10 ?_
    exact And.intro (fun _ => st) (fun q => absurd rfl q)
  rcases hO with ⟨T, w, h3, he, eP, eN, eF⟩ | ⟨w, w1, w2, w3, F⟩
  · have hb := T.1
    refine qa_t1_W (cut := [19, 119]) 100 ?_
    refine And.intro (fun _ => ?_) (fun c => absurd w c)
    refine h_lookF T.2.1 hl2 h3 (by omega) fun m3 hm k4 k5 k3 => Exists.intro _ (And.intro rfl ?_)
    have T3 := rrT_rd T hm
    rw [hb] at k3 ⊢
    have sk2 : sk (bS s) l e ≤ max e l := sk_le e
    have sk3 : sk (bS s) l (sk (bS s) l e) = sk (bS s) l e := sk_sk e
    generalize hq : sk (bS s) l e = q at *
    have w3 : gI m3 33 0 4 = -1 := by rw [k4, w]
    have end_ : ¬ (tc (bS s) l q = 44 ∧ 0 < 29 - k) → ∀ m2, rd_S m3 m2 → gI m2 33 0 4 = gI m3 33 0 4 → gI m2 33 0 3 = gI m3 33 0 3 → qW false (d + 3) 234 bc bs 119 [some (lR 33 (some 0)), some (lI (nI r)), some (lI 0)] [] m2 Q := fun hn m2 r2 g4 g3 => by
      rw [if_neg hn] at eN eF
      exact ru_119 (y := q) hl2 (Or.inl ⟨rrT_rd T3 r2, by rw [g4, w3], by rw [g3, k3], by omega, eN, by rw [sk3]; exact eF⟩) h
    refine And.intro (fun c => ?_) (fun c => ?_)
    · have c : tc (bS s) l q = 44 := c
      have hql := tc_lt (by decide) c
      refine And.intro v5 ?_
      have e30 : gI m3 46 0 (nI r).toNatClampNeg = nI (k + 1) := by rw [er, T3.2.2.1]
      refine And.intro (fun c2 => ?_) (fun c2 => ?_)
      · have c2 : gI m3 46 0 (nI r).toNatClampNeg < 30 := c2
        rw [e30] at c2
        have c2 := Int32.lt_iff_toInt_lt.mp c2
        rw [nI_toInt (by omega)] at c2
        have t30 : (30 : Int32).toInt = 30 := by decide
        rw [t30] at c2
        have hm4 := rd_s (s := m3) (v := gI m3 33 0 3 + 1) (Or.inl rfl : (3 : Nat) = 3 ∨ (3 : Nat) = 4 ∨ (3 : Nat) = 5) rd_0
        have cc : tc (bS s) l q = 44 ∧ 0 < 29 - k := ⟨c, by omega⟩
        have a4 : gI (sI m3 33 0 3 (gI m3 33 0 3 + 1)) 33 0 4 = -1 := by rw [gI_sI, if_neg (fun q => absurd q.2.2 (by decide)), w3]
        have a3 : gI (sI m3 33 0 3 (gI m3 33 0 3 + 1)) 33 0 3 = nI (q + 1) := by rw [gI_sI, if_pos ⟨rfl, rfl, rfl⟩, k3, nI_1]
        rw [if_pos cc] at eN eF
        refine And.intro (fun q => absurd q (by decide)) (fun _ => ?_)
        exact next _ (q + 1) (by omega) (rrT_rd T3 hm4) a4 a3 (by omega) eP eF (by omega)
      · have c2 : ¬ gI m3 46 0 (nI r).toNatClampNeg < 30 := c2
        rw [e30] at c2
        have hn : ¬ (tc (bS s) l q = 44 ∧ 0 < 29 - k) := fun q => c2 (nI_lt (b := 30) (by omega) (by decide))
        exact And.intro (stop m3 (end_ hn)) (fun q => absurd rfl q)
    · have c : ¬ tc (bS s) l q = 44 := c
      exact And.intro (stop m3 (end_ (fun q => c q.1))) (fun q => absurd rfl q)
  · refine qa_t1_W (cut := [19, 119]) 100 ?_
    refine And.intro (fun c => absurd (w2.symm.trans c) (nI_ne1 (by omega))) (fun _ => ?_)
    refine And.intro (stop m (fun m2 r2 g4 g3 => ?_)) (fun q => absurd rfl q)
    exact ru_119 (k := 0) (y := 0) hl2 (Or.inr ⟨w, w1, by rw [g4, w2], w3, rfr_rd F r2⟩) h
theorem ru_19 {k p : Nat} {m : LMem} (hr : r ≤ 4) (hl2 : l ≤ 200) (hk : k ≤ 29) (T : rr_T l r s m k) (hw : gI m 33 0 4 = -1) (hp : gI m 33 0 3 = nI p) (hpl : p ≤ l) (eP : sk (bS s) l p = rnP (bS s) l k) (eF : rnF (bS s) l 30 (sk (bS s) l 0) = rnF (bS s) l (30 - k) (rnP (bS s) l k)) (eN : rnN (bS s) l 30 (sk (bS s) l 0) = k + rnN (bS s) l (30 - k) (rnP (bS s) l k)) (h : ∀ m v, rO12 l r s m v → Q (some (lI v)) m) (next : ∀ m p, k + 1 ≤ 29 → rr_T l r s m (k + 1) → gI m 33 0 4 = -1 → gI m 33 0 3 = nI p → p ≤ l → sk (bS s) l p = rnP (bS s) l (k + 1) → rnF (bS s) l 30 (sk (bS s) l 0) = rnF (bS s) l (29 - k) (rnP (bS s) l (k + 1)) → rnN (bS s) l 30 (sk (bS s) l 0) = k + 1 + rnN (bS s) l (29 - k) (rnP (bS s) l (k + 1)) → qW false (d + 3) 234 bc bs 19 [some (lR 33 (some 0)), some (lI (nI r)), some (lI 1)] [] m Q) : qW false (d + 3) 234 bc bs 19 [some (lR 33 (some 0)), some (lI (nI r)), some (lI 1)] [] m Q := by
  have v5 : qa_vin (nI r) 5 := nI_in (by omega) (by decide)
  have er : (nI r).toNatClampNeg = r := nI_clamp (by omega)
  have h46 := T.2.2.1
  have i1 : (30 : Int32) * nI r + gI m 46 0 (nI r).toNatClampNeg = nI (30 * r + k) := by rw [er, h46, show (30 : Int32) = nI 30 from rfl, nI_mul, nI_add]
  have v150 : qa_vin ((30 : Int32) * nI r + gI m 46 0 (nI r).toNatClampNeg) 150 := by rw [i1]; exact nI_in (by omega) (by decide)
  have f1 : 30 - k = (29 - k) + 1 := by omega
  refine qa_t1_W (cut := [19, 64, 119]) 100 ?_
  refine And.intro (fun q => absurd q (by decide)) (fun _ => ?_)
  refine And.intro (fun _ => ?_) (fun c => absurd hw c)
  refine And.intro v5 ?_
  refine h_numU T.2.1 hl2 hp (by omega) hw fun m1 v hm O => Exists.intro _ (And.intro rfl ?_)
  refine And.intro v150 (And.intro v5 (And.intro v5 ?_))
  rw [T.1, eP] at O
  have T1 := rrT_rd T hm
  have d1 : gI (sI m1 47 0 (30 * r + k) v) 46 0 r = nI k := by rw [gI_sI, if_neg (fun q => absurd q.1 (by decide)), T1.2.2.1]
  have st : qW false (d + 3) 234 bc bs 64 [some (lR 33 (some 0)), some (lI (nI r)), some (lI 1)] [] (sI (sI m1 47 0 (30 * r + k) v) 46 0 r (nI (k + 1))) Q := by
    have g33 : ∀ j, gI (sI (sI m1 47 0 (30 * r + k) v) 46 0 r (nI (k + 1))) 33 0 j = gI m1 33 0 j := fun j => by
      rw [gI_sI, if_neg (fun q => absurd q.1 (by decide)), gI_sI, if_neg (fun q => absurd q.1 (by decide))]
    have bS2 : bS (sI (sI m1 47 0 (30 * r + k) v) 46 0 r (nI (k + 1))) = bS s := by
      rw [← T1.1]
      exact funext fun j => by
        show gI (sI (sI m1 47 0 (30 * r + k) v) 46 0 r (nI (k + 1))) 34 0 j = gI m1 34 0 j
        rw [gI_sI, if_neg (fun q => absurd q.1 (by decide)), gI_sI, if_neg (fun q => absurd q.1 (by decide))]
    have e46 : gI (sI (sI m1 47 0 (30 * r + k) v) 46 0 r (nI (k + 1))) 46 0 r = nI (k + 1) := by rw [gI_sI, if_pos ⟨rfl, rfl, rfl⟩]
    have e47 : ∀ j, gI (sI (sI m1 47 0 (30 * r + k) v) 46 0 r (nI (k + 1))) 47 0 (30 * r + j) = if j = k then v else gI m1 47 0 (30 * r + j) := fun j => by
      rw [gI_sI, if_neg (fun q => absurd q.1 (by decide)), gI_sI]
      by_cases e : j = k
      · rw [if_pos e, if_pos ⟨rfl, rfl, by rw [e]⟩]
      · rw [if_neg e, if_neg (fun q => e (by have := q.2.2; omega))]
    have F2 : rfr r s (sI (sI m1 47 0 (30 * r + k) v) 46 0 r (nI (k + 1))) := rfr_46 (rfr_47 T1.2.2.2.1 (by omega) (by omega))
    rcases O with ⟨o1, o2, o3, o4⟩ | ⟨w, o1, o2, o3, z, o4, o5⟩
    · have T2 : rr_T l r s (sI (sI m1 47 0 (30 * r + k) v) 46 0 r (nI (k + 1))) (k + 1) := by
        refine ⟨bS2, by rw [g33, T1.2.1], e46, F2, fun j hj => ?_⟩
        rw [e47]
        by_cases e : j = k
        · rw [if_pos e, o4, e]
        · rw [if_neg e]
          exact T1.2.2.2.2 j (by omega)
      have dl := dr_le (b := bS s) (l := l) 2 (rnP (bS s) l k) (by
        rw [← eP]
        have := sk_le (b := bS s) (l := l) p
        omega)
      refine ru_64 (e := rnP (bS s) l k + dr (bS s) l 2 (rnP (bS s) l k)) hr hl2 hk (Or.inl ⟨T2, by rw [g33, o2], by rw [g33, o3], by omega, rfl, ?_, ?_⟩) h next
      · rw [eN, f1]
        rfl
      · rw [eF, f1]
        show sq (numR (bS s) l 0 99 (rnP (bS s) l k)) _ = _
        rw [o1, sq_t]
        rfl
    · refine ru_64 (e := 0) hr hl2 hk (Or.inr ⟨w, o2, by rw [g33, o3], ?_, F2⟩) h next
      rw [eF, f1]
      show sq (numR (bS s) l 0 99 (rnP (bS s) l k)) _ = _
      rw [o1, sq_f]
  have st2 : qW false (d + 3) 234 bc bs 64 [some (lR 33 (some 0)), some (lI (nI r)), some (lI 1)] [] (sI (sI m1 47 0 ((30 : Int32) * nI r + gI m 46 0 (nI r).toNatClampNeg).toNatClampNeg v) 46 0 (nI r).toNatClampNeg (gI (sI m1 47 0 ((30 : Int32) * nI r + gI m 46 0 (nI r).toNatClampNeg).toNatClampNeg v) 46 0 (nI r).toNatClampNeg + 1)) Q := by
    rw [i1, er, nI_clamp (show 30 * r + k < 2 ^ 31 by omega), d1, nI_1]
    exact st
  exact st2
theorem ru_l (hr : r ≤ 4) (hl2 : l ≤ 200) (h : ∀ m v, rO12 l r s m v → Q (some (lI v)) m) : ∀ n k m p, k + n = 29 → rr_T l r s m k → gI m 33 0 4 = -1 → gI m 33 0 3 = nI p → p ≤ l → sk (bS s) l p = rnP (bS s) l k → rnF (bS s) l 30 (sk (bS s) l 0) = rnF (bS s) l (30 - k) (rnP (bS s) l k) → rnN (bS s) l 30 (sk (bS s) l 0) = k + rnN (bS s) l (30 - k) (rnP (bS s) l k) → qW false (d + 3) 234 bc bs 19 [some (lR 33 (some 0)), some (lI (nI r)), some (lI 1)] [] m Q := by
  intro n
  induction n with
  | zero =>
    intro k m p hk T hw hp hpl eP eF eN
    exact ru_19 hr hl2 (by omega) T hw hp hpl eP eF eN h (fun _ _ q => absurd q (by omega))
  | succ n ih =>
    intro k m p hk T hw hp hpl eP eF eN
    exact ru_19 hr hl2 (by omega) T hw hp hpl eP eF eN h (fun m p _ T w3 h3 hpl eP eF eN => ih (k + 1) m p (by omega) T w3 h3 hpl eP (by rw [eF, show 29 - k = 30 - (k + 1) by omega]) (by rw [eN, show 29 - k = 30 - (k + 1) by omega]))
theorem h_readRainU (hr : r ≤ 4) (hl : gI s 33 0 2 = nI l) (hl2 : l ≤ 200) : qC false (d + 4) 234 [lR 33 (some 0), lI (nI r)] s (fun a m => ∃ v, a = some (lI v) ∧ rO12 l r s m v) := by
  have v5 : qa_vin (nI r) 5 := nI_in (by omega) (by decide)
  have er : (nI r).toNatClampNeg = r := nI_clamp (by omega)
  have hm : rd_S s (sI (sI s 33 0 3 0) 33 0 4 (-1)) := rd_s (Or.inr (Or.inl rfl)) (rd_s (Or.inl rfl) rd_0)
  have T : rr_T l r s (sI (sI (sI s 33 0 3 0) 33 0 4 (-1)) 46 0 r 0) 0 := by
    refine ⟨?_, by rw [gI_sI, if_neg (fun q => absurd q.1 (by decide)), hm.1 33 0 2 (fun q => by omega), hl], by rw [gI_sI, if_pos ⟨rfl, rfl, rfl⟩]; rfl, rfr_46 (rfr_33 (rfr_33 (fun _ _ _ _ _ => rfl))), fun j hj => absurd hj (Nat.not_lt_zero _)⟩
    rw [← bS_rd hm]
    exact funext fun j => by
      show gI (sI (sI (sI s 33 0 3 0) 33 0 4 (-1)) 46 0 r 0) 34 0 j = gI (sI (sI s 33 0 3 0) 33 0 4 (-1)) 34 0 j
      rw [gI_sI, if_neg (fun q => absurd q.1 (by decide))]
  have st := ru_l (d := d) (bc := 0) (bs := 0) (Q := fun a m => ∃ v, a = some (lI v) ∧ rO12 l r s m v) hr hl2 (fun m v o => ⟨v, rfl, o⟩) 29 0 (sI (sI (sI s 33 0 3 0) 33 0 4 (-1)) 46 0 r 0) 0 rfl T (by rw [gI_sI, if_neg (fun q => absurd q.1 (by decide)), gI_sI, if_pos ⟨rfl, rfl, rfl⟩]) (by rw [gI_sI, if_neg (fun q => absurd q.1 (by decide)), gI_sI, if_neg (fun q => absurd q.2.2 (by decide)), gI_sI, if_pos ⟨rfl, rfl, rfl⟩]; rfl) (Nat.zero_le _) rfl rfl (by rw [Nat.zero_add]; rfl)
  have st2 : qW false (d + 3) 234 0 0 19 [some (lR 33 (some 0)), some (lI (nI r)), some (lI 1)] [] (sI (sI (sI s 33 0 3 0) 33 0 4 (-1)) 46 0 (nI r).toNatClampNeg 0) (fun a m => ∃ v, a = some (lI v) ∧ rO12 l r s m v) := by
    rw [er]
    exact st
  refine qC_of rfl rfl ?_
  refine qa_t1_W (cut := [19]) 30 ?_
  exact And.intro v5 st2
end RRU
/-! Rain.readFrom of the class, by what it answers and keeps. -/
theorem numR_no {b : Nat → Int32} {l p : Nat} {lo hi : Int32} (h : dgB (tc b l p) = false) : numR b l lo hi p = (false, p) := by
  unfold numR
  rw [if_neg (by rw [h]; decide)]
theorem numR_3 {b : Nat → Int32} {l p : Nat} {lo hi : Int32} (h : dgB (tc b l p) = true) (h2 : dgB (tc b l (p + dr b l 2 p)) = true) : numR b l lo hi p = (false, p + dr b l 2 p) := by
  unfold numR
  rw [if_pos h, if_pos h2]
theorem numR_in {b : Nat → Int32} {l p : Nat} {lo hi : Int32} (h : dgB (tc b l p) = true) (h2 : dgB (tc b l (p + dr b l 2 p)) = false) (h3 : lo.toInt ≤ (nvF b l 2 p 0).toInt ∧ (nvF b l 2 p 0).toInt ≤ hi.toInt) : numR b l lo hi p = (true, sk b l (p + dr b l 2 p)) := by
  unfold numR
  rw [if_pos h, if_neg (by rw [h2]; decide), if_pos h3]
theorem numR_out {b : Nat → Int32} {l p : Nat} {lo hi : Int32} (h : dgB (tc b l p) = true) (h2 : dgB (tc b l (p + dr b l 2 p)) = false) (h3 : ¬ (lo.toInt ≤ (nvF b l 2 p 0).toInt ∧ (nvF b l 2 p 0).toInt ≤ hi.toInt)) : numR b l lo hi p = (false, p + dr b l 2 p - 1) := by
  unfold numR
  rw [if_pos h, if_neg (by rw [h2]; decide), if_neg h3]
/-- only the tape's own cells are written -/
def nxf (m m' : LMem) : Prop := ∀ k i j, k ≠ 1 → gI m' k i j = gI m k i j
theorem nxf_tr {m m' m2 : LMem} (h : nxf m m') (h2 : nxf m' m2) : nxf m m2 := fun k i j hk => (h2 k i j hk).trans (h k i j hk)
theorem nxf_0 {m : LMem} : nxf m m := fun _ _ _ _ => rfl
theorem nxf_s {m m' : LMem} {j : Nat} {v : Int32} (h : nxf m m') : nxf m (sI m' 1 0 j v) := fun k i j' hk => by
  rw [gI_sI, if_neg (fun q => hk q.1)]
  exact h k i j' hk
section NF
variable {d l p : Nat} {s m : LMem} {Q : LPost}
theorem f_next (hl2 : l ≤ 200) (S : tk_S l s m p) (h : ∀ m' x, nxf m m' → Q (some (lI x)) m') : qC false (d + 1) 114 [lR 1 (some 0)] m Q := by
  obtain ⟨J, el, eb, ep, hpl⟩ := S
  have f : ∀ m' q, nx_S m q m' → nxf m m' := fun m' q hm k i j hk => hm.1 k i j (fun q => hk q.1)
  exact h_next el hl2 ep (by omega) fun m' q hm _ => ⟨fun _ => h m' _ (f m' q hm), fun _ => h m' _ (f m' q hm)⟩
theorem f_takes {x : Int32} (hl2 : l ≤ 200) (S : tk_S l s m p) (h : ∀ m' x, nxf m m' → Q (some (lI x)) m') : qC false (d + 2) 118 [lR 1 (some 0), lI x] m Q := by
  refine qC_of rfl rfl ?_
  refine qa_t1_W (cut := []) 30 ?_
  refine f_next hl2 S fun m1 y f1 => Exists.intro _ (And.intro rfl ?_)
  refine And.intro (fun e => ?_) (fun ne => ?_)
  · exact And.intro (Or.inr rfl) (h _ _ (nxf_s f1))
  · exact And.intro (Or.inl rfl) (h _ _ f1)
theorem f_thru (hl2 : l ≤ 200) (S : tk_S l s m p) (h : ∀ m' x, nxf m m' → Q (some (lI x)) m') : qC false (d + 2) 117 [lR 1 (some 0)] m Q := by
  refine qC_of rfl rfl ?_
  refine qa_t1_W (cut := []) 30 ?_
  refine f_next hl2 S fun m1 y f1 => Exists.intro _ (And.intro rfl ?_)
  refine And.intro (fun e => ?_) (fun ne => ?_)
  · exact And.intro (Or.inr rfl) (h _ _ f1)
  · exact And.intro (Or.inl rfl) (h _ _ f1)
theorem f_num (S : tk_S l s m p) (h : ∀ m' x, nxf m m' → Q (some (lI x)) m') : qC false (d + 40) 119 [lR 1 (some 0), lI (nI 2)] m Q := by
  refine h_X8_number_0 (d + 40) (Nat.le_add_left _ _) [lR 1 (some 0), lI (nI 2)] m Q ⟨y_rcv, ⟨by decide, by decide⟩, trivial⟩ S.1 ⟨y_msnil, fun _ q => absurd q List.not_mem_nil⟩ fun r s' hr J' F' => ?_
  have f : nxf m s' := fun k i j hk => (F' k i j (by
    rintro ⟨w, hw, e, _⟩
    rw [List.mem_singleton.mp hw] at e
    exact hk e.symm)).1
  obtain ⟨a, ha, h1, _⟩ := hr
  rcases List.mem_cons.mp ha with rfl | ha
  · rcases r with _ | v
    · exact h1.elim
    · obtain ⟨x, rfl, _, _⟩ := y_aI h1
      exact h s' x f
  · rw [List.mem_singleton.mp ha] at h1
    rcases r with _ | v
    · exact h1.elim
    · obtain ⟨x, rfl, _, _⟩ := y_aI h1
      exact h s' x f
/-! the same with what stays -/
theorem x_next (hl2 : l ≤ 200) (S : tk_S l s m p) (h : ∀ m', nxf m m' → tk_S l s m' (sk (bC s) l p) → Q (some (lI (t0 (bC s) l (sk (bC s) l p)))) m') : qC false (d + 1) 114 [lR 1 (some 0)] m Q := by
  have h1 : qC false (d + 1) 114 [lR 1 (some 0)] m (fun r m' => r = some (lI (t0 (bC s) l (sk (bC s) l p))) ∧ tk_S l s m' (sk (bC s) l p)) := h_nextC hl2 S fun m' S' => ⟨rfl, S'⟩
  have h2 : qC false (d + 1) 114 [lR 1 (some 0)] m (fun _ m' => nxf m m') := f_next hl2 S fun m' _ f => f
  refine qC_mono (qC_and h1 h2) (fun r m' g => ?_)
  obtain ⟨⟨rfl, g2⟩, g3⟩ := g
  exact h m' g3 g2
theorem x_takes {x : Int32} (hB : tp_B (bC s) l) (hl2 : l ≤ 200) (S : tk_S l s m p) (hx : x ≠ 0) (hx1 : x ≠ -1) (h1 : ∀ m', nxf m m' → tk_S l s m' (sk (bC s) l p + 1) → tc (bC s) l (sk (bC s) l p) = x → Q (some (lI 1)) m') (h0 : ∀ m', nxf m m' → tk_S l s m' (sk (bC s) l p) → tc (bC s) l (sk (bC s) l p) ≠ x → Q (some (lI 0)) m') : qC false (d + 2) 118 [lR 1 (some 0), lI x] m Q := by
  have g1 : qC false (d + 2) 118 [lR 1 (some 0), lI x] m (fun r m' => (r = some (lI 1) ∧ tk_S l s m' (sk (bC s) l p + 1) ∧ tc (bC s) l (sk (bC s) l p) = x) ∨ (r = some (lI 0) ∧ tk_S l s m' (sk (bC s) l p) ∧ tc (bC s) l (sk (bC s) l p) ≠ x)) := h_takesC hB hl2 S hx hx1 (fun m' S' e => Or.inl ⟨rfl, S', e⟩) (fun m' S' e => Or.inr ⟨rfl, S', e⟩)
  have g2 : qC false (d + 2) 118 [lR 1 (some 0), lI x] m (fun _ m' => nxf m m') := f_takes hl2 S fun m' _ f => f
  refine qC_mono (qC_and g1 g2) (fun r m' g => ?_)
  obtain ⟨⟨rfl, a2, a3⟩ | ⟨rfl, a2, a3⟩, g3⟩ := g
  · exact h1 m' g3 a2 a3
  · exact h0 m' g3 a2 a3
theorem x_thru (hB : tp_B (bC s) l) (hl2 : l ≤ 200) (S : tk_S l s m p) (h1 : ∀ m', nxf m m' → tk_S l s m' (sk (bC s) l p) → tc (bC s) l (sk (bC s) l p) = -1 → Q (some (lI 1)) m') (h0 : ∀ m', nxf m m' → tk_S l s m' (sk (bC s) l p) → tc (bC s) l (sk (bC s) l p) ≠ -1 → Q (some (lI 0)) m') : qC false (d + 2) 117 [lR 1 (some 0)] m Q := by
  have g1 : qC false (d + 2) 117 [lR 1 (some 0)] m (fun r m' => (r = some (lI 1) ∧ tk_S l s m' (sk (bC s) l p) ∧ tc (bC s) l (sk (bC s) l p) = -1) ∨ (r = some (lI 0) ∧ tk_S l s m' (sk (bC s) l p) ∧ tc (bC s) l (sk (bC s) l p) ≠ -1)) := h_thruC hB hl2 S (fun m' S' e => Or.inl ⟨rfl, S', e⟩) (fun m' S' e => Or.inr ⟨rfl, S', e⟩)
  have g2 : qC false (d + 2) 117 [lR 1 (some 0)] m (fun _ m' => nxf m m') := f_thru hl2 S fun m' _ f => f
  refine qC_mono (qC_and g1 g2) (fun r m' g => ?_)
  obtain ⟨⟨rfl, a2, a3⟩ | ⟨rfl, a2, a3⟩, g3⟩ := g
  · exact h1 m' g3 a2 a3
  · exact h0 m' g3 a2 a3
/-- a number of two digits: by numR within lo .. hi; v its value, e the place behind it -/
theorem x_num (hl2 : l ≤ 200) (S : tk_S l s m p) (h0 : ∀ m' w, nxf m m' → tk_S l s m' w → (∀ lo hi, numR (bC s) l lo hi (sk (bC s) l p) = (false, w)) → Q (some (lI (-1))) m') (h : ∀ m', nxf m m' → tk_S l s m' (sk (bC s) l p + dr (bC s) l 2 (sk (bC s) l p)) → 1 ≤ dr (bC s) l 2 (sk (bC s) l p) → (∀ lo hi : Int32, numR (bC s) l lo hi (sk (bC s) l p) = if lo.toInt ≤ (nvF (bC s) l 2 (sk (bC s) l p) 0).toInt ∧ (nvF (bC s) l 2 (sk (bC s) l p) 0).toInt ≤ hi.toInt then (true, sk (bC s) l (sk (bC s) l p + dr (bC s) l 2 (sk (bC s) l p))) else (false, sk (bC s) l p + dr (bC s) l 2 (sk (bC s) l p) - 1)) → nvF (bC s) l 2 (sk (bC s) l p) 0 ≠ -1 → Q (some (lI (nvF (bC s) l 2 (sk (bC s) l p) 0))) m') : qC false (d + 40) 119 [lR 1 (some 0), lI (nI 2)] m Q := by
  have g1 : qC false (d + 40) 119 [lR 1 (some 0), lI (nI 2)] m (fun r m' => (r = some (lI (-1)) ∧ ∃ w, tk_S l s m' w ∧ ∀ lo hi, numR (bC s) l lo hi (sk (bC s) l p) = (false, w)) ∨ (r = some (lI (nvF (bC s) l 2 (sk (bC s) l p) 0)) ∧ tk_S l s m' (sk (bC s) l p + dr (bC s) l 2 (sk (bC s) l p)) ∧ dgB (tc (bC s) l (sk (bC s) l p)) = true ∧ dgB (tc (bC s) l (sk (bC s) l p + dr (bC s) l 2 (sk (bC s) l p))) = false)) := h_numC (d := d + 38) (mm := 2) (by decide) hl2 S (fun m' S' hd => Or.inl ⟨rfl, _, S', fun lo hi => numR_no hd⟩) (fun m' S' hd hd2 => Or.inl ⟨rfl, _, S', fun lo hi => numR_3 hd hd2⟩) (fun m' S' hd hd2 => Or.inr ⟨rfl, S', hd, hd2⟩)
  have g2 : qC false (d + 40) 119 [lR 1 (some 0), lI (nI 2)] m (fun _ m' => nxf m m') := f_num S fun m' _ f => f
  refine qC_mono (qC_and g1 g2) (fun r m' g => ?_)
  obtain ⟨⟨rfl, w, a2, a3⟩ | ⟨rfl, a2, a3, a4⟩, g3⟩ := g
  · exact h0 m' w g3 a2 a3
  · refine h m' g3 a2 (dr_pos (n := 1) a3) (fun lo hi => ?_) (nv_ne (by decide))
    by_cases c : lo.toInt ≤ (nvF (bC s) l 2 (sk (bC s) l p) 0).toInt ∧ (nvF (bC s) l 2 (sk (bC s) l p) 0).toInt ≤ hi.toInt
    · rw [if_pos c, numR_in a3 a4 c]
    · rw [if_neg c, numR_out a3 a4 c]
end NF
def rc_T (l r : Nat) (s m : LMem) (k p : Nat) : Prop := tk_S l s m p ∧ gI m 13 r 1 = nI k ∧ ∀ j, j < k → gI m 14 r j = nvF (bC s) l 2 (rnP (bC s) l j) 0
/-- what Rain.readFrom leaves -/
def rcO (l r : Nat) (s m : LMem) (v : Int32) : Prop := (v = 1 ∧ (∃ q, rnF (bC s) l 30 (sk (bC s) l 0) = (true, q)) ∧ gI m 13 r 1 = nI (rnN (bC s) l 30 (sk (bC s) l 0)) ∧ ∀ j, j < rnN (bC s) l 30 (sk (bC s) l 0) → gI m 14 r j = nvF (bC s) l 2 (rnP (bC s) l j) 0) ∨ (v = 0 ∧ ∃ w, tk_S l s m w ∧ rnF (bC s) l 30 (sk (bC s) l 0) = (false, w))
section RC
variable {d bc bs l r : Nat} {s : LMem} {R : LPost}
theorem rc_71 {k e : Nat} {o : Option LV} {m : LMem} (hB : tp_B (bC s) l) (hl2 : l ≤ 200) (S : tk_S l s m e) (hk : gI m 13 r 1 = nI (rnN (bC s) l 30 (sk (bC s) l 0))) (hv : ∀ j, j < rnN (bC s) l 30 (sk (bC s) l 0) → gI m 14 r j = nvF (bC s) l 2 (rnP (bC s) l j) 0) (eF : rnF (bC s) l 30 (sk (bC s) l 0) = if tc (bC s) l (sk (bC s) l e) = -1 then (true, sk (bC s) l e) else (false, sk (bC s) l e)) (h : ∀ m v, rcO l r s m v → R (some (lI v)) m) : qW false (d + 40) 88 bc bs 71 [some (lR 13 (some r)), some (lR 1 (some 0)), o] [] m R := by
  refine qa_t1_W (cut := []) 20 ?_
  refine x_thru hB hl2 S (fun m1 f1 S1 e1 => Exists.intro _ (And.intro rfl ?_)) (fun m1 f1 S1 e1 => Exists.intro _ (And.intro rfl ?_))
  · rw [if_pos e1] at eF
    refine And.intro (Or.inr rfl) (h m1 1 (Or.inl ⟨rfl, ⟨_, eF⟩, by rw [f1 13 r 1 (by decide), hk], fun j hj => by rw [f1 14 r j (by decide), hv j hj]⟩))
  · rw [if_neg e1] at eF
    exact And.intro (Or.inl rfl) (h m1 0 (Or.inr ⟨rfl, _, S1, eF⟩))
theorem rc_st0 {k e : Nat} {V : Nat → Int32} {m1 : LMem} (hk : k ≤ 29) (S1 : tk_S l s m1 e) (d1 : gI m1 13 r 1 = nI k) (hc : ∀ j, j < k → gI m1 14 r j = V j) : tk_S l s (sI (sI m1 14 r k (V k)) 13 r 1 (nI (k + 1))) e ∧ gI (sI (sI m1 14 r k (V k)) 13 r 1 (nI (k + 1))) 13 r 1 = nI (k + 1) ∧ ∀ j, j < k + 1 → gI (sI (sI m1 14 r k (V k)) 13 r 1 (nI (k + 1))) 14 r j = V j := by
  obtain ⟨J1, el1, eb1, ep1, hpl1⟩ := S1
  have g : ∀ k' i j, k' ≠ 13 → k' ≠ 14 → gI (sI (sI m1 14 r k (V k)) 13 r 1 (nI (k + 1))) k' i j = gI m1 k' i j := fun k' i j g1 g2 => by
    rw [gI_sI, if_neg (fun q => g1 q.1), gI_sI, if_neg (fun q => g2 q.1)]
  have J2 : y_J x_X (sI m1 14 r k (V k)) := y_J_w J1 (fun r hr _ _ => absurd hr List.not_mem_nil) (x_npr rfl)
  have J3 : y_J x_X (sI (sI m1 14 r k (V k)) 13 r 1 (nI (k + 1))) := y_J_w J2 (fun r' hr' g1 g2 => by
    have hr' : r' ∈ [((1 : Int), (1 : Int), (0 : Int), (30 : Int))] := hr'
    rw [List.mem_singleton.mp hr', nI_toInt (by omega)]
    show (0 : Int) ≤ ((k + 1 : Nat) : Int) ∧ ((k + 1 : Nat) : Int) ≤ 30
    omega) (x_npr rfl)
  refine ⟨⟨J3, by rw [g 1 0 1 (by decide) (by decide), el1], ?_, by rw [g 1 0 2 (by decide) (by decide), ep1], hpl1⟩, by rw [gI_sI, if_pos ⟨rfl, rfl, rfl⟩], fun j hj => ?_⟩
  · rw [← eb1]
    exact funext fun j => g 2 0 j (by decide) (by decide)
  · rw [gI_sI, if_neg (fun q => absurd q.1 (by decide)), gI_sI]
    by_cases e : j = k
    · rw [if_pos ⟨rfl, rfl, e⟩, e]
    · rw [if_neg (fun q => e q.2.2)]
      exact hc j (by omega)
theorem rc_store {k e : Nat} {m1 m2 : LMem} (hk : k ≤ 29) (S1 : tk_S l s m1 e) (d1 : gI m1 13 r 1 = nI k) (hc : ∀ j, j < k → gI m1 14 r j = nvF (bC s) l 2 (rnP (bC s) l j) 0) (e2 : m2 = sI (sI m1 14 r (gI m1 13 r 1).toNatClampNeg (nvF (bC s) l 2 (rnP (bC s) l k) 0)) 13 r 1 (gI (sI m1 14 r (gI m1 13 r 1).toNatClampNeg (nvF (bC s) l 2 (rnP (bC s) l k) 0)) 13 r 1 + 1)) : rc_T l r s m2 (k + 1) e := by
  have ek : (nI k).toNatClampNeg = k := nI_clamp (by omega)
  have d2 : gI (sI m1 14 r k (nvF (bC s) l 2 (rnP (bC s) l k) 0)) 13 r 1 = nI k := by rw [gI_sI, if_neg (fun q => absurd q.1 (by decide)), d1]
  rw [d1, ek, d2, nI_1] at e2
  rw [e2]
  exact rc_st0 (V := fun j => nvF (bC s) l 2 (rnP (bC s) l j) 0) hk S1 d1 hc
theorem rc_5 {k p : Nat} {o : Option LV} {m : LMem} (hB : tp_B (bC s) l) (hl2 : l ≤ 200) (hk : k ≤ 29) (T : rc_T l r s m k p) (eP : sk (bC s) l p = rnP (bC s) l k) (eF : rnF (bC s) l 30 (sk (bC s) l 0) = rnF (bC s) l (30 - k) (rnP (bC s) l k)) (eN : rnN (bC s) l 30 (sk (bC s) l 0) = k + rnN (bC s) l (30 - k) (rnP (bC s) l k)) (h : ∀ m v, rcO l r s m v → R (some (lI v)) m) (next : ∀ m p o, k + 1 ≤ 29 → rc_T l r s m (k + 1) p → sk (bC s) l p = rnP (bC s) l (k + 1) → rnF (bC s) l 30 (sk (bC s) l 0) = rnF (bC s) l (29 - k) (rnP (bC s) l (k + 1)) → rnN (bC s) l 30 (sk (bC s) l 0) = k + 1 + rnN (bC s) l (29 - k) (rnP (bC s) l (k + 1)) → qW false (d + 40) 88 bc bs 5 [some (lR 13 (some r)), some (lR 1 (some 0)), o] [] m R) : qW false (d + 40) 88 bc bs 5 [some (lR 13 (some r)), some (lR 1 (some 0)), o] [] m R := by
  obtain ⟨S, hd, hc⟩ := T
  have f1 : 30 - k = (29 - k) + 1 := by omega
  have ek : (nI k).toNatClampNeg = k := nI_clamp (by omega)
  refine qa_t1_W (cut := [5, 71]) 100 ?_
  refine x_num hl2 S (fun m1 w fr S1 hn => Exists.intro _ (And.intro rfl ?_)) (fun m1 fr S1 hdr hn hne => Exists.intro _ (And.intro rfl ?_))
  · refine And.intro (fun _ => ?_) (fun q => absurd rfl q)
    refine And.intro (Or.inl rfl) (h m1 0 (Or.inr ⟨rfl, w, S1, ?_⟩))
    rw [eF, f1]
    show sq (numR (bC s) l 0 99 (rnP (bC s) l k)) _ = _
    rw [← eP, hn 0 99, sq_f]
  · have hn := hn 0 99
    rw [if_pos nv_99] at hn
    rw [eP] at hn hne S1
    refine And.intro (fun q => absurd q (by rw [eP]; exact hne)) (fun _ => ?_)
    have d1 : gI m1 13 r 1 = nI k := by rw [fr 13 r 1 (by decide), hd]
    have lt30 : gI m1 13 r 1 < 30 := by rw [d1]; exact nI_lt (b := 30) (by omega) (by decide)
    have v30 : qa_vin (gI m1 13 r 1) 30 := by rw [d1]; exact nI_in (by omega) (by decide)
    refine And.intro (fun _ => ?_) (fun q => absurd lt30 q)
    refine And.intro v30 ?_
    have T2 : ∀ m2, m2 = sI (sI m1 14 r (gI m1 13 r 1).toNatClampNeg (nvF (bC s) l 2 (sk (bC s) l p) 0)) 13 r 1 (gI (sI m1 14 r (gI m1 13 r 1).toNatClampNeg (nvF (bC s) l 2 (sk (bC s) l p) 0)) 13 r 1 + 1) → rc_T l r s m2 (k + 1) (rnP (bC s) l k + dr (bC s) l 2 (rnP (bC s) l k)) := fun m2 e2 => by
      rw [eP] at e2
      exact rc_store hk S1 d1 (fun j hj => by rw [fr 14 r j (by decide)]; exact hc j hj) e2
    generalize hm2 : sI (sI m1 14 r (gI m1 13 r 1).toNatClampNeg (nvF (bC s) l 2 (sk (bC s) l p) 0)) 13 r 1 (gI (sI m1 14 r (gI m1 13 r 1).toNatClampNeg (nvF (bC s) l 2 (sk (bC s) l p) 0)) 13 r 1 + 1) = m2 at T2
    have T3 := T2 m2 rfl
    have eF2 : rnF (bC s) l 30 (sk (bC s) l 0) = (if tc (bC s) l (sk (bC s) l (rnP (bC s) l k + dr (bC s) l 2 (rnP (bC s) l k))) = 44 ∧ 0 < 29 - k then rnF (bC s) l (29 - k) (rnP (bC s) l (k + 1)) else if tc (bC s) l (sk (bC s) l (rnP (bC s) l k + dr (bC s) l 2 (rnP (bC s) l k))) = -1 then (true, sk (bC s) l (rnP (bC s) l k + dr (bC s) l 2 (rnP (bC s) l k))) else (false, sk (bC s) l (rnP (bC s) l k + dr (bC s) l 2 (rnP (bC s) l k)))) := by
      rw [eF, f1]
      show sq (numR (bC s) l 0 99 (rnP (bC s) l k)) _ = _
      rw [hn, sq_t]
      rfl
    have eN2 : rnN (bC s) l 30 (sk (bC s) l 0) = k + (if tc (bC s) l (sk (bC s) l (rnP (bC s) l k + dr (bC s) l 2 (rnP (bC s) l k))) = 44 ∧ 0 < 29 - k then rnN (bC s) l (29 - k) (rnP (bC s) l (k + 1)) + 1 else 1) := by
      rw [eN, f1]
      rfl
    have end_ : ∀ m3 o e, tk_S l s m3 e → sk (bC s) l e = sk (bC s) l (rnP (bC s) l k + dr (bC s) l 2 (rnP (bC s) l k)) → nxf m2 m3 → ¬ (tc (bC s) l (sk (bC s) l (rnP (bC s) l k + dr (bC s) l 2 (rnP (bC s) l k))) = 44 ∧ 0 < 29 - k) → qW false (d + 40) 88 bc bs 71 [some (lR 13 (some r)), some (lR 1 (some 0)), o] [] m3 R := fun m3 o e S3 he f3 hnn => by
      rw [if_neg hnn] at eF2 eN2
      refine rc_71 (k := k) hB hl2 S3 (by rw [f3 13 r 1 (by decide), T3.2.1, eN2]) (fun j hj => ?_) (by rw [he]; exact eF2) h
      rw [f3 14 r j (by decide)]
      exact T3.2.2 j (by omega)
    have main : ∀ m2', m2' = m2 → (gI m2' 13 r 1 < 30 → qC false (d + 40) 118 [lR 1 (some 0), lI 44] m2' (fun a m3 => ∃ v, a = some (lI v) ∧ ((v = 0 → qW false (d + 40) 88 bc bs 71 [some (lR 13 (some r)), some (lR 1 (some 0)), some (lI (nvF (bC s) l 2 (sk (bC s) l p) 0))] [] m3 R) ∧ (¬ v = 0 → qW false (d + 40) 88 bc bs 5 [some (lR 13 (some r)), some (lR 1 (some 0)), some (lI (nvF (bC s) l 2 (sk (bC s) l p) 0))] [] m3 R)))) ∧ (¬ gI m2' 13 r 1 < 30 → qW false (d + 40) 88 bc bs 71 [some (lR 13 (some r)), some (lR 1 (some 0)), some (lI (nvF (bC s) l 2 (sk (bC s) l p) 0))] [] m2' R) := fun m2' em => by
      subst em
      refine ⟨fun c => ?_, fun c => ?_⟩
      · rw [T3.2.1] at c
        have c := Int32.lt_iff_toInt_lt.mp c
        rw [nI_toInt (by omega), show (30 : Int32).toInt = 30 by decide] at c
        refine x_takes hB hl2 T3.1 (by decide) (by decide) (fun m3 f3 S3 e => ⟨1, rfl, fun q => absurd q (by decide), fun _ => ?_⟩) (fun m3 f3 S3 e => ⟨0, rfl, fun _ => ?_, fun q => absurd rfl q⟩)
        · have cc : tc (bC s) l (sk (bC s) l (rnP (bC s) l k + dr (bC s) l 2 (rnP (bC s) l k))) = 44 ∧ 0 < 29 - k := ⟨e, by omega⟩
          rw [if_pos cc] at eF2 eN2
          exact next m3 _ _ (by omega) ⟨S3, by rw [f3 13 r 1 (by decide), T3.2.1], fun j hj => by rw [f3 14 r j (by decide), T3.2.2 j hj]⟩ rfl eF2 (by omega)
        · exact end_ m3 _ _ S3 (sk_sk _) f3 (fun q => e q.1)
      · rw [T3.2.1] at c
        exact end_ m2' _ _ T3.1 rfl nxf_0 (fun q => c (nI_lt (b := 30) (by omega) (by decide)))
    exact main _ hm2
theorem rc_l (hB : tp_B (bC s) l) (hl2 : l ≤ 200) (h : ∀ m v, rcO l r s m v → R (some (lI v)) m) : ∀ n k m p o, k + n = 29 → rc_T l r s m k p → sk (bC s) l p = rnP (bC s) l k → rnF (bC s) l 30 (sk (bC s) l 0) = rnF (bC s) l (30 - k) (rnP (bC s) l k) → rnN (bC s) l 30 (sk (bC s) l 0) = k + rnN (bC s) l (30 - k) (rnP (bC s) l k) → qW false (d + 40) 88 bc bs 5 [some (lR 13 (some r)), some (lR 1 (some 0)), o] [] m R := by
  intro n
  induction n with
  | zero =>
    intro k m p o hk T eP eF eN
    exact rc_5 hB hl2 (by omega) T eP eF eN h (fun _ _ _ q => absurd q (by omega))
  | succ n ih =>
    intro k m p o hk T eP eF eN
    refine rc_5 hB hl2 (by omega) T eP eF eN h (fun m p o' _ T eP eF eN => ih (k + 1) m p o' (by omega) T eP ?_ ?_)
    · rw [eF, show 29 - k = 30 - (k + 1) by omega]
    · rw [eN, show 29 - k = 30 - (k + 1) by omega]
theorem c_rain {m : LMem} (hB : tp_B (bC s) l) (hl2 : l ≤ 200) (S : tk_S l s m 0) (h : ∀ m v, rcO l r s m v → R (some (lI v)) m) : qC false (d + 41) 88 [lR 13 (some r), lR 1 (some 0)] m R := by
  have T : rc_T l r s (sI m 13 r 1 0) 0 0 := by
    obtain ⟨J1, el1, eb1, ep1, hpl1⟩ := S
    refine ⟨⟨y_J_w J1 (fun r' hr' g1 g2 => ?_) (x_npr rfl), by rw [gI_sI, if_neg (fun q => absurd q.1 (by decide)), el1], ?_, by rw [gI_sI, if_neg (fun q => absurd q.1 (by decide)), ep1], hpl1⟩, by rw [gI_sI, if_pos ⟨rfl, rfl, rfl⟩]; rfl, fun j hj => absurd hj (Nat.not_lt_zero _)⟩
    · have hr' : r' ∈ [((1 : Int), (1 : Int), (0 : Int), (30 : Int))] := hr'
      rw [List.mem_singleton.mp hr']
      exact ⟨by decide, by decide⟩
    · rw [← eb1]
      exact funext fun j => by
        show gI (sI m 13 r 1 0) 2 0 j = gI m 2 0 j
        rw [gI_sI, if_neg (fun q => absurd q.1 (by decide))]
  refine qC_of rfl rfl ?_
  refine qa_t1_W (cut := [5]) 20 ?_
  exact rc_l hB hl2 h 29 0 _ 0 none rfl T rfl rfl (by rw [Nat.zero_add]; rfl)
end RC
