/-! DITCHES as functions of the bytes. -/
def itN (c : Int32) : Nat := if c = 98 then 1 else if c = 119 then 2 else if c = 111 then 3 else if c = 102 then 4 else 0
def loW (w : Nat) : Int32 := if w = 2 then 1 else 0
def hiW (w : Nat) : Int32 := if w = 2 then 9 else if w = 3 then 5 else 99
def upV (V : Nat → Int32) (w : Nat) (v : Int32) : Nat → Int32 := fun j => if j = w then v else V j
def itS (b : Nat → Int32) (l : Nat) : Nat → Nat → Nat → (Nat → Int32) → (Bool × Nat) × (Nat → Int32)
  | 0, _, p, V => ((true, p), V)
  | f + 1, h, p, V => if itN (tc b l p) = 0 then ((true, p), V) else if Nat.testBit h (itN (tc b l p)) = true then ((true, p), V) else if (numR b l (loW (itN (tc b l p))) (hiW (itN (tc b l p))) (sk b l (p + 1))).1 = true then itS b l f (h ||| 2 ^ itN (tc b l p)) (numR b l (loW (itN (tc b l p))) (hiW (itN (tc b l p))) (sk b l (p + 1))).2 (upV V (itN (tc b l p)) (nvF b l 2 (sk b l (p + 1)) 0)) else (numR b l (loW (itN (tc b l p))) (hiW (itN (tc b l p))) (sk b l (p + 1)), V)
def soN (c : Int32) : Nat := if c = 99 then 0 else if c = 115 then 1 else if c = 116 then 2 else 3
def usV (so : Nat) : Nat → Int32 := fun w => if w = 0 then nI so else if w = 1 then 50 else if w = 2 then 4 else if w = 3 then 0 else 80
def rcS (b : Nat → Int32) (l p : Nat) : (Bool × Nat) × (Nat → Int32) := if soN (tc b l p) = 3 then ((false, p), fun _ => 0) else itS b l 5 0 (sk b l (p + 1)) (usV (soN (tc b l p)))
def dtS (b : Nat → Int32) (l : Nat) : Nat → Nat → Bool × Nat
  | 0, _ => (false, 0)
  | f + 1, p => sq (rcS b l p).1 fun q => if tc b l q = 44 ∧ 0 < f then dtS b l f (sk b l (q + 1)) else if tc b l q = -1 ∧ f < 19 then (true, q) else (false, q)
def dtN (b : Nat → Int32) (l : Nat) : Nat → Nat → Nat
  | 0, _ => 0
  | f + 1, p => if tc b l (rcS b l p).1.2 = 44 ∧ 0 < f then dtN b l f (sk b l ((rcS b l p).1.2 + 1)) + 1 else 1
def dtP (b : Nat → Int32) (l : Nat) : Nat → Nat
  | 0 => sk b l 0
  | k + 1 => sk b l ((rcS b l (dtP b l k)).1.2 + 1)
/-! the bits of what is had -/
def cnt (h : Nat) : Nat := (Nat.testBit h 1).toNat + (Nat.testBit h 2).toNat + (Nat.testBit h 3).toNat + (Nat.testBit h 4).toNat
theorem bt_a : ∀ h : Fin 32, ∀ w : Fin 5, (decide (((nI h.val >>> (nI w.val &&& 31)) &&& 1) = 1) == Nat.testBit h.val w.val) = true := by decide +kernel
theorem bt_b : ∀ h : Fin 32, ∀ w : Fin 5, (nI h.val ||| ((1 : Int32) <<< (nI w.val &&& 31))) = nI (h.val ||| 2 ^ w.val) := by decide +kernel
theorem bt_c : ∀ h : Fin 32, ∀ w : Fin 5, (h.val ||| 2 ^ w.val) < 32 ∧ (1 ≤ w.val → Nat.testBit h.val w.val = false → cnt (h.val ||| 2 ^ w.val) = cnt h.val + 1) ∧ cnt h.val ≤ 4 ∧ (cnt h.val = 4 → 1 ≤ w.val → Nat.testBit h.val w.val = true) := by decide +kernel
theorem bt_1 {h w : Nat} (hh : h < 32) (hw : w < 5) : ((nI h >>> (nI w &&& 31)) &&& 1) = 1 ↔ Nat.testBit h w = true := by
  have e := bt_a ⟨h, hh⟩ ⟨w, hw⟩
  have e : (decide (((nI h >>> (nI w &&& 31)) &&& 1) = 1) == Nat.testBit h w) = true := e
  have e := beq_iff_eq.mp e
  rw [← e]
  exact decide_eq_true_iff.symm
theorem bt_2 {h w : Nat} (hh : h < 32) (hw : w < 5) : (nI h ||| ((1 : Int32) <<< (nI w &&& 31))) = nI (h ||| 2 ^ w) := bt_b ⟨h, hh⟩ ⟨w, hw⟩
theorem bt_3 {h w : Nat} (hh : h < 32) (hw : w < 5) : (h ||| 2 ^ w) < 32 ∧ (1 ≤ w → Nat.testBit h w = false → cnt (h ||| 2 ^ w) = cnt h + 1) ∧ cnt h ≤ 4 ∧ (cnt h = 4 → 1 ≤ w → Nat.testBit h w = true) := bt_c ⟨h, hh⟩ ⟨w, hw⟩
theorem itN_lt {c : Int32} : itN c < 5 := by
  unfold itN
  by_cases e1 : c = 98
  · rw [if_pos e1]; decide
  rw [if_neg e1]
  by_cases e2 : c = 119
  · rw [if_pos e2]; decide
  rw [if_neg e2]
  by_cases e3 : c = 111
  · rw [if_pos e3]; decide
  rw [if_neg e3]
  by_cases e4 : c = 102
  · rw [if_pos e4]; decide
  rw [if_neg e4]
  decide
theorem itF_N {c : Int32} : (itF c = -1 ∧ itN c = 0) ∨ (itF c = nI (itN c) ∧ 1 ≤ itN c) := by
  unfold itN itF
  by_cases e1 : c = 98
  · rw [if_pos e1, if_pos e1]; exact Or.inr ⟨rfl, by decide⟩
  rw [if_neg e1, if_neg e1]
  by_cases e2 : c = 119
  · rw [if_pos e2, if_pos e2]; exact Or.inr ⟨rfl, by decide⟩
  rw [if_neg e2, if_neg e2]
  by_cases e3 : c = 111
  · rw [if_pos e3, if_pos e3]; exact Or.inr ⟨rfl, by decide⟩
  rw [if_neg e3, if_neg e3]
  by_cases e4 : c = 102
  · rw [if_pos e4, if_pos e4]; exact Or.inr ⟨rfl, by decide⟩
  rw [if_neg e4, if_neg e4]
  exact Or.inl ⟨rfl, rfl⟩
section IT
variable {b : Nat → Int32} {l f h p : Nat} {V : Nat → Int32}
theorem its_0 (e : itN (tc b l p) = 0) : itS b l (f + 1) h p V = ((true, p), V) := if_pos e
theorem its_h (e : itN (tc b l p) ≠ 0) (e2 : Nat.testBit h (itN (tc b l p)) = true) : itS b l (f + 1) h p V = ((true, p), V) := by
  show (if itN (tc b l p) = 0 then _ else if Nat.testBit h (itN (tc b l p)) = true then _ else _) = _
  rw [if_neg e, if_pos e2]
theorem its_t {q : Nat} (e : itN (tc b l p) ≠ 0) (e2 : Nat.testBit h (itN (tc b l p)) = false) (e3 : numR b l (loW (itN (tc b l p))) (hiW (itN (tc b l p))) (sk b l (p + 1)) = (true, q)) : itS b l (f + 1) h p V = itS b l f (h ||| 2 ^ itN (tc b l p)) q (upV V (itN (tc b l p)) (nvF b l 2 (sk b l (p + 1)) 0)) := by
  show (if itN (tc b l p) = 0 then _ else if Nat.testBit h (itN (tc b l p)) = true then _ else if (numR b l (loW (itN (tc b l p))) (hiW (itN (tc b l p))) (sk b l (p + 1))).1 = true then _ else _) = _
  rw [if_neg e, if_neg (by rw [e2]; decide), e3, if_pos rfl]
theorem its_f {z : Nat} (e : itN (tc b l p) ≠ 0) (e2 : Nat.testBit h (itN (tc b l p)) = false) (e3 : numR b l (loW (itN (tc b l p))) (hiW (itN (tc b l p))) (sk b l (p + 1)) = (false, z)) : itS b l (f + 1) h p V = ((false, z), V) := by
  show (if itN (tc b l p) = 0 then _ else if Nat.testBit h (itN (tc b l p)) = true then _ else if (numR b l (loW (itN (tc b l p))) (hiW (itN (tc b l p))) (sk b l (p + 1))).1 = true then _ else _) = _
  rw [if_neg e, if_neg (by rw [e2]; decide), e3, if_neg (fun q => by cases q)]
theorem itN_pl (e : itN (tc b l p) ≠ 0) : p < l := by
  rcases Nat.lt_or_ge p l with c | c
  · exact c
  · unfold tc at e
    rw [if_neg (by omega)] at e
    exact absurd rfl e
end IT
/-- of ditches, that one alone is written -/
def dfr (dd : Nat) (s m : LMem) : Prop := ∀ k j, k ≠ 33 → ¬ (k = 44 ∧ j = dd) → ¬ (k = 45 ∧ 100 * dd ≤ j ∧ j < 100 * dd + 100) → gI m k 0 j = gI s k 0 j
theorem dfr_rd {dd : Nat} {s m m' : LMem} (h : dfr dd s m) (h2 : rd_S m m') : dfr dd s m' := fun k j a b c => by rw [h2.1 k 0 j (fun q => a q.1), h k j a b c]
theorem dfr_45 {dd i : Nat} {x : Int32} {s m : LMem} (h : dfr dd s m) (h1 : 100 * dd ≤ i) (h2 : i < 100 * dd + 100) : dfr dd s (sI m 45 0 i x) := fun k j a b c => by
  rw [gI_sI, if_neg (fun q => c ⟨q.1, by rw [q.2.2]; exact h1, by rw [q.2.2]; exact h2⟩), h k j a b c]
theorem dfr_44 {dd : Nat} {x : Int32} {s m : LMem} (h : dfr dd s m) : dfr dd s (sI m 44 0 dd x) := fun k j a b c => by
  rw [gI_sI, if_neg (fun q => b ⟨q.1, q.2.2⟩), h k j a b c]
theorem dfr_33 {dd j' : Nat} {x : Int32} {s m : LMem} (h : dfr dd s m) : dfr dd s (sI m 33 0 j' x) := fun k j a b c => by
  rw [gI_sI, if_neg (fun q => a q.1), h k j a b c]
/-! reachOf of the reference -/
def du_B (l dd : Nat) (s m : LMem) (n : Nat) (V : Nat → Nat → Int32) : Prop := bS m = bS s ∧ gI m 33 0 2 = nI l ∧ gI m 44 0 dd = nI n ∧ dfr dd s m ∧ ∀ r w, r < n → w < 5 → gI m 45 0 (100 * dd + 5 * r + w) = V r w
theorem du_rd {l dd n : Nat} {V : Nat → Nat → Int32} {s m m' : LMem} (h : du_B l dd s m n V) (h2 : rd_S m m') : du_B l dd s m' n V := ⟨by rw [bS_rd h2, h.1], by rw [h2.1 33 0 2 (fun q => by omega), h.2.1], by rw [h2.1 44 0 dd (fun q => absurd q.1 (by decide)), h.2.2.1], dfr_rd h.2.2.2.1 h2, fun r w hr hw => by rw [h2.1 45 0 _ (fun q => absurd q.1 (by decide)), h.2.2.2.2 r w hr hw]⟩
/-- the row that is read -/
def du_R (dd n : Nat) (m : LMem) (V : Nat → Int32) : Prop := ∀ w, w < 5 → gI m 45 0 (100 * dd + 5 * n + w) = V w
theorem duR_rd {dd n : Nat} {V : Nat → Int32} {m m' : LMem} (h : du_R dd n m V) (h2 : rd_S m m') : du_R dd n m' V := fun w hw => by rw [h2.1 45 0 _ (fun q => absurd q.1 (by decide)), h w hw]
theorem du_45 {l dd n w : Nat} {x : Int32} {V : Nat → Nat → Int32} {s m : LMem} (hn : n < 20) (hw : w < 5) (h : du_B l dd s m n V) : du_B l dd s (sI m 45 0 (100 * dd + 5 * n + w) x) n V := by
  refine ⟨?_, by rw [gI_sI, if_neg (fun q => absurd q.1 (by decide)), h.2.1], by rw [gI_sI, if_neg (fun q => absurd q.1 (by decide)), h.2.2.1], dfr_45 h.2.2.2.1 (by omega) (by omega), fun r w' hr hw' => by rw [gI_sI, if_neg (fun q => by omega), h.2.2.2.2 r w' hr hw']⟩
  rw [← h.1]
  exact funext fun j => by
    show gI (sI m 45 0 (100 * dd + 5 * n + w) x) 34 0 j = gI m 34 0 j
    rw [gI_sI, if_neg (fun q => absurd q.1 (by decide))]
theorem duR_45 {dd n w : Nat} {x : Int32} {V : Nat → Int32} {m : LMem} (h : du_R dd n m V) : du_R dd n (sI m 45 0 (100 * dd + 5 * n + w) x) (upV V w x) := fun w' hw => by
  rw [gI_sI]
  unfold upV
  by_cases e : w' = w
  · rw [if_pos e, if_pos ⟨rfl, rfl, by rw [e]⟩]
  · rw [if_neg e, if_neg (fun q => e (by have := q.2.2; omega)), h w' hw]
section DU
variable {d bc bs l dd : Nat} {s : LMem} {Q : LPost}
theorem h_hasBitU {h w : Nat} {m : LMem} (hh : h < 32) (hw : w < 5) (h1 : Nat.testBit h w = true → Q (some (lI 1)) m) (h0 : Nat.testBit h w = false → Q (some (lI 0)) m) : qC false (d + 1) 199 [lI (nI h), lI (nI w)] m Q := by
  refine qC_of rfl rfl ?_
  refine qa_t1_W (cut := []) 30 ?_
  refine And.intro (fun e => And.intro (Or.inr rfl) (h1 ((bt_1 hh hw).mp e))) (fun e => And.intro (Or.inl rfl) (h0 ?_))
  cases hx : Nat.testBit h w with
  | false => rfl
  | true => exact absurd ((bt_1 hh hw).mpr hx) e
/-- what reachOf leaves: x = rcS of where it began -/
def duO (l dd n : Nat) (x : (Bool × Nat) × (Nat → Int32)) (V : Nat → Nat → Int32) (s m : LMem) : Prop := ((∃ q, x.1 = (true, q) ∧ sk (bS s) l q = q ∧ q ≤ l ∧ gI m 33 0 4 = -1 ∧ gI m 33 0 3 = nI q ∧ du_B l dd s m (n + 1) (fun r => if r = n then x.2 else V r)) ∨ (∃ w, x.1 = (false, w) ∧ w ≤ 1000 ∧ gI m 33 0 4 = nI w)) ∧ dfr dd s m
theorem du_240 {n : Nat} {o2 o3 o4 o5 o6 : Option LV} {x : (Bool × Nat) × (Nat → Int32)} {V : Nat → Nat → Int32} {m : LMem} (hd5 : dd < 5) (hn : n < 20) (h44 : gI m 44 0 dd = nI n) (F : dfr dd s m) (hO : (∃ q, x.1 = (true, q) ∧ sk (bS s) l q = q ∧ q ≤ l ∧ gI m 33 0 4 = -1 ∧ gI m 33 0 3 = nI q ∧ du_B l dd s m n V ∧ du_R dd n m x.2) ∨ (∃ w, x.1 = (false, w) ∧ w ≤ 1000 ∧ gI m 33 0 4 = nI w)) (h : ∀ m, duO l dd n x V s m → Q none m) : qW false d 232 bc bs 240 [some (lR 33 (some 0)), some (lI (nI dd)), o2, o3, o4, o5, o6] [] m Q := by
  have v5 : qa_vin (nI dd) 5 := nI_in (by omega) (by decide)
  have er : (nI dd).toNatClampNeg = dd := nI_clamp (by omega)
  have g : ∀ k j, k ≠ 44 → gI (sI m 44 0 dd (nI (n + 1))) k 0 j = gI m k 0 j := fun k j hk => by rw [gI_sI, if_neg (fun q => hk q.1)]
  have fin : Q none (sI m 44 0 (nI dd).toNatClampNeg (gI m 44 0 (nI dd).toNatClampNeg + 1)) := by
    rw [er, h44, nI_1]
    refine h _ ⟨?_, dfr_44 F⟩
    rcases hO with ⟨q, e1, e2, e3, e4, e5, B, R⟩ | ⟨w, e1, e2, e3⟩
    · refine Or.inl ⟨q, e1, e2, e3, by rw [g 33 4 (by decide), e4], by rw [g 33 3 (by decide), e5], ?_, by rw [g 33 2 (by decide), B.2.1], by rw [gI_sI, if_pos ⟨rfl, rfl, rfl⟩], dfr_44 F, fun r w hr hw => ?_⟩
      · rw [← B.1]
        exact funext fun j => g 34 j (by decide)
      · rw [g 45 _ (by decide)]
        show gI m 45 0 (100 * dd + 5 * r + w) = (if r = n then x.2 else V r) w
        by_cases e : r = n
        · rw [if_pos e, e]
          exact R w hw
        · rw [if_neg e]
          exact B.2.2.2.2 r w (by omega) hw
    · exact Or.inr ⟨w, e1, e2, by rw [g 33 4 (by decide), e3]⟩
  refine qa_t1_W (cut := []) 30 ?_
  exact And.intro v5 (And.intro v5 fin)
theorem du_127 {n : Nat} {o2 o3 : Option LV} {x : (Bool × Nat) × (Nat → Int32)} {V : Nat → Nat → Int32} (hd5 : dd < 5) (hn : n < 20) (hl2 : l ≤ 200) (h : ∀ m, duO l dd n x V s m → Q none m) : ∀ f hh p m U o6, f + cnt hh = 5 → hh < 32 → du_B l dd s m n V → du_R dd n m U → gI m 33 0 4 = -1 → gI m 33 0 3 = nI p → p ≤ l → x = itS (bS s) l f hh (sk (bS s) l p) U → qW false (d + 3) 232 bc bs 127 [some (lR 33 (some 0)), some (lI (nI dd)), o2, o3, some (lI (nI (100 * dd + 5 * n))), some (lI (nI hh)), o6] [] m Q := by
  intro f
  induction f with
  | zero =>
    intro hh p m U o6 hf hh2
    have := (bt_3 (w := 0) hh2 (by decide)).2.2.1
    omega
  | succ f ih =>
    intro hh p m U o6 hf hh2 B R w h3 hpl ex
    have sk2 : sk (bS s) l p ≤ max p l := sk_le p
    have sk3 : sk (bS s) l (sk (bS s) l p) = sk (bS s) l p := sk_sk p
    refine qa_t1_W (cut := [127, 240]) 140 ?_
    refine And.intro (fun _ => ?_) (fun c => absurd w c)
    have hb := B.1
    refine h_lookF B.2.1 hl2 h3 (by omega) fun m1 hr k4 k5 k3 => Exists.intro _ (And.intro rfl ?_)
    rw [hb] at k3 ⊢
    have B1 := du_rd B hr
    have R1 := duR_rd R hr
    have w1 : gI m1 33 0 4 = -1 := by rw [k4, w]
    generalize hq : sk (bS s) l p = q at *
    have stop : x = ((true, q), U) → ∀ o5 o6, qW false (d + 3) 232 bc bs 240 [some (lR 33 (some 0)), some (lI (nI dd)), o2, o3, some (lI (nI (100 * dd + 5 * n))), o5, o6] [] m1 Q := fun e o5 o6 => du_240 hd5 hn B1.2.2.1 B1.2.2.2.1 (Or.inl ⟨q, by rw [e], sk3, by omega, w1, k3, B1, by rw [e]; exact R1⟩) h
    refine h_itemOf (Exists.intro _ (And.intro rfl ?_))
    have itw : itN (tc (bS s) l q) < 5 := itN_lt
    rcases itF_N (c := tc (bS s) l q) with ⟨i1, i2⟩ | ⟨i1, i2⟩
    · exact And.intro (fun _ => stop (by rw [ex, its_0 i2]) _ _) (fun c => absurd i1 c)
    have ni : itN (tc (bS s) l q) ≠ 0 := by omega
    have hql := itN_pl ni
    refine And.intro (fun c => absurd (i1.symm.trans c) (nI_ne1 (by omega))) (fun _ => ?_)
    have hl4 : gI m1 33 0 2 = nI l := B1.2.1
    have rc : rch m1 l q = tc (bS s) l q := by rw [rch_tc, B1.1]
    refine h_here hl4 hl2 k3 (by omega) (Exists.intro _ (And.intro rfl ?_))
    rw [rc]
    refine h_itemOf (Exists.intro _ (And.intro rfl ?_))
    rw [i1]
    refine h_hasBitU hh2 itw (fun hb1 => Exists.intro 1 (And.intro rfl ?_)) (fun hb1 => Exists.intro 0 (And.intro rfl ?_))
    · exact And.intro (fun q => absurd q (by decide)) (fun _ => stop (by rw [ex, its_h ni hb1]) _ _)
    · refine And.intro (fun _ => ?_) (fun q => absurd rfl q)
      refine h_here hl4 hl2 k3 (by omega) (Exists.intro _ (And.intro rfl ?_))
      rw [rc]
      refine h_itemOf (Exists.intro _ (And.intro rfl ?_))
      rw [i1]
      obtain ⟨b1, b2, b3, b4⟩ := bt_3 hh2 itw
      generalize hk : itN (tc (bS s) l q) = k at *
      have hr2 := rd_s (s := m1) (v := gI m1 33 0 3 + 1) (Or.inl rfl : (3 : Nat) = 3 ∨ (3 : Nat) = 4 ∨ (3 : Nat) = 5) rd_0
      have c3 : gI (sI m1 33 0 3 (gI m1 33 0 3 + 1)) 33 0 3 = nI (q + 1) := by rw [gI_sI, if_pos ⟨rfl, rfl, rfl⟩, k3, nI_1]
      have c4 : gI (sI m1 33 0 3 (gI m1 33 0 3 + 1)) 33 0 4 = -1 := by rw [gI_sI, if_neg (fun q => absurd q.2.2 (by decide)), w1]
      have B2 := du_rd B1 hr2
      have R2 := duR_rd R1 hr2
      have i2' : nI (100 * dd + 5 * n) + nI k = nI (100 * dd + 5 * n + k) := nI_add _ _
      have vi : qa_vin (nI (100 * dd + 5 * n) + nI k) 500 := by rw [i2']; exact nI_in (by omega) (by decide)
      have step : ∀ (lo hi : Int32), lo = loW k → hi = hiW k → qC false (d + 3) 230 [lR 33 (some 0), lI lo, lI hi] (sI m1 33 0 3 (gI m1 33 0 3 + 1)) (fun r m' => ∃ v, r = some (lI v) ∧ (qa_vin (nI (100 * dd + 5 * n) + nI k) 500 ∧ qW false (d + 3) 232 bc bs 127 [some (lR 33 (some 0)), some (lI (nI dd)), o2, o3, some (lI (nI (100 * dd + 5 * n))), some (lI (nI hh ||| ((1 : Int32) <<< (nI k &&& 31)))), some (lI (nI k))] [] (sI m' 45 0 (nI (100 * dd + 5 * n) + nI k).toNatClampNeg v) Q)) := fun lo hi e1 e2 => by
        subst e1
        subst e2
        refine h_numU B2.2.1 hl2 c3 (by omega) c4 fun m' v hr' O => Exists.intro v (And.intro rfl (And.intro vi ?_))
        rw [i2', nI_clamp (by omega), bt_2 hh2 itw]
        rw [B2.1] at O
        have B3 := du_rd B2 hr'
        have R3 := duR_rd R2 hr'
        have hb1' : Nat.testBit hh (itN (tc (bS s) l q)) = false := by rw [hk]; exact hb1
        have ni' : itN (tc (bS s) l q) ≠ 0 := by rw [hk]; exact ni
        rcases O with ⟨o1, o2, o3, o4⟩ | ⟨z, o1, o2, o3, y, o4, o5⟩
        · have dl := dr_le (b := bS s) (l := l) 2 (sk (bS s) l (q + 1)) (by
            have := sk_le (b := bS s) (l := l) (q + 1)
            omega)
          refine ih _ (sk (bS s) l (q + 1) + dr (bS s) l 2 (sk (bS s) l (q + 1))) _ (upV U k v) _ (by have := b2 i2 hb1; omega) b1 (du_45 hn itw B3) (duR_45 R3) (by rw [gI_sI, if_neg (fun q => absurd q.1 (by decide)), o2]) (by rw [gI_sI, if_neg (fun q => absurd q.1 (by decide)), o3]) (by omega) ?_
          rw [ex, its_t ni' hb1' (by rw [hk]; exact o1), hk, o4]
        · refine qa_t1_W (cut := [127, 240]) 20 ?_
          have w4 : gI (sI m' 45 0 (100 * dd + 5 * n + k) v) 33 0 4 = nI z := by rw [gI_sI, if_neg (fun q => absurd q.1 (by decide)), o3]
          refine And.intro (fun c => absurd (w4.symm.trans c) (nI_ne1 (by omega))) (fun _ => ?_)
          exact du_240 hd5 hn (du_45 hn itw B3).2.2.1 (du_45 hn itw B3).2.2.2.1 (Or.inr ⟨z, by rw [ex, its_f ni' hb1' (by rw [hk]; exact o1)], o2, w4⟩) h
      have t2 : nI k = 2 ↔ k = 2 := ⟨fun q => by
        have q := congrArg Int32.toInt q
        rw [nI_toInt (by omega)] at q
        have : (2 : Int32).toInt = 2 := by decide
        omega, fun q => by rw [q]; rfl⟩
      have t3 : nI k = 3 ↔ k = 3 := ⟨fun q => by
        have q := congrArg Int32.toInt q
        rw [nI_toInt (by omega)] at q
        have : (3 : Int32).toInt = 3 := by decide
        omega, fun q => by rw [q]; rfl⟩
      refine And.intro (fun c => ?_) (fun c => ?_)
      · have c := t2.mp c
        refine And.intro (fun _ => ?_) (fun q => absurd (t2.mpr c) q)
        exact step 1 9 (by unfold loW; rw [if_pos c]) (by unfold hiW; rw [if_pos c])
      · have c : ¬ k = 2 := fun q => c (t2.mpr q)
        refine And.intro (fun q => absurd (t2.mp q) c) (fun _ => ?_)
        refine And.intro (fun c3 => ?_) (fun c3 => ?_)
        · have c3 := t3.mp c3
          exact step 0 5 (by unfold loW; rw [if_neg c]) (by unfold hiW; rw [if_neg c, if_pos c3])
        · have c3 : ¬ k = 3 := fun q => c3 (t3.mpr q)
          exact step 0 99 (by unfold loW; rw [if_neg c]) (by unfold hiW; rw [if_neg c, if_neg c3])
end DU
/-! reachOf and readDitch of the reference, by what they answer and keep. -/
section DH
variable {d bc bs l dd : Nat} {s : LMem} {Q : LPost}
theorem du_47 {n q so : Nat} {x : (Bool × Nat) × (Nat → Int32)} {V : Nat → Nat → Int32} {m : LMem} {c z : Int32} (hd5 : dd < 5) (hn : n < 20) (hl2 : l ≤ 200) (h : ∀ m, duO l dd n x V s m → Q none m) (B : du_B l dd s m n V) (hw : gI m 33 0 4 = -1) (hq : gI m 33 0 3 = nI q) (hq2 : q < l) (ez : z = nI so) (ex : x = itS (bS s) l 5 0 (sk (bS s) l (q + 1)) (usV so)) : qW false (d + 3) 232 bc bs 47 [some (lR 33 (some 0)), some (lI (nI dd)), some (lI c), some (lI z), none, none, none] [] m Q := by
  have v5 : qa_vin (nI dd) 5 := nI_in (by omega) (by decide)
  have er : (nI dd).toNatClampNeg = dd := nI_clamp (by omega)
  have hr2 := rd_s (s := m) (v := gI m 33 0 3 + 1) (Or.inl rfl : (3 : Nat) = 3 ∨ (3 : Nat) = 4 ∨ (3 : Nat) = 5) rd_0
  have B2 := du_rd B hr2
  have a2 : gI (sI m 33 0 3 (gI m 33 0 3 + 1)) 33 0 3 = nI (q + 1) := by rw [gI_sI, if_pos ⟨rfl, rfl, rfl⟩, hq, nI_1]
  have w2 : gI (sI m 33 0 3 (gI m 33 0 3 + 1)) 33 0 4 = -1 := by rw [gI_sI, if_neg (fun q => absurd q.2.2 (by decide)), hw]
  have d2 : gI (sI m 33 0 3 (gI m 33 0 3 + 1)) 44 0 dd = nI n := B2.2.2.1
  have eB : (5 : Int32) * ((20 : Int32) * nI dd + gI (sI m 33 0 3 (gI m 33 0 3 + 1)) 44 0 (nI dd).toNatClampNeg) = nI (100 * dd + 5 * n) := by
    rw [er, d2, show (20 : Int32) = nI 20 from rfl, show (5 : Int32) = nI 5 from rfl, nI_mul, nI_add, nI_mul, show 5 * (20 * dd + n) = 100 * dd + 5 * n by omega]
  have bw : ∀ w : Nat, w < 5 → nI (100 * dd + 5 * n) + nI w = nI (100 * dd + 5 * n + w) := fun w _ => nI_add _ _
  have vi : ∀ w : Nat, w < 5 → qa_vin ((5 : Int32) * ((20 : Int32) * nI dd + gI (sI m 33 0 3 (gI m 33 0 3 + 1)) 44 0 (nI dd).toNatClampNeg) + nI w) 500 := fun w hw => by
    rw [eB, bw w hw]
    exact nI_in (by omega) (by decide)
  have cw : ∀ w : Nat, w < 5 → (nI (100 * dd + 5 * n) + nI w).toNatClampNeg = 100 * dd + 5 * n + w := fun w hw => by rw [bw w hw, nI_clamp (by omega)]
  have B3 : du_B l dd s (sI (sI (sI (sI (sI (sI m 33 0 3 (gI m 33 0 3 + 1)) 45 0 (100 * dd + 5 * n + 0) z) 45 0 (100 * dd + 5 * n + 1) 50) 45 0 (100 * dd + 5 * n + 2) 4) 45 0 (100 * dd + 5 * n + 3) 0) 45 0 (100 * dd + 5 * n + 4) 80) n V := du_45 hn (by decide) (du_45 hn (by decide) (du_45 hn (by decide) (du_45 hn (by decide) (du_45 hn (by decide) B2))))
  have R3 : du_R dd n (sI (sI (sI (sI (sI (sI m 33 0 3 (gI m 33 0 3 + 1)) 45 0 (100 * dd + 5 * n + 0) z) 45 0 (100 * dd + 5 * n + 1) 50) 45 0 (100 * dd + 5 * n + 2) 4) 45 0 (100 * dd + 5 * n + 3) 0) 45 0 (100 * dd + 5 * n + 4) 80) (usV so) := fun w hw => by
    unfold usV
    rw [gI_sI, gI_sI, gI_sI, gI_sI, gI_sI]
    have c : w = 0 ∨ w = 1 ∨ w = 2 ∨ w = 3 ∨ w = 4 := by omega
    rcases c with rfl | rfl | rfl | rfl | rfl
    · rw [if_neg (fun q => by have := q.2.2; omega), if_neg (fun q => by have := q.2.2; omega), if_neg (fun q => by have := q.2.2; omega), if_neg (fun q => by have := q.2.2; omega), if_pos ⟨rfl, rfl, rfl⟩, if_pos rfl, ez]
    · rw [if_neg (fun q => by have := q.2.2; omega), if_neg (fun q => by have := q.2.2; omega), if_neg (fun q => by have := q.2.2; omega), if_pos ⟨rfl, rfl, rfl⟩, if_neg (by decide), if_pos rfl]
    · rw [if_neg (fun q => by have := q.2.2; omega), if_neg (fun q => by have := q.2.2; omega), if_pos ⟨rfl, rfl, rfl⟩, if_neg (by decide), if_neg (by decide), if_pos rfl]
    · rw [if_neg (fun q => by have := q.2.2; omega), if_pos ⟨rfl, rfl, rfl⟩, if_neg (by decide), if_neg (by decide), if_neg (by decide), if_pos rfl]
    · rw [if_pos ⟨rfl, rfl, rfl⟩, if_neg (by decide), if_neg (by decide), if_neg (by decide), if_neg (by decide)]
  have g3 : ∀ j, gI (sI (sI (sI (sI (sI (sI m 33 0 3 (gI m 33 0 3 + 1)) 45 0 (100 * dd + 5 * n + 0) z) 45 0 (100 * dd + 5 * n + 1) 50) 45 0 (100 * dd + 5 * n + 2) 4) 45 0 (100 * dd + 5 * n + 3) 0) 45 0 (100 * dd + 5 * n + 4) 80) 33 0 j = gI (sI m 33 0 3 (gI m 33 0 3 + 1)) 33 0 j := fun j => by
    rw [gI_sI, if_neg (fun q => absurd q.1 (by decide)), gI_sI, if_neg (fun q => absurd q.1 (by decide)), gI_sI, if_neg (fun q => absurd q.1 (by decide)), gI_sI, if_neg (fun q => absurd q.1 (by decide)), gI_sI, if_neg (fun q => absurd q.1 (by decide))]
  have go : qW false (d + 3) 232 bc bs 127 [some (lR 33 (some 0)), some (lI (nI dd)), some (lI c), some (lI z), some (lI ((5 : Int32) * ((20 : Int32) * nI dd + gI (sI m 33 0 3 (gI m 33 0 3 + 1)) 44 0 (nI dd).toNatClampNeg))), some (lI 0), none] [] (sI (sI (sI (sI (sI (sI m 33 0 3 (gI m 33 0 3 + 1)) 45 0 ((5 : Int32) * ((20 : Int32) * nI dd + gI (sI m 33 0 3 (gI m 33 0 3 + 1)) 44 0 (nI dd).toNatClampNeg) + nI 0).toNatClampNeg z) 45 0 ((5 : Int32) * ((20 : Int32) * nI dd + gI (sI m 33 0 3 (gI m 33 0 3 + 1)) 44 0 (nI dd).toNatClampNeg) + nI 1).toNatClampNeg 50) 45 0 ((5 : Int32) * ((20 : Int32) * nI dd + gI (sI m 33 0 3 (gI m 33 0 3 + 1)) 44 0 (nI dd).toNatClampNeg) + nI 2).toNatClampNeg 4) 45 0 ((5 : Int32) * ((20 : Int32) * nI dd + gI (sI m 33 0 3 (gI m 33 0 3 + 1)) 44 0 (nI dd).toNatClampNeg) + nI 3).toNatClampNeg 0) 45 0 ((5 : Int32) * ((20 : Int32) * nI dd + gI (sI m 33 0 3 (gI m 33 0 3 + 1)) 44 0 (nI dd).toNatClampNeg) + nI 4).toNatClampNeg 80) Q := by
    rw [eB, cw 0 (by decide), cw 1 (by decide), cw 2 (by decide), cw 3 (by decide), cw 4 (by decide)]
    exact du_127 hd5 hn hl2 h 5 0 (q + 1) _ (usV so) none rfl (by decide) B3 R3 (by rw [g3, w2]) (by rw [g3, a2]) (by omega) ex
  refine qa_t1_W (cut := [127]) 140 ?_
  exact And.intro v5 (And.intro (vi 0 (by decide)) (And.intro (vi 1 (by decide)) (And.intro (vi 2 (by decide)) (And.intro (vi 3 (by decide)) (And.intro (vi 4 (by decide)) go)))))
theorem h_reachOfU {n p : Nat} {V : Nat → Nat → Int32} {m : LMem} (hd5 : dd < 5) (hn : n < 20) (hl2 : l ≤ 200) (B : du_B l dd s m n V) (hw : gI m 33 0 4 = -1) (hp : gI m 33 0 3 = nI p) (hp2 : p ≤ l) (h : ∀ m, duO l dd n (rcS (bS s) l (sk (bS s) l p)) V s m → Q none m) : qC false (d + 4) 232 [lR 33 (some 0), lI (nI dd)] m Q := by
  have hb := B.1
  have sk2 : sk (bS s) l p ≤ max p l := sk_le p
  refine qC_of rfl rfl ?_
  refine qa_t1_W (cut := [47]) 60 ?_
  refine h_lookF B.2.1 hl2 hp (by omega) fun m1 hr k4 k5 k3 => Exists.intro _ (And.intro rfl ?_)
  rw [hb] at k3 ⊢
  have B1 := du_rd B hr
  have w1 : gI m1 33 0 4 = -1 := by rw [k4, hw]
  generalize hq : sk (bS s) l p = q at *
  have go : ∀ so c, soN (tc (bS s) l q) = so → so < 3 → q < l → qW false (d + 3) 232 0 0 47 [some (lR 33 (some 0)), some (lI (nI dd)), some (lI c), some (lI (nI so)), none, none, none] [] m1 Q := fun so c e1 e2 hql => du_47 hd5 hn hl2 h B1 w1 k3 hql rfl (by
    unfold rcS
    rw [e1, if_neg (by omega)])
  refine And.intro (fun e => ?_) (fun ne1 => ?_)
  · have e : tc (bS s) l q = 99 := e
    exact And.intro (fun q => absurd q (by decide)) (fun _ => go 0 _ (by rw [e]; rfl) (by decide) (tc_lt (by decide) e))
  refine And.intro (fun e => ?_) (fun ne2 => ?_)
  · have e : tc (bS s) l q = 115 := e
    exact And.intro (fun q => absurd q (by decide)) (fun _ => go 1 _ (by rw [e]; rfl) (by decide) (tc_lt (by decide) e))
  refine And.intro (fun e => ?_) (fun ne3 => ?_)
  · have e : tc (bS s) l q = 116 := e
    exact And.intro (fun q => absurd q (by decide)) (fun _ => go 2 _ (by rw [e]; rfl) (by decide) (tc_lt (by decide) e))
  refine And.intro (fun _ => ?_) (fun q => absurd rfl q)
  have fin : Q none (sI m1 33 0 4 (nI q)) := by
    refine h _ ⟨Or.inr ⟨q, ?_, by omega, by rw [gI_sI, if_pos ⟨rfl, rfl, rfl⟩]⟩, dfr_33 B1.2.2.2.1⟩
    unfold rcS soN
    rw [if_neg ne1, if_neg ne2, if_neg ne3, if_pos rfl]
  exact h_bad k3 (fun _ => And.intro rfl fin) (fun w => absurd w1 w)
/-- what readDitch leaves -/
def dtU (l dd : Nat) (s m : LMem) (v : Int32) : Prop := ((v = -1 ∧ (∃ q, dtS (bS s) l 20 (sk (bS s) l 0) = (true, q)) ∧ gI m 44 0 dd = nI (dtN (bS s) l 20 (sk (bS s) l 0)) ∧ ∀ r w, r < dtN (bS s) l 20 (sk (bS s) l 0) → w < 5 → gI m 45 0 (100 * dd + 5 * r + w) = (rcS (bS s) l (dtP (bS s) l r)).2 w) ∨ (∃ w, w ≤ 1000 ∧ v = nI w ∧ dtS (bS s) l 20 (sk (bS s) l 0) = (false, w))) ∧ dfr dd s m
abbrev dV (b : Nat → Int32) (l : Nat) : Nat → Nat → Int32 := fun r => (rcS b l (dtP b l r)).2
theorem du_68 {k q : Nat} {m : LMem} (hd5 : dd < 5) (hl2 : l ≤ 200) (hk : k < 20) (hO : (q ≤ l ∧ sk (bS s) l q = q ∧ gI m 33 0 4 = -1 ∧ gI m 33 0 3 = nI q ∧ du_B l dd s m (k + 1) (dV (bS s) l) ∧ dtN (bS s) l 20 (sk (bS s) l 0) = k + 1 ∧ dtS (bS s) l 20 (sk (bS s) l 0) = (if tc (bS s) l q = -1 ∧ 19 - k < 19 then (true, q) else (false, q))) ∨ (∃ w, w ≤ 1000 ∧ gI m 33 0 4 = nI w ∧ dtS (bS s) l 20 (sk (bS s) l 0) = (false, w))) (F : dfr dd s m) (h : ∀ m v, dtU l dd s m v → Q (some (lI v)) m) : qW false (d + 4) 233 bc bs 68 [some (lR 33 (some 0)), some (lI (nI dd))] [] m Q := by
  have v5 : qa_vin (nI dd) 5 := nI_in (by omega) (by decide)
  have er : (nI dd).toNatClampNeg = dd := nI_clamp (by omega)
  refine qa_t1_W (cut := []) 60 ?_
  rcases hO with ⟨hq, sq9, w, h3, B, eN, eS⟩ | ⟨w, w1, w2, w3⟩
  · refine And.intro (fun _ => ?_) (fun c => absurd w c)
    have hb := B.1
    refine h_lookF B.2.1 hl2 h3 (by omega) fun m1 hr k4 k5 k3 => Exists.intro _ (And.intro rfl ?_)
    rw [hb, sq9] at k3 ⊢
    have B1 := du_rd B hr
    have w1 : gI m1 33 0 4 = -1 := by rw [k4, w]
    have bad : ¬ (tc (bS s) l q = -1 ∧ 19 - k < 19) → Q (some (lI (gI (sI m1 33 0 4 (nI q)) 33 0 4))) (sI m1 33 0 4 (nI q)) := fun hn => by
      rw [if_neg hn] at eS
      exact h _ _ ⟨Or.inr ⟨q, by omega, by rw [gI_sI, if_pos ⟨rfl, rfl, rfl⟩], eS⟩, dfr_33 B1.2.2.2.1⟩
    refine And.intro (fun e => ?_) (fun ne => ?_)
    · have e : tc (bS s) l q = -1 := e
      refine And.intro v5 ?_
      have e44 : gI m1 44 0 (nI dd).toNatClampNeg = nI (k + 1) := by rw [er, B1.2.2.1]
      refine And.intro (fun c => ?_) (fun c => ?_)
      · have c : gI m1 44 0 (nI dd).toNatClampNeg < 2 := c
        rw [e44] at c
        have c := Int32.lt_iff_toInt_lt.mp c
        rw [nI_toInt (by omega), show (2 : Int32).toInt = 2 by decide] at c
        exact h_bad k3 (fun _ => And.intro rfl (bad (fun q => by have := q.2; omega))) (fun w => absurd w1 w)
      · have c : ¬ gI m1 44 0 (nI dd).toNatClampNeg < 2 := c
        rw [e44] at c
        have hk1 : 1 ≤ k := by
          rcases Nat.eq_zero_or_pos k with z | z
          · subst z
            exact absurd (nI_lt (a := 1) (b := 2) (by decide) (by decide)) c
          · exact z
        rw [if_pos ⟨e, by omega⟩] at eS
        exact h m1 _ ⟨Or.inl ⟨w1, ⟨q, eS⟩, by rw [eN]; exact B1.2.2.1, fun r w hr hw => B1.2.2.2.2 r w (by omega) hw⟩, B1.2.2.2.1⟩
    · have ne : ¬ tc (bS s) l q = -1 := ne
      exact h_bad k3 (fun _ => And.intro rfl (bad (fun q => ne q.1))) (fun w => absurd w1 w)
  · refine And.intro (fun c => absurd (w2.symm.trans c) (nI_ne1 (by omega))) (fun _ => h m _ ⟨Or.inr ⟨w, w1, w2, w3⟩, F⟩)
theorem du_22 (hd5 : dd < 5) (hl2 : l ≤ 200) (h : ∀ m v, dtU l dd s m v → Q (some (lI v)) m) : ∀ f k m, k + f = 19 → dtS (bS s) l 20 (sk (bS s) l 0) = dtS (bS s) l (f + 1) (dtP (bS s) l k) → dtN (bS s) l 20 (sk (bS s) l 0) = k + dtN (bS s) l (f + 1) (dtP (bS s) l k) → duO l dd k (rcS (bS s) l (dtP (bS s) l k)) (dV (bS s) l) s m → qW false (d + 4) 233 bc bs 22 [some (lR 33 (some 0)), some (lI (nI dd))] [] m Q := by
  intro f
  induction f with
  | zero =>
    intro k m hk eS eN O
    have hk : k = 19 := hk
    subst hk
    have v5 : qa_vin (nI dd) 5 := nI_in (by omega) (by decide)
    have er : (nI dd).toNatClampNeg = dd := nI_clamp (by omega)
    have eS : dtS (bS s) l 20 (sk (bS s) l 0) = sq (rcS (bS s) l (dtP (bS s) l 19)).1 (fun q => if tc (bS s) l q = 44 ∧ 0 < 0 then dtS (bS s) l 0 (sk (bS s) l (q + 1)) else if tc (bS s) l q = -1 ∧ 0 < 19 then (true, q) else (false, q)) := eS
    have eN : dtN (bS s) l 20 (sk (bS s) l 0) = 19 + (if tc (bS s) l (rcS (bS s) l (dtP (bS s) l 19)).1.2 = 44 ∧ 0 < 0 then dtN (bS s) l 0 (sk (bS s) l ((rcS (bS s) l (dtP (bS s) l 19)).1.2 + 1)) + 1 else 1) := eN
    refine qa_t1_W (cut := [22, 68]) 60 ?_
    rcases O with ⟨⟨q, o1, o2, o3, o4, o5, B⟩ | ⟨w, o1, o2, o3⟩, F⟩
    · rw [o1, sq_t, if_neg (fun q => absurd q.2 (by decide))] at eS
      rw [if_neg (fun q => absurd q.2 (by decide))] at eN
      have B' : du_B l dd s m 20 (dV (bS s) l) := ⟨B.1, B.2.1, B.2.2.1, B.2.2.2.1, fun r w hr hw => by
        have := B.2.2.2.2 r w hr hw
        dsimp only at this
        by_cases e : r = 19
        · rw [if_pos e] at this
          rw [this, e]
        · rw [if_neg e] at this
          exact this⟩
      refine And.intro (fun _ => ?_) (fun c => absurd o4 c)
      refine h_lookF B'.2.1 hl2 o5 (by omega) fun m1 hr k4 k5 k3 => Exists.intro _ (And.intro rfl ?_)
      rw [B'.1, o2] at k3 ⊢
      have B1 := du_rd B' hr
      have end_ : qW false (d + 4) 233 bc bs 68 [some (lR 33 (some 0)), some (lI (nI dd))] [] m1 Q := du_68 (k := 19) (q := q) hd5 hl2 (by decide) (Or.inl ⟨o3, o2, by rw [k4, o4], k3, B1, eN, eS⟩) B1.2.2.2.1 h
      refine And.intro (fun e => ?_) (fun _ => end_)
      refine And.intro v5 ?_
      have e44 : gI m1 44 0 (nI dd).toNatClampNeg = nI 20 := by rw [er, B1.2.2.1]
      refine And.intro (fun c => ?_) (fun _ => end_)
      have c : gI m1 44 0 (nI dd).toNatClampNeg < 20 := c
      rw [e44] at c
      exact absurd c (by decide)
    · rw [o1, sq_f] at eS
      refine And.intro (fun c => absurd (o3.symm.trans c) (nI_ne1 (by omega))) (fun _ => ?_)
      exact du_68 (k := 19) (q := 0) hd5 hl2 (by decide) (Or.inr ⟨w, o2, o3, eS⟩) F h
  | succ f ih =>
    intro k m hk eS eN O
    have v5 : qa_vin (nI dd) 5 := nI_in (by omega) (by decide)
    have er : (nI dd).toNatClampNeg = dd := nI_clamp (by omega)
    have eS : dtS (bS s) l 20 (sk (bS s) l 0) = sq (rcS (bS s) l (dtP (bS s) l k)).1 (fun q => if tc (bS s) l q = 44 ∧ 0 < f + 1 then dtS (bS s) l (f + 1) (sk (bS s) l (q + 1)) else if tc (bS s) l q = -1 ∧ f + 1 < 19 then (true, q) else (false, q)) := eS
    have eN : dtN (bS s) l 20 (sk (bS s) l 0) = k + (if tc (bS s) l (rcS (bS s) l (dtP (bS s) l k)).1.2 = 44 ∧ 0 < f + 1 then dtN (bS s) l (f + 1) (sk (bS s) l ((rcS (bS s) l (dtP (bS s) l k)).1.2 + 1)) + 1 else 1) := eN
    refine qa_t1_W (cut := [22, 68]) 80 ?_
    rcases O with ⟨⟨q, o1, o2, o3, o4, o5, B⟩ | ⟨w, o1, o2, o3⟩, F⟩
    · have o12 : (rcS (bS s) l (dtP (bS s) l k)).1.2 = q := by rw [o1]
      rw [o1, sq_t] at eS
      rw [o12] at eN
      have B' : du_B l dd s m (k + 1) (dV (bS s) l) := ⟨B.1, B.2.1, B.2.2.1, B.2.2.2.1, fun r w hr hw => by
        have := B.2.2.2.2 r w hr hw
        dsimp only at this
        by_cases e : r = k
        · rw [if_pos e] at this
          rw [this, e]
        · rw [if_neg e] at this
          exact this⟩
      refine And.intro (fun _ => ?_) (fun c => absurd o4 c)
      refine h_lookF B'.2.1 hl2 o5 (by omega) fun m1 hr k4 k5 k3 => Exists.intro _ (And.intro rfl ?_)
      rw [B'.1, o2] at k3 ⊢
      have B1 := du_rd B' hr
      have w1 : gI m1 33 0 4 = -1 := by rw [k4, o4]
      refine And.intro (fun e => ?_) (fun ne => ?_)
      · have e : tc (bS s) l q = 44 := e
        have hql := tc_lt (by decide) e
        rw [if_pos ⟨e, by omega⟩] at eS eN
        refine And.intro v5 ?_
        have e44 : gI m1 44 0 (nI dd).toNatClampNeg = nI (k + 1) := by rw [er, B1.2.2.1]
        have lt20 : gI m1 44 0 (nI dd).toNatClampNeg < 20 := by rw [e44]; exact nI_lt (b := 20) (by omega) (by decide)
        refine And.intro (fun _ => ?_) (fun c => absurd lt20 c)
        have hm4 := rd_s (s := m1) (v := gI m1 33 0 3 + 1) (Or.inl rfl : (3 : Nat) = 3 ∨ (3 : Nat) = 4 ∨ (3 : Nat) = 5) rd_0
        have a4 : gI (sI m1 33 0 3 (gI m1 33 0 3 + 1)) 33 0 4 = -1 := by rw [gI_sI, if_neg (fun q => absurd q.2.2 (by decide)), w1]
        have a3 : gI (sI m1 33 0 3 (gI m1 33 0 3 + 1)) 33 0 3 = nI (q + 1) := by rw [gI_sI, if_pos ⟨rfl, rfl, rfl⟩, k3, nI_1]
        have eP : sk (bS s) l (q + 1) = dtP (bS s) l (k + 1) := by
          show _ = sk (bS s) l ((rcS (bS s) l (dtP (bS s) l k)).1.2 + 1)
          rw [o12]
        rw [eP] at eS eN
        refine h_reachOfU (n := k + 1) hd5 (by omega) hl2 (du_rd B1 hm4) a4 a3 (by omega) fun m5 O5 => And.intro rfl ?_
        rw [eP] at O5
        exact ih (k + 1) m5 (by omega) eS (by omega) O5
      · have ne : ¬ tc (bS s) l q = 44 := ne
        rw [if_neg (fun q => ne q.1)] at eS eN
        exact du_68 (k := k) (q := q) hd5 hl2 (by omega) (Or.inl ⟨o3, o2, w1, k3, B1, eN, by rw [eS, show 19 - k = f + 1 by omega]⟩) B1.2.2.2.1 h
    · rw [o1, sq_f] at eS
      refine And.intro (fun c => absurd (o3.symm.trans c) (nI_ne1 (by omega))) (fun _ => ?_)
      exact du_68 (k := k) (q := 0) hd5 hl2 (by omega) (Or.inr ⟨w, o2, o3, eS⟩) F h
theorem h_readDitchU (hd5 : dd < 5) (hl : gI s 33 0 2 = nI l) (hl2 : l ≤ 200) : qC false (d + 5) 233 [lR 33 (some 0), lI (nI dd)] s (fun a m => ∃ v, a = some (lI v) ∧ dtU l dd s m v) := by
  have v5 : qa_vin (nI dd) 5 := nI_in (by omega) (by decide)
  have er : (nI dd).toNatClampNeg = dd := nI_clamp (by omega)
  have hm : rd_S s (sI (sI s 33 0 3 0) 33 0 4 (-1)) := rd_s (Or.inr (Or.inl rfl)) (rd_s (Or.inl rfl) rd_0)
  have B : du_B l dd s (sI (sI (sI s 33 0 3 0) 33 0 4 (-1)) 44 0 dd 0) 0 (dV (bS s) l) := by
    refine ⟨?_, by rw [gI_sI, if_neg (fun q => absurd q.1 (by decide)), hm.1 33 0 2 (fun q => by omega), hl], by rw [gI_sI, if_pos ⟨rfl, rfl, rfl⟩]; rfl, dfr_44 (dfr_33 (dfr_33 (fun _ _ _ _ _ => rfl))), fun r w hr => absurd hr (Nat.not_lt_zero _)⟩
    rw [← bS_rd hm]
    exact funext fun j => by
      show gI (sI (sI (sI s 33 0 3 0) 33 0 4 (-1)) 44 0 dd 0) 34 0 j = gI (sI (sI s 33 0 3 0) 33 0 4 (-1)) 34 0 j
      rw [gI_sI, if_neg (fun q => absurd q.1 (by decide))]
  have st : qC false (d + 4) 232 [lR 33 (some 0), lI (nI dd)] (sI (sI (sI s 33 0 3 0) 33 0 4 (-1)) 44 0 dd 0) (fun r m' => r = none ∧ qW false (d + 4) 233 0 0 22 [some (lR 33 (some 0)), some (lI (nI dd))] [] m' (fun a m => ∃ v, a = some (lI v) ∧ dtU l dd s m v)) := by
    refine h_reachOfU (n := 0) (p := 0) hd5 (by decide) hl2 B (by rw [gI_sI, if_neg (fun q => absurd q.1 (by decide)), gI_sI, if_pos ⟨rfl, rfl, rfl⟩]) (by rw [gI_sI, if_neg (fun q => absurd q.1 (by decide)), gI_sI, if_neg (fun q => absurd q.2.2 (by decide)), gI_sI, if_pos ⟨rfl, rfl, rfl⟩]; rfl) (Nat.zero_le _) fun m5 O5 => And.intro rfl ?_
    exact du_22 hd5 hl2 (fun m v o => ⟨v, rfl, o⟩) 19 0 m5 rfl rfl (by rw [Nat.zero_add]; rfl) O5
  have st2 : qC false (d + 4) 232 [lR 33 (some 0), lI (nI dd)] (sI (sI (sI s 33 0 3 0) 33 0 4 (-1)) 44 0 (nI dd).toNatClampNeg 0) (fun r m' => r = none ∧ qW false (d + 4) 233 0 0 22 [some (lR 33 (some 0)), some (lI (nI dd))] [] m' (fun a m => ∃ v, a = some (lI v) ∧ dtU l dd s m v)) := by
    rw [er]
    exact st
  refine qC_of rfl rfl ?_
  refine qa_t1_W (cut := [22]) 40 ?_
  exact And.intro v5 st2
end DH
/-! DITCHES of the class, by what it answers and keeps. -/
/-- only the tape's own cells and the row i are written -/
def nx6 (i : Nat) (m m' : LMem) : Prop := ∀ k i' j, k ≠ 1 → ¬ (k = 6 ∧ i' = i) → gI m' k i' j = gI m k i' j
theorem nx6_n {i : Nat} {m m' : LMem} (h : nxf m m') : nx6 i m m' := fun k i' j hk _ => h k i' j hk
theorem nx6_tr {i : Nat} {m m' m2 : LMem} (h : nx6 i m m') (h2 : nx6 i m' m2) : nx6 i m m2 := fun k i' j hk h3 => (h2 k i' j hk h3).trans (h k i' j hk h3)
def dc_R (i : Nat) (m : LMem) (U : Nat → Int32) : Prop := ∀ w, w < 5 → gI m 6 i w = U w
theorem dcR_n {i : Nat} {m m' : LMem} {U : Nat → Int32} (h : dc_R i m U) (f : nxf m m') : dc_R i m' U := fun w hw => (f 6 i w (by decide)).trans (h w hw)
theorem dc_st {i w l p : Nat} {x : Int32} {s m : LMem} (S : tk_S l s m p) (h3 : w = 3 → 0 ≤ x.toInt ∧ x.toInt ≤ 5) : tk_S l s (sI m 6 i w x) p ∧ nx6 i m (sI m 6 i w x) ∧ (∀ U, dc_R i m U → dc_R i (sI m 6 i w x) (upV U w x)) := by
  obtain ⟨J, el, eb, ep, hpl⟩ := S
  refine ⟨⟨y_J_w J (fun r hr g1 g2 => ?_) (x_npr rfl), by rw [gI_sI, if_neg (fun q => absurd q.1 (by decide)), el], ?_, by rw [gI_sI, if_neg (fun q => absurd q.1 (by decide)), ep], hpl⟩, fun k i' j hk h => ?_, fun U hU w' hw => ?_⟩
  · have hr : r ∈ [((3 : Int), (3 : Int), (0 : Int), (5 : Int))] := hr
    rw [List.mem_singleton.mp hr] at g1 g2 ⊢
    have g1 : (3 : Int) ≤ (w : Int) := g1
    have g2 : (w : Int) ≤ 3 := g2
    exact h3 (by omega)
  · rw [← eb]
    exact funext fun j => by
      show gI (sI m 6 i w x) 2 0 j = gI m 2 0 j
      rw [gI_sI, if_neg (fun q => absurd q.1 (by decide))]
  · rw [gI_sI, if_neg (fun q => h ⟨q.1, q.2.1⟩)]
  · rw [gI_sI]
    unfold upV
    by_cases e : w' = w
    · rw [if_pos e, if_pos ⟨rfl, rfl, e⟩]
    · rw [if_neg e, if_neg (fun q => e q.2.2), hU w' hw]
theorem st_62 {w : Nat} (hw : w < 5) : qa_stc 62 w = loW w := by
  rcases w with _ | _ | _ | _ | _ | w <;> first | rfl | omega
theorem st_63 {w : Nat} (h1 : 1 ≤ w) (hw : w < 5) : qa_stc 63 w = hiW w := by
  rcases w with _ | _ | _ | _ | _ | w <;> first | rfl | omega
theorem ix_1 {c : Int32} : qa_ix 1 c + 1 = if itN c = 0 then 0 else nI (itN c) := by
  unfold itN
  by_cases e1 : c = 98
  · subst e1; decide
  by_cases e2 : c = 119
  · subst e2; decide
  by_cases e3 : c = 111
  · subst e3; decide
  by_cases e4 : c = 102
  · subst e4; decide
  rw [if_neg e1, if_neg e2, if_neg e3, if_neg e4, if_pos rfl]
  have h1 : qa_ix 1 c = -1 := by
    show (if (98 : Int32) = c then (0 : Int32) else if (119 : Int32) = c then 0 + 1 else if (111 : Int32) = c then 0 + 1 + 1 else if (102 : Int32) = c then 0 + 1 + 1 + 1 else -1) = -1
    rw [if_neg (fun q => e1 q.symm), if_neg (fun q => e2 q.symm), if_neg (fun q => e3 q.symm), if_neg (fun q => e4 q.symm)]
  rw [h1]
  decide
theorem ix_0 {c : Int32} : qa_ix 0 c = if soN c = 3 then -1 else nI (soN c) := by
  unfold soN
  by_cases e1 : c = 99
  · subst e1; decide
  by_cases e2 : c = 115
  · subst e2; decide
  by_cases e3 : c = 116
  · subst e3; decide
  rw [if_neg e1, if_neg e2, if_neg e3, if_pos rfl]
  show (if (99 : Int32) = c then (0 : Int32) else if (115 : Int32) = c then 0 + 1 else if (116 : Int32) = c then 0 + 1 + 1 else -1) = -1
  rw [if_neg (fun q => e1 q.symm), if_neg (fun q => e2 q.symm), if_neg (fun q => e3 q.symm)]
theorem itN_t0 {b : Nat → Int32} {l p : Nat} : itN (t0 b l p) = itN (tc b l p) := by
  unfold t0 tc
  by_cases e : p < l
  · rw [if_pos e, if_pos e]
  · rw [if_neg e, if_neg e]
    decide
theorem soN_t0 {b : Nat → Int32} {l p : Nat} : soN (t0 b l p) = soN (tc b l p) := by
  unfold t0 tc
  by_cases e : p < l
  · rw [if_pos e, if_pos e]
  · rw [if_neg e, if_neg e]
    decide
section DC
variable {d bc bs l i : Nat} {s : LMem} {Q R : LPost}
theorem h_ix {t : Nat} {c : Int32} {m : LMem} (h0 : 0 ≤ c.toInt) (h1 : c.toInt ≤ 255) (h : Q (some (lI (qa_ix t c))) m) : qC false (d + 3) 1005 [lR 64 (some t), lI ((c.toUInt32 % 65536).toInt32)] m Q := by
  rw [i2c_id h0 h1]
  exact ⟨0, And.intro ⟨Int32.le_iff_toInt_le.mpr (show (0 : Int32).toInt ≤ _ by rw [i32_0']; exact h0), Int32.lt_iff_toInt_lt.mpr (show _ < (256 : Int32).toInt by rw [show (256 : Int32).toInt = 256 by decide]; omega)⟩ h⟩
theorem h_ix2 {t : Nat} {c : Int32} {m : LMem} (h0 : 0 ≤ c.toInt) (h1 : c.toInt ≤ 255) (h : ∀ v, v = qa_ix t c → Q (some (lI v)) m) : qC false (d + 3) 1005 [lR 64 (some t), lI ((c.toUInt32 % 65536).toInt32)] m Q := h_ix h0 h1 (h _ rfl)
theorem h_len {m : LMem} (h : Q (some (lI 4)) m) : qC false (d + 3) 1006 [lR 64 (some 1)] m Q := ⟨0, h⟩
theorem x_step {p : Nat} {m : LMem} (hl2 : l ≤ 200) (S : tk_S l s m p) (hp : p < l) (h : ∀ m', nxf m m' → tk_S l s m' (p + 1) → Q none m') : qC false (d + 1) 115 [lR 1 (some 0)] m Q := by
  have st : Q none (sI m 1 0 2 (gI m 1 0 2 + 1)) := by
    rw [S.2.2.2.1, nI_1]
    exact h _ (nxf_s nxf_0) (tk_pl S hl2 (by omega))
  refine qC_of rfl rfl ?_
  refine qa_t1_W (cut := []) 20 ?_
  exact st
theorem x_stepBack {p : Nat} {m : LMem} (hl2 : l ≤ 200) (S : tk_S l s m p) (hp : 1 ≤ p) (h : ∀ m', nxf m m' → tk_S l s m' (p - 1) → Q none m') : qC false (d + 1) 116 [lR 1 (some 0)] m Q := by
  have st : Q none (sI m 1 0 2 (gI m 1 0 2 - 1)) := by
    have e : nI p - 1 = nI (p - 1) := by
      rw [show p = (p - 1) + 1 by omega, ← nI_m1, nI_mm, Nat.add_sub_cancel]
    rw [S.2.2.2.1, e]
    exact h _ (nxf_s nxf_0) (tk_pl S hl2 (by have := S.2.2.2.2; omega))
  refine qC_of rfl rfl ?_
  refine qa_t1_W (cut := []) 20 ?_
  exact st
theorem c_item {w p : Nat} {m : LMem} (hw1 : 1 ≤ w) (hw : w < 5) (hl2 : l ≤ 200) (S : tk_S l s m p) (h1 : ∀ m' q, nx6 i m m' → (∀ U, dc_R i m U → dc_R i m' (upV U w (nvF (bC s) l 2 (sk (bC s) l p) 0))) → tk_S l s m' q → numR (bC s) l (loW w) (hiW w) (sk (bC s) l p) = (true, sk (bC s) l q) → R (some (lI 1)) m') (h0 : ∀ m' z, nx6 i m m' → tk_S l s m' z → numR (bC s) l (loW w) (hiW w) (sk (bC s) l p) = (false, z) → R (some (lI 0)) m') : qC false (d + 41) 6 [lR 1 (some 0), lR 6 (some i), lI (nI w)] m R := by
  have ew : (nI w).toNatClampNeg = w := nI_clamp (by omega)
  have v5 : qa_vin (nI w) 5 := nI_in (by omega) (by decide)
  have a0 : ¬ nI w < 0 := fun q => by
    have q := Int32.lt_iff_toInt_lt.mp q
    rw [nI_toInt (by omega), i32_0'] at q
    omega
  have a5 : nI w < 5 := nI_lt (b := 5) (by omega) (by decide)
  have a5' : ¬ (5 : Int32) ≤ nI w := fun q => by
    have q := Int32.le_iff_toInt_le.mp q
    have a := Int32.lt_iff_toInt_lt.mp a5
    omega
  refine qC_of rfl rfl ?_
  refine qa_t1_W (cut := []) 80 ?_
  refine x_num hl2 S (fun m1 z fr S1 hn => Exists.intro _ (And.intro rfl ?_)) (fun m1 fr S1 hdr hn hne => Exists.intro _ (And.intro rfl ?_))
  · exact And.intro (fun _ => And.intro (Or.inl rfl) (h0 m1 z (nx6_n fr) S1 (hn _ _))) (fun q => absurd rfl q)
  · have hn := hn (loW w) (hiW w)
    refine And.intro (fun q => absurd q hne) (fun _ => ?_)
    refine And.intro (fun q => absurd q a0) (fun _ => ?_)
    refine And.intro (fun _ => ?_) (fun q => absurd a5 q)
    refine And.intro (fun _ => ?_) (fun q => absurd a5 q)
    refine And.intro (fun _ => ?_) (fun q => absurd a5 q)
    refine And.intro v5 ?_
    refine And.intro (fun c => ?_) (fun c => ?_)
    · have c : nvF (bC s) l 2 (sk (bC s) l p) 0 < qa_stc 62 (nI w).toNatClampNeg := c
      rw [ew, st_62 hw] at c
      have c := Int32.lt_iff_toInt_lt.mp c
      rw [if_neg (fun q => by have := q.1; omega)] at hn
      refine x_stepBack hl2 S1 (by omega) fun m2 f2 S2 => And.intro rfl (And.intro (Or.inl rfl) (h0 m2 _ (nx6_n (nxf_tr fr f2)) S2 hn))
    · have c : ¬ nvF (bC s) l 2 (sk (bC s) l p) 0 < qa_stc 62 (nI w).toNatClampNeg := c
      rw [ew, st_62 hw] at c
      have c : ¬ (nvF (bC s) l 2 (sk (bC s) l p) 0).toInt < (loW w).toInt := fun q => c (Int32.lt_iff_toInt_lt.mpr q)
      refine And.intro v5 ?_
      refine And.intro (fun c2 => ?_) (fun c2 => ?_)
      · have c2 : qa_stc 63 (nI w).toNatClampNeg < nvF (bC s) l 2 (sk (bC s) l p) 0 := c2
        rw [ew, st_63 hw1 hw] at c2
        have c2 := Int32.lt_iff_toInt_lt.mp c2
        rw [if_neg (fun q => by have := q.2; omega)] at hn
        refine x_stepBack hl2 S1 (by omega) fun m2 f2 S2 => And.intro rfl (And.intro (Or.inl rfl) (h0 m2 _ (nx6_n (nxf_tr fr f2)) S2 hn))
      · have c2 : ¬ qa_stc 63 (nI w).toNatClampNeg < nvF (bC s) l 2 (sk (bC s) l p) 0 := c2
        rw [ew, st_63 hw1 hw] at c2
        have c2 : ¬ (hiW w).toInt < (nvF (bC s) l 2 (sk (bC s) l p) 0).toInt := fun q => c2 (Int32.lt_iff_toInt_lt.mpr q)
        rw [if_pos ⟨by omega, by omega⟩] at hn
        obtain ⟨S2, f2, u2⟩ := dc_st (i := i) (w := w) (x := nvF (bC s) l 2 (sk (bC s) l p) 0) S1 (fun e => by
          subst e
          have t0 : (loW 3).toInt = 0 := by decide
          have t5 : (hiW 3).toInt = 5 := by decide
          rw [t0] at c
          rw [t5] at c2
          omega)
        have st : R (some (lI 1)) (sI m1 6 i (nI w).toNatClampNeg (nvF (bC s) l 2 (sk (bC s) l p) 0)) := by
          rw [ew]
          exact h1 _ _ (nx6_tr (nx6_n fr) f2) (fun U hU => u2 U (dcR_n hU fr)) S2 hn
        exact And.intro v5 (And.intro (Or.inr rfl) st)
/-- what readItems and readReach leave: x = what the spec says -/
def dc_O (l i : Nat) (x : (Bool × Nat) × (Nat → Int32)) (s m : LMem) (v : Int32) : Prop := (v = 1 ∧ ∃ q, tk_S l s m q ∧ x.1 = (true, sk (bC s) l q) ∧ dc_R i m x.2) ∨ (v = 0 ∧ ∃ z, tk_S l s m z ∧ (x.1 = (false, z) ∨ (x.1 = (true, z) ∧ itN (tc (bC s) l z) ≠ 0)))
theorem dc_l {x : (Bool × Nat) × (Nat → Int32)} {s0 : LMem} (hB : tp_B (bC s) l) (hl2 : l ≤ 200) (h : ∀ m v, nx6 i s0 m → dc_O l i x s m v → R (some (lI v)) m) : ∀ f hh p m U o4, f + cnt hh = 4 → hh < 32 → nx6 i s0 m → tk_S l s m p → dc_R i m U → x = itS (bC s) l (f + 1) hh (sk (bC s) l p) U → qW false (d + 41) 5 bc bs 4 [some (lR 1 (some 0)), some (lR 6 (some i)), some (lI (nI hh)), some (lI (nI (4 - f))), o4] [] m R := by
  intro f
  induction f with
  | zero =>
    intro hh p m U o4 hf hh2 F S hU ex
    have b4 := bt_3 (w := itN (tc (bC s) l (sk (bC s) l p))) hh2 itN_lt
    have e : x = ((true, sk (bC s) l p), U) := by
      by_cases e0 : itN (tc (bC s) l (sk (bC s) l p)) = 0
      · rw [ex, its_0 e0]
      · rw [ex, its_h e0 (b4.2.2.2 (by omega) (by omega))]
    refine qa_t1_W (cut := [4]) 30 ?_
    refine h_len (Exists.intro _ (And.intro rfl ?_))
    exact And.intro (fun q => absurd q (by decide)) (fun _ => And.intro (Or.inr rfl) (h m 1 F (Or.inl ⟨rfl, p, S, by rw [e], by rw [e]; exact hU⟩)))
  | succ f ih =>
    intro hh p m U o4 hf hh2 F S hU ex
    have k4 : nI (4 - (f + 1)) < 4 := nI_lt (b := 4) (by omega) (by decide)
    have itw : itN (tc (bC s) l (sk (bC s) l p)) < 5 := itN_lt
    have sk3 : sk (bC s) l (sk (bC s) l p) = sk (bC s) l p := sk_sk p
    refine qa_t1_W (cut := [4, 27]) 120 ?_
    refine h_len (Exists.intro _ (And.intro rfl ?_))
    refine And.intro (fun _ => ?_) (fun q => absurd k4 q)
    refine x_next hl2 S fun m1 f1 S1 => Exists.intro _ (And.intro rfl ?_)
    obtain ⟨r1, r2⟩ := tc_0 (b := bC s) (l := l) (p := sk (bC s) l p) hB
    refine h_ix2 r1 r2 fun v ev => Exists.intro v (And.intro rfl ?_)
    generalize hq : sk (bC s) l p = q at *
    have F1 : nx6 i s0 m1 := nx6_tr F (nx6_n f1)
    have U1 := dcR_n hU f1
    have ev : v = qa_ix 1 (t0 (bC s) l q) := ev
    have iv : v + 1 = if itN (tc (bC s) l q) = 0 then 0 else nI (itN (tc (bC s) l q)) := by rw [ev, ix_1, itN_t0]
    suffices st : ∀ v1 : Int32, v1 = (if itN (tc (bC s) l q) = 0 then 0 else nI (itN (tc (bC s) l q))) → qW false (d + 41) 5 bc bs 27 [some (lR 1 (some 0)), some (lR 6 (some i)), some (lI (nI hh)), some (lI (nI (4 - (f + 1)))), some (lI v1)] [] m1 R from st _ iv
    intro v1 iv
    refine qa_t1_W (cut := [4]) 120 ?_
    refine And.intro (fun c => ?_) (fun c => ?_)
    · have c : v1 < 1 := c
      rw [iv] at c
      have e0 : itN (tc (bC s) l q) = 0 := by
        rcases Nat.eq_zero_or_pos (itN (tc (bC s) l q)) with z | z
        · exact z
        · rw [if_neg (by omega)] at c
          have c := Int32.lt_iff_toInt_lt.mp c
          rw [nI_toInt (by omega), show (1 : Int32).toInt = 1 by decide] at c
          omega
      exact And.intro (Or.inr rfl) (h m1 1 F1 (Or.inl ⟨rfl, q, S1, by rw [ex, its_0 e0, sk3], by rw [ex, its_0 e0]; exact U1⟩))
    · have c : ¬ v1 < 1 := c
      have e0 : itN (tc (bC s) l q) ≠ 0 := fun z => c (by rw [iv, if_pos z]; decide)
      rw [if_neg e0] at iv
      have hql := itN_pl e0
      have b4 := bt_3 hh2 itw
      subst iv
      refine And.intro (fun c1 => ?_) (fun c1 => ?_)
      · have b := (bt_1 hh2 itw).mp c1
        exact And.intro (Or.inl rfl) (h m1 0 F1 (Or.inr ⟨rfl, q, S1, Or.inr ⟨by rw [ex, its_h e0 b], e0⟩⟩))
      · have b : Nat.testBit hh (itN (tc (bC s) l q)) = false := by
          cases hx : Nat.testBit hh (itN (tc (bC s) l q)) with
          | false => rfl
          | true => exact absurd ((bt_1 hh2 itw).mpr hx) c1
        refine x_step hl2 S1 hql fun m2 f2 S2 => And.intro rfl ?_
        refine c_item (by omega) itw hl2 S2 (fun m3 q3 f3 u3 S3 en => Exists.intro _ (And.intro rfl ?_)) (fun m3 z f3 S3 en => Exists.intro _ (And.intro rfl ?_))
        · refine And.intro (fun q => absurd q (by decide)) (fun _ => ?_)
          have e4 : nI (4 - (f + 1)) + 1 = nI (4 - f) := by rw [nI_1, show 4 - (f + 1) + 1 = 4 - f by omega]
          have st : qW false (d + 41) 5 bc bs 4 [some (lR 1 (some 0)), some (lR 6 (some i)), some (lI (nI hh ||| ((1 : Int32) <<< (nI (itN (tc (bC s) l q)) &&& 31)))), some (lI (nI (4 - (f + 1)) + 1)), some (lI (nI (itN (tc (bC s) l q))))] [] m3 R := by
            rw [bt_2 hh2 itw, e4]
            have b5 := b4.2.1 (by omega) b
            refine ih _ q3 m3 _ _ (by omega) b4.1 (nx6_tr (nx6_tr F1 (nx6_n f2)) f3) S3 (u3 _ (dcR_n U1 f2)) ?_
            rw [ex, its_t e0 b en]
          exact st
        · refine And.intro (fun _ => ?_) (fun q => absurd rfl q)
          exact And.intro (Or.inl rfl) (h m3 0 (nx6_tr (nx6_tr F1 (nx6_n f2)) f3) (Or.inr ⟨rfl, z, S3, Or.inl (by rw [ex, its_f e0 b en])⟩))
theorem c_items {x : (Bool × Nat) × (Nat → Int32)} {p : Nat} {m : LMem} {U : Nat → Int32} (hB : tp_B (bC s) l) (hl2 : l ≤ 200) (S : tk_S l s m p) (hU : dc_R i m U) (ex : x = itS (bC s) l 5 0 (sk (bC s) l p) U) (h : ∀ m' v, nx6 i m m' → dc_O l i x s m' v → R (some (lI v)) m') : qC false (d + 42) 5 [lR 1 (some 0), lR 6 (some i)] m R := by
  refine qC_of rfl rfl ?_
  refine qa_t1_W (cut := [4]) 20 ?_
  exact dc_l hB hl2 h 4 0 p m U none rfl (by decide) (fun _ _ _ _ _ => rfl) S hU ex
/-- one of the five that a reach has by itself -/
theorem rr_23 {n so p : Nat} {s0 m : LMem} {U : Nat → Int32} (hn : n < 5) (hso : so < 3) (S : tk_S l s m p) (F : nx6 i s0 m) (hU : ∀ w, w < n → gI m 6 i w = usV so w) (next : ∀ m', tk_S l s m' p → nx6 i s0 m' → (∀ w, w < n + 1 → gI m' 6 i w = usV so w) → qW false (d + 43) 4 bc bs 23 [some (lR 1 (some 0)), some (lR 6 (some i)), some (lI (nI so)), some (lI (nI (n + 1)))] [] m' R) : qW false (d + 43) 4 bc bs 23 [some (lR 1 (some 0)), some (lR 6 (some i)), some (lI (nI so)), some (lI (nI n))] [] m R := by
  have k5 : nI n < 5 := nI_lt (b := 5) (by omega) (by decide)
  have v5 : qa_vin (nI n) 5 := nI_in (by omega) (by decide)
  have en : (nI n).toNatClampNeg = n := nI_clamp (by omega)
  have st : ∀ x, x = usV so n → qW false (d + 43) 4 bc bs 23 [some (lR 1 (some 0)), some (lR 6 (some i)), some (lI (nI so)), some (lI (nI n + 1))] [] (sI m 6 i (nI n).toNatClampNeg x) R := fun x ex => by
    rw [en, nI_1]
    obtain ⟨S2, f2, _⟩ := dc_st (i := i) (w := n) (x := x) S (fun e => by
      subst e
      rw [ex]
      show 0 ≤ (0 : Int32).toInt ∧ (0 : Int32).toInt ≤ 5
      decide)
    refine next _ S2 (nx6_tr F f2) (fun w hw => ?_)
    rw [gI_sI]
    by_cases e : w = n
    · rw [if_pos ⟨rfl, rfl, e⟩, ex, e]
    · rw [if_neg (fun q => e q.2.2), hU w (by omega)]
  refine qa_t1_W (cut := [23]) 60 ?_
  refine And.intro (fun _ => ?_) (fun q => absurd k5 q)
  refine And.intro (fun _ => ?_) (fun q => absurd k5 q)
  refine And.intro (fun c => ?_) (fun c => ?_)
  · have c : nI n = 0 := c
    have c := congrArg Int32.toInt c
    rw [nI_toInt (by omega), i32_0'] at c
    have c : n = 0 := by omega
    subst c
    exact And.intro v5 (st _ rfl)
  · have c : ¬ nI n = 0 := c
    have e : qa_stc 61 (nI n).toNatClampNeg = usV so n := by
      rw [en]
      rcases n with _ | _ | _ | _ | _ | n <;> first | exact absurd rfl c | rfl | omega
    exact And.intro v5 (And.intro v5 (st _ e))
theorem c_reach {x : (Bool × Nat) × (Nat → Int32)} {p : Nat} {m : LMem} (hB : tp_B (bC s) l) (hl2 : l ≤ 200) (S : tk_S l s m p) (ex : x = rcS (bC s) l (sk (bC s) l p)) (h : ∀ m' v, nx6 i m m' → dc_O l i x s m' v → R (some (lI v)) m') : qC false (d + 44) 4 [lR 1 (some 0), lR 6 (some i)] m R := by
  have sk3 : sk (bC s) l (sk (bC s) l p) = sk (bC s) l p := sk_sk p
  refine qC_of rfl rfl ?_
  refine qa_t1_W (cut := [11, 23]) 40 ?_
  refine x_next hl2 S fun m1 f1 S1 => Exists.intro _ (And.intro rfl ?_)
  obtain ⟨r1, r2⟩ := tc_0 (b := bC s) (l := l) (p := sk (bC s) l p) hB
  refine h_ix2 r1 r2 fun v ev => Exists.intro v (And.intro rfl ?_)
  have ev : v = qa_ix 0 (t0 (bC s) l (sk (bC s) l p)) := ev
  rw [ix_0, soN_t0] at ev
  generalize hq : sk (bC s) l p = q at *
  suffices st : ∀ v1 : Int32, v1 = (if soN (tc (bC s) l q) = 3 then -1 else nI (soN (tc (bC s) l q))) → qW false (d + 43) 4 0 0 11 [some (lR 1 (some 0)), some (lR 6 (some i)), some (lI v1), none] [] m1 R from st _ ev
  intro v1 iv
  have so4 : soN (tc (bC s) l q) ≤ 3 := by
    unfold soN
    by_cases e1 : tc (bC s) l q = 99
    · rw [if_pos e1]; decide
    rw [if_neg e1]
    by_cases e2 : tc (bC s) l q = 115
    · rw [if_pos e2]; decide
    rw [if_neg e2]
    by_cases e3 : tc (bC s) l q = 116
    · rw [if_pos e3]; decide
    rw [if_neg e3]
    decide
  refine qa_t1_W (cut := [23]) 40 ?_
  by_cases e : soN (tc (bC s) l q) = 3
  · rw [if_pos e] at iv
    subst iv
    refine And.intro (fun _ => ?_) (fun q => absurd (by decide) q)
    refine And.intro (Or.inl rfl) (h m1 0 (nx6_n f1) (Or.inr ⟨rfl, q, S1, Or.inl ?_⟩))
    rw [ex]
    unfold rcS
    rw [if_pos e]
  · have e3 : tc (bC s) l q ≠ -1 := fun z => e (by rw [z]; decide)
    have hql := tc_lt e3 rfl
    rw [if_neg e] at iv
    subst iv
    refine And.intro (fun c => ?_) (fun _ => ?_)
    · have c := Int32.lt_iff_toInt_lt.mp c
      rw [nI_toInt (by omega), i32_0'] at c
      omega
    refine x_step hl2 S1 hql fun m2 f2 S2 => And.intro rfl ?_
    have so3 : soN (tc (bC s) l q) < 3 := by omega
    have F2 : nx6 i m m2 := nx6_tr (nx6_n f1) (nx6_n f2)
    refine rr_23 (n := 0) (s0 := m) (U := fun _ => 0) (by decide) so3 S2 F2 (fun w hw => absurd hw (Nat.not_lt_zero _)) fun m3 S3 F3 u3 => ?_
    refine rr_23 (n := 1) (s0 := m) (U := fun _ => 0) (by decide) so3 S3 F3 u3 fun m4 S4 F4 u4 => ?_
    refine rr_23 (n := 2) (s0 := m) (U := fun _ => 0) (by decide) so3 S4 F4 u4 fun m5 S5 F5 u5 => ?_
    refine rr_23 (n := 3) (s0 := m) (U := fun _ => 0) (by decide) so3 S5 F5 u5 fun m6 S6 F6 u6 => ?_
    refine rr_23 (n := 4) (s0 := m) (U := fun _ => 0) (by decide) so3 S6 F6 u6 fun m7 S7 F7 u7 => ?_
    refine qa_t1_W (cut := []) 30 ?_
    refine And.intro (fun q => absurd q (by decide)) (fun _ => ?_)
    refine c_items (x := x) hB hl2 S7 u7 ?_ fun m8 v8 f8 O8 => Exists.intro _ (And.intro rfl ?_)
    · rw [ex]
      unfold rcS
      rw [if_neg e]
    · have bo : v8 = 0 ∨ v8 = 1 := by
        rcases O8 with ⟨o, _⟩ | ⟨o, _⟩
        · exact Or.inr o
        · exact Or.inl o
      exact And.intro bo (h m8 v8 (nx6_tr F7 f8) O8)
end DC
/-! Ditch.readFrom of the class. -/
/-- of ditches, that one alone is written -/
def cfr (dd : Nat) (m0 m : LMem) : Prop := ∀ k i j, k ≠ 1 → ¬ (k = 4 ∧ i = dd) → ¬ (k = 6 ∧ 20 * dd ≤ i ∧ i < 20 * dd + 20) → gI m k i j = gI m0 k i j
theorem cfr_n {dd : Nat} {m0 m m' : LMem} (h : cfr dd m0 m) (f : nxf m m') : cfr dd m0 m' := fun k i j a b c => by rw [f k i j a, h k i j a b c]
theorem cfr_6 {dd i : Nat} {m0 m m' : LMem} (h : cfr dd m0 m) (f : nx6 i m m') (h1 : 20 * dd ≤ i) (h2 : i < 20 * dd + 20) : cfr dd m0 m' := fun k i' j a b c => by
  rw [f k i' j a (fun q => c ⟨q.1, by omega, by omega⟩), h k i' j a b c]
theorem cfr_4 {dd : Nat} {x : Int32} {m0 m : LMem} (h : cfr dd m0 m) : cfr dd m0 (sI m 4 dd 1 x) := fun k i j a b c => by
  rw [gI_sI, if_neg (fun q => b ⟨q.1, q.2.1⟩), h k i j a b c]
def dcT (l dd : Nat) (s m0 m : LMem) (k p : Nat) : Prop := tk_S l s m p ∧ gI m 4 dd 1 = nI k ∧ (∀ r w, r < k → w < 5 → gI m 6 (20 * dd + r) w = dV (bC s) l r w) ∧ cfr dd m0 m
/-- what Ditch.readFrom leaves -/
def ddO (l dd : Nat) (s m0 m : LMem) (v : Int32) : Prop := ((v = 1 ∧ (∃ q, dtS (bC s) l 20 (sk (bC s) l 0) = (true, q)) ∧ gI m 4 dd 1 = nI (dtN (bC s) l 20 (sk (bC s) l 0)) ∧ ∀ r w, r < dtN (bC s) l 20 (sk (bC s) l 0) → w < 5 → gI m 6 (20 * dd + r) w = dV (bC s) l r w) ∨ (v = 0 ∧ ∃ w, tk_S l s m w ∧ dtS (bC s) l 20 (sk (bC s) l 0) = (false, w))) ∧ cfr dd m0 m
section DD
variable {d bc bs l dd : Nat} {s m0 : LMem} {R : LPost}
theorem dcT_n {m m' : LMem} {k p p' : Nat} (T : dcT l dd s m0 m k p) (f : nxf m m') (S : tk_S l s m' p') : dcT l dd s m0 m' k p' := ⟨S, by rw [f 4 dd 1 (by decide), T.2.1], fun r w hr hw => by rw [f 6 _ w (by decide), T.2.2.1 r w hr hw], cfr_n T.2.2.2 f⟩
theorem dd_63 {k e : Nat} {m : LMem} (hk : k ≤ 19) (hB : tp_B (bC s) l) (hl2 : l ≤ 200) (T : dcT l dd s m0 m (k + 1) e) (h0 : k = 0 → sk (bC s) l e = e) (eN : dtN (bC s) l 20 (sk (bC s) l 0) = k + 1) (eS : dtS (bC s) l 20 (sk (bC s) l 0) = if tc (bC s) l (sk (bC s) l e) = -1 ∧ 19 - k < 19 then (true, sk (bC s) l e) else (false, sk (bC s) l e)) (h : ∀ m v, ddO l dd s m0 m v → R (some (lI v)) m) : qW false (d + 45) 3 bc bs 63 [some (lR 4 (some dd)), some (lR 1 (some 0))] [] m R := by
  refine qa_t1_W (cut := []) 30 ?_
  refine And.intro (fun c => ?_) (fun c => ?_)
  · have c : gI m 4 dd 1 < 2 := c
    rw [T.2.1] at c
    have c := Int32.lt_iff_toInt_lt.mp c
    rw [nI_toInt (by omega), show (2 : Int32).toInt = 2 by decide] at c
    have k0 : k = 0 := by omega
    have e0 := h0 k0
    rw [if_neg (fun q => by omega), e0] at eS
    exact And.intro (Or.inl rfl) (h m 0 ⟨Or.inr ⟨rfl, e, T.1, eS⟩, T.2.2.2⟩)
  · have c : ¬ gI m 4 dd 1 < 2 := c
    rw [T.2.1] at c
    have k1 : 1 ≤ k := by
      rcases Nat.eq_zero_or_pos k with z | z
      · exact absurd (by rw [z]; decide) c
      · exact z
    refine x_thru hB hl2 T.1 (fun m1 f1 S1 e1 => Exists.intro _ (And.intro rfl ?_)) (fun m1 f1 S1 e1 => Exists.intro _ (And.intro rfl ?_))
    · rw [if_pos ⟨e1, by omega⟩] at eS
      have T1 := dcT_n T f1 S1
      refine And.intro (fun q => absurd q (by decide)) (fun _ => And.intro (Or.inr rfl) (h m1 1 ⟨Or.inl ⟨rfl, ⟨_, eS⟩, by rw [eN, T1.2.1], fun r w hr hw => T1.2.2.1 r w (by omega) hw⟩, T1.2.2.2⟩))
    · rw [if_neg (fun q => e1 q.1)] at eS
      refine And.intro (fun _ => And.intro (Or.inl rfl) (h m1 0 ⟨Or.inr ⟨rfl, _, S1, eS⟩, cfr_n T.2.2.2 f1⟩)) (fun q => absurd rfl q)
theorem dd_st {k p : Nat} {m1 : LMem} (hk : k ≤ 19) (S1 : tk_S l s m1 p) (d1 : gI m1 4 dd 1 = nI k) (hr : ∀ r w, r < k + 1 → w < 5 → gI m1 6 (20 * dd + r) w = dV (bC s) l r w) (F : cfr dd m0 m1) : dcT l dd s m0 (sI m1 4 dd 1 (gI m1 4 dd 1 + 1)) (k + 1) p := by
  rw [d1, nI_1]
  obtain ⟨J1, el1, eb1, ep1, hpl1⟩ := S1
  refine ⟨⟨y_J_w J1 (fun r hr g1 g2 => ?_) (x_npr rfl), by rw [gI_sI, if_neg (fun q => absurd q.1 (by decide)), el1], ?_, by rw [gI_sI, if_neg (fun q => absurd q.1 (by decide)), ep1], hpl1⟩, by rw [gI_sI, if_pos ⟨rfl, rfl, rfl⟩], fun r w hr' hw => by rw [gI_sI, if_neg (fun q => absurd q.1 (by decide)), hr r w hr' hw], cfr_4 F⟩
  · have hr : r ∈ [((1 : Int), (1 : Int), (0 : Int), (20 : Int))] := hr
    rw [List.mem_singleton.mp hr, nI_toInt (by omega)]
    show (0 : Int) ≤ ((k + 1 : Nat) : Int) ∧ ((k + 1 : Nat) : Int) ≤ 20
    omega
  · rw [← eb1]
    exact funext fun j => by
      show gI (sI m1 4 dd 1 (nI (k + 1))) 2 0 j = gI m1 2 0 j
      rw [gI_sI, if_neg (fun q => absurd q.1 (by decide))]
theorem dd_5 {k p : Nat} {m : LMem} (hB : tp_B (bC s) l) (hl2 : l ≤ 200) (hk : k ≤ 19) (T : dcT l dd s m0 m k p) (eP : sk (bC s) l p = dtP (bC s) l k) (eS : dtS (bC s) l 20 (sk (bC s) l 0) = dtS (bC s) l (20 - k) (dtP (bC s) l k)) (eN : dtN (bC s) l 20 (sk (bC s) l 0) = k + dtN (bC s) l (20 - k) (dtP (bC s) l k)) (h : ∀ m v, ddO l dd s m0 m v → R (some (lI v)) m) (next : ∀ m p, k + 1 ≤ 19 → dcT l dd s m0 m (k + 1) p → sk (bC s) l p = dtP (bC s) l (k + 1) → dtS (bC s) l 20 (sk (bC s) l 0) = dtS (bC s) l (19 - k) (dtP (bC s) l (k + 1)) → dtN (bC s) l 20 (sk (bC s) l 0) = k + 1 + dtN (bC s) l (19 - k) (dtP (bC s) l (k + 1)) → qW false (d + 45) 3 bc bs 5 [some (lR 4 (some dd)), some (lR 1 (some 0))] [] m R) : qW false (d + 45) 3 bc bs 5 [some (lR 4 (some dd)), some (lR 1 (some 0))] [] m R := by
  have f1 : 20 - k = (19 - k) + 1 := by omega
  have ek : (nI k).toNatClampNeg = k := nI_clamp (by omega)
  have lt20 : gI m 4 dd 1 < 20 := by rw [T.2.1]; exact nI_lt (b := 20) (by omega) (by decide)
  have v20 : qa_vin (gI m 4 dd 1) 20 := by rw [T.2.1]; exact nI_in (by omega) (by decide)
  have eS2 : dtS (bC s) l 20 (sk (bC s) l 0) = sq (rcS (bC s) l (dtP (bC s) l k)).1 (fun q => if tc (bC s) l q = 44 ∧ 0 < 19 - k then dtS (bC s) l (19 - k) (sk (bC s) l (q + 1)) else if tc (bC s) l q = -1 ∧ 19 - k < 19 then (true, q) else (false, q)) := by
    rw [eS, f1]
    rfl
  have eN2 : dtN (bC s) l 20 (sk (bC s) l 0) = k + (if tc (bC s) l (rcS (bC s) l (dtP (bC s) l k)).1.2 = 44 ∧ 0 < 19 - k then dtN (bC s) l (19 - k) (sk (bC s) l ((rcS (bC s) l (dtP (bC s) l k)).1.2 + 1)) + 1 else 1) := by
    rw [eN, f1]
    rfl
  have main : ∀ i, i = 20 * dd + k → ∀ Q, (∀ m1, (∃ w, tk_S l s m1 w ∧ dtS (bC s) l 20 (sk (bC s) l 0) = (false, w)) → cfr dd m0 m1 → Q (some (lI 0)) m1) → (∀ m1 q, dcT l dd s m0 (sI m1 4 dd 1 (gI m1 4 dd 1 + 1)) (k + 1) q → (rcS (bC s) l (dtP (bC s) l k)).1 = (true, sk (bC s) l q) → Q (some (lI 1)) m1) → qC false (d + 45) 4 [lR 1 (some 0), lR 6 (some i)] m Q := fun i ei Q hQ0 hQ1 => by
    refine c_reach (d := d + 1) (x := rcS (bC s) l (dtP (bC s) l k)) hB hl2 T.1 (by rw [eP]) fun m1 v f O => ?_
    rcases O with ⟨rfl, q, S1, e1, R1⟩ | ⟨rfl, z, S1, e1⟩
    · refine hQ1 m1 q (dd_st hk S1 (by rw [f 4 dd 1 (by decide) (fun q => absurd q.1 (by decide)), T.2.1]) (fun r w hr hw => ?_) (cfr_6 T.2.2.2 f (by omega) (by omega))) e1
      by_cases e : r = k
      · rw [e, ← ei]
        exact R1 w hw
      · rw [f 6 _ w (by decide) (fun q => by have := q.2; omega)]
        exact T.2.2.1 r w (by omega) hw
    · refine hQ0 m1 ⟨z, S1, ?_⟩ (cfr_6 T.2.2.2 f (by omega) (by omega))
      rcases e1 with e1 | ⟨e1, e2⟩
      · rw [eS2, e1, sq_f]
      · rw [eS2, e1, sq_t, if_neg (fun q => e2 (by rw [q.1]; decide)), if_neg (fun q => e2 (by rw [q.1]; decide))]
  refine qa_t1_W (cut := [5, 63]) 100 ?_
  refine And.intro (fun _ => ?_) (fun q => absurd lt20 q)
  refine And.intro v20 ?_
  refine main _ (show 20 * dd + (gI m 4 dd 1).toNatClampNeg = 20 * dd + k by rw [T.2.1, ek]) _ (fun m1 hw F1 => Exists.intro _ (And.intro rfl ?_)) (fun m1 q T1 e1 => Exists.intro _ (And.intro rfl ?_))
  · refine And.intro (fun _ => And.intro (Or.inl rfl) (h m1 0 ⟨Or.inr ⟨rfl, hw⟩, F1⟩)) (fun q => absurd rfl q)
  · refine And.intro (fun q => absurd q (by decide)) (fun _ => ?_)
    generalize hm2 : sI m1 4 dd 1 (gI m1 4 dd 1 + 1) = m2 at T1
    have e12 : (rcS (bC s) l (dtP (bC s) l k)).1.2 = sk (bC s) l q := by rw [e1]
    rw [e1, sq_t] at eS2
    rw [e12] at eN2
    have sk3 : sk (bC s) l (sk (bC s) l q) = sk (bC s) l q := sk_sk q
    have eP2 : sk (bC s) l (sk (bC s) l q + 1) = dtP (bC s) l (k + 1) := by
      show _ = sk (bC s) l ((rcS (bC s) l (dtP (bC s) l k)).1.2 + 1)
      rw [e12]
    rw [eP2] at eS2 eN2
    have main2 : ∀ m2', m2' = m2 → (gI m2' 4 dd 1 < 20 → qC false (d + 45) 118 [lR 1 (some 0), lI 44] m2' (fun a m3 => ∃ v, a = some (lI v) ∧ ((v = 0 → qW false (d + 45) 3 bc bs 63 [some (lR 4 (some dd)), some (lR 1 (some 0))] [] m3 R) ∧ (¬ v = 0 → qW false (d + 45) 3 bc bs 5 [some (lR 4 (some dd)), some (lR 1 (some 0))] [] m3 R)))) ∧ (¬ gI m2' 4 dd 1 < 20 → qW false (d + 45) 3 bc bs 63 [some (lR 4 (some dd)), some (lR 1 (some 0))] [] m2' R) := fun m2' em => by
      subst em
      refine ⟨fun c => ?_, fun c => ?_⟩
      · rw [T1.2.1] at c
        have c := Int32.lt_iff_toInt_lt.mp c
        rw [nI_toInt (by omega), show (20 : Int32).toInt = 20 by decide] at c
        refine x_takes hB hl2 T1.1 (by decide) (by decide) (fun m3 f3 S3 e => ⟨1, rfl, fun q => absurd q (by decide), fun _ => ?_⟩) (fun m3 f3 S3 e => ⟨0, rfl, fun _ => ?_, fun q => absurd rfl q⟩)
        · rw [if_pos ⟨e, by omega⟩] at eS2 eN2
          exact next m3 _ (by omega) (dcT_n T1 f3 S3) eP2 eS2 (by omega)
        · rw [if_neg (fun q => e q.1)] at eS2 eN2
          exact dd_63 hk hB hl2 (dcT_n T1 f3 S3) (fun _ => sk3) eN2 (by rw [sk3]; exact eS2) h
      · rw [T1.2.1] at c
        have nk : ¬ 0 < 19 - k := fun q => c (nI_lt (b := 20) (by omega) (by decide))
        rw [if_neg (fun q => nk q.2)] at eS2 eN2
        exact dd_63 hk hB hl2 T1 (fun q => by omega) eN2 eS2 h
    exact main2 _ hm2
theorem dd_l (hB : tp_B (bC s) l) (hl2 : l ≤ 200) (h : ∀ m v, ddO l dd s m0 m v → R (some (lI v)) m) : ∀ n k m p, k + n = 19 → dcT l dd s m0 m k p → sk (bC s) l p = dtP (bC s) l k → dtS (bC s) l 20 (sk (bC s) l 0) = dtS (bC s) l (20 - k) (dtP (bC s) l k) → dtN (bC s) l 20 (sk (bC s) l 0) = k + dtN (bC s) l (20 - k) (dtP (bC s) l k) → qW false (d + 45) 3 bc bs 5 [some (lR 4 (some dd)), some (lR 1 (some 0))] [] m R := by
  intro n
  induction n with
  | zero =>
    intro k m p hk T eP eS eN
    exact dd_5 hB hl2 (by omega) T eP eS eN h (fun _ _ q => absurd q (by omega))
  | succ n ih =>
    intro k m p hk T eP eS eN
    refine dd_5 hB hl2 (by omega) T eP eS eN h (fun m p _ T eP eS eN => ih (k + 1) m p (by omega) T eP ?_ ?_)
    · rw [eS, show 19 - k = 20 - (k + 1) by omega]
    · rw [eN, show 19 - k = 20 - (k + 1) by omega]
theorem c_ditch {m : LMem} (hB : tp_B (bC s) l) (hl2 : l ≤ 200) (S : tk_S l s m 0) (h : ∀ m' v, ddO l dd s m m' v → R (some (lI v)) m') : qC false (d + 46) 3 [lR 4 (some dd), lR 1 (some 0)] m R := by
  have T : dcT l dd s m (sI m 4 dd 1 0) 0 0 := by
    obtain ⟨J1, el1, eb1, ep1, hpl1⟩ := S
    refine ⟨⟨y_J_w J1 (fun r' hr' g1 g2 => ?_) (x_npr rfl), by rw [gI_sI, if_neg (fun q => absurd q.1 (by decide)), el1], ?_, by rw [gI_sI, if_neg (fun q => absurd q.1 (by decide)), ep1], hpl1⟩, by rw [gI_sI, if_pos ⟨rfl, rfl, rfl⟩]; rfl, fun r w hr => absurd hr (Nat.not_lt_zero _), cfr_4 (fun _ _ _ _ _ _ => rfl)⟩
    · have hr' : r' ∈ [((1 : Int), (1 : Int), (0 : Int), (20 : Int))] := hr'
      rw [List.mem_singleton.mp hr']
      exact ⟨by decide, by decide⟩
    · rw [← eb1]
      exact funext fun j => by
        show gI (sI m 4 dd 1 0) 2 0 j = gI m 2 0 j
        rw [gI_sI, if_neg (fun q => absurd q.1 (by decide))]
  refine qC_of rfl rfl ?_
  refine qa_t1_W (cut := [5]) 20 ?_
  exact dd_l hB hl2 h 19 0 _ 0 rfl T rfl rfl (by rw [Nat.zero_add]; rfl)
end DD
