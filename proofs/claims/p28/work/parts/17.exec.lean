/-! THE CONSTRUCTORS, RUN: a machine that computes, over a log of what is written. -/
abbrev CE : Type := Nat × Nat × Nat × (Int32 ⊕ Option Nat)
abbrev CS : Type := List CE × Nat
def qx_eq (e : CE) (k i j : Nat) : Bool := Nat.beq k e.1 && (Nat.beq i e.2.1 && Nat.beq j e.2.2.1)
def qx_I (B : Nat → Nat → Nat → Int32) : List CE → Nat → Nat → Nat → Int32
  | [], k, i, j => B k i j
  | (k', i', j', Sum.inl v) :: l, k, i, j => cond (qx_eq (k', i', j', Sum.inl v) k i j) v (qx_I B l k i j)
  | (_, _, _, Sum.inr _) :: l, k, i, j => qx_I B l k i j
def qx_R : List CE → Nat → Nat → Nat → Option Nat
  | [], _, _, _ => none
  | (_, _, _, Sum.inl _) :: l, k, i, j => qx_R l k i j
  | (k', i', j', Sum.inr o) :: l, k, i, j => cond (qx_eq (k', i', j', Sum.inr o) k i j) o (qx_R l k i j)
def qx_M (B : Nat → Nat → Nat → Int32) (c : CS) : LMem := (qx_I B c.1, fun _ _ _ => 0, qx_R c.1, c.2)
theorem qx_eq_iff (e : CE) (k i j : Nat) : qx_eq e k i j = true ↔ k = e.1 ∧ i = e.2.1 ∧ j = e.2.2.1 := by
  unfold qx_eq
  simp
theorem qx_if {α : Type} {e : CE} {k i j : Nat} (a b : α) : (if k = e.1 ∧ i = e.2.1 ∧ j = e.2.2.1 then a else b) = cond (qx_eq e k i j) a b := by
  cases h : qx_eq e k i j with
  | true => rw [if_pos ((qx_eq_iff e k i j).mp h)]; rfl
  | false => rw [if_neg (fun q => by rw [(qx_eq_iff e k i j).mpr q] at h; cases h)]; rfl
section QX
variable {B : Nat → Nat → Nat → Int32}
theorem qx_sI (l : List CE) (n k i j : Nat) (v : Int32) : sI (qx_M B (l, n)) k i j v = qx_M B ((k, i, j, .inl v) :: l, n) := by
  unfold sI qx_M
  refine Prod.ext ?_ rfl
  funext k' i' j'
  exact qx_if (e := (k, i, j, .inl v)) v _
theorem qx_sR (l : List CE) (n k i j : Nat) (o : Option Nat) : sR (qx_M B (l, n)) k i j o = qx_M B ((k, i, j, .inr o) :: l, n) := by
  unfold sR qx_M
  refine Prod.ext rfl (Prod.ext rfl (Prod.ext ?_ rfl))
  funext k' i' j'
  exact qx_if (e := (k, i, j, .inr o)) o _
def qx_fresh (k i : Nat) : List CE → Bool
  | [] => true
  | e :: l => cond (Nat.beq k e.1 && Nat.beq i e.2.1) false (qx_fresh k i l)
theorem qx_fresh_ne {k i : Nat} : ∀ {l : List CE} {e : CE}, qx_fresh k i (e :: l) = true → (∀ j, qx_eq e k i j = false) ∧ qx_fresh k i l = true
  | l, e, h => by
    unfold qx_fresh at h
    cases hb : (Nat.beq k e.1 && Nat.beq i e.2.1) with
    | true => rw [hb] at h; cases h
    | false =>
      rw [hb] at h
      refine ⟨fun j => ?_, h⟩
      cases h9 : qx_eq e k i j with
      | false => rfl
      | true =>
        obtain ⟨q1, q2, -⟩ := (qx_eq_iff e k i j).mp h9
        rw [q1, q2] at hb
        simp at hb
theorem qx_I_fresh {k i : Nat} (j : Nat) : ∀ {l : List CE}, qx_fresh k i l = true → qx_I B l k i j = B k i j
  | [], _ => rfl
  | (k', i', j', .inl v) :: l, h => by
    obtain ⟨h1, h2⟩ := qx_fresh_ne h
    unfold qx_I
    rw [h1 j]
    exact qx_I_fresh j h2
  | (k', i', j', .inr o) :: l, h => qx_I_fresh (l := l) j (qx_fresh_ne h).2
theorem qx_R_fresh {k i : Nat} (j : Nat) : ∀ {l : List CE}, qx_fresh k i l = true → qx_R l k i j = none
  | [], _ => rfl
  | (k', i', j', .inl v) :: l, h => qx_R_fresh (l := l) j (qx_fresh_ne h).2
  | (k', i', j', .inr o) :: l, h => by
    obtain ⟨h1, h2⟩ := qx_fresh_ne h
    unfold qx_R
    rw [h1 j]
    exact qx_R_fresh j h2
theorem qx_sN (hB : ∀ k i j, k < 60 → B k i j = 0) {l : List CE} {n k i : Nat} (hk : k < 60) (h : qx_fresh k i l = true) : sN (qx_M B (l, n)) k i = qx_M B (l, n + 1) := by
  unfold sN qx_M
  refine Prod.ext ?_ (Prod.ext ?_ (Prod.ext ?_ rfl))
  · funext k' i' j'
    show (if k' = k ∧ i' = i then 0 else qx_I B l k' i' j') = qx_I B l k' i' j'
    by_cases e : k' = k ∧ i' = i
    · rw [if_pos e, e.1, e.2, qx_I_fresh j' h, hB _ _ _ hk]
    · rw [if_neg e]
  · funext k' i' j'
    show (if k' = k ∧ i' = i then 0 else (0 : Int64)) = 0
    split <;> rfl
  · funext k' i' j'
    show (if k' = k ∧ i' = i then none else qx_R l k' i' j') = qx_R l k' i' j'
    by_cases e : k' = k ∧ i' = i
    · rw [if_pos e, e.1, e.2, qx_R_fresh j' h]
    · rw [if_neg e]
def qx_freshs (l : List CE) (k : Nat) : Nat → Nat → Bool
  | _, 0 => true
  | i, n + 1 => qx_fresh k i l && qx_freshs l k (i + 1) n
theorem qx_sNs (hB : ∀ k i j, k < 60 → B k i j = 0) {l : List CE} {k : Nat} (hk : k < 60) : ∀ (c i n : Nat), qx_freshs l k i c = true → sNs (qx_M B (l, n)) k i c = qx_M B (l, n + c)
  | 0, i, n, _ => rfl
  | c + 1, i, n, h => by
    obtain ⟨h1, h2⟩ := qa_and h
    show sNs (sN (qx_M B (l, n)) k i) k (i + 1) c = _
    rw [qx_sN hB hk h1, qx_sNs hB hk c (i + 1) (n + 1) h2, Nat.add_assoc, Nat.add_comm 1 c]
def qx_Rs (k i0 : Nat) : List CE → Nat → Nat → Nat → List CE
  | l, _, _, 0 => l
  | l, j, i, n + 1 => qx_Rs k i0 ((k, i0, j, .inr (some i)) :: l) (j + 1) (i + 1) n
theorem qx_sRs (k i0 n : Nat) : ∀ (c j i : Nat) (l : List CE), sRs (qx_M B (l, n)) k i0 j i c = qx_M B (qx_Rs k i0 l j i c, n)
  | 0, _, _, _ => rfl
  | c + 1, j, i, l => by
    show sRs (sR (qx_M B (l, n)) k i0 j (some i)) k i0 (j + 1) (i + 1) c = _
    rw [qx_sR, qx_sRs k i0 n c (j + 1) (i + 1) _]
    rfl
end QX
/-- one step: goes on, calls (a void method), or ends -/
abbrev XN : Type := (Nat × Nat × Nat × LLoc × LStk × CS) ⊕ ((Nat × List LV × Nat × Nat × Nat × LLoc × LStk × Nat) ⊕ Unit)
def qx_go (bc bs pc : Nat) (loc : LLoc) (st : LStk) (c : CS) : Option XN := some (.inl (bc, bs, pc, loc, st, c))
def qx_ck (b : Bool) (x : Option XN) : Option XN := cond b x none
def qx_new (k n bc bs pc : Nat) (loc : LLoc) (r : LStk) (c : CS) : Option XN :=
  qx_ck (Nat.blt k 60 && (Nat.beq (qa_nm c.2).1 k && (Nat.ble 1 bc && (Nat.ble n bs && qx_fresh k (qa_nm c.2).2 c.1)))) (qx_go (bc - 1) (bs - n) pc loc (lR k (some (qa_nm c.2).2) :: r) (c.1, c.2 + 1))
def qx_mna (k k2 bc bs pc : Nat) (loc : LLoc) (r : LStk) (c : CS) : Option XN :=
  qx_ck (Nat.blt k 60 && (Nat.blt k2 60 && ((Nat.beq (qa_nm c.2).1 k && qa_row k2 (c.2 + 1) (qa_nm (c.2 + 1)).2 (qa_len k)) && ((Nat.ble (1 + qa_len k) bc && Nat.ble (qa_len k + qa_len k * qa_len k2) bs) && (qx_fresh k (qa_nm c.2).2 c.1 && qx_freshs c.1 k2 (qa_nm (c.2 + 1)).2 (qa_len k))))))
    (qx_go (bc - (1 + qa_len k)) (bs - (qa_len k + qa_len k * qa_len k2)) pc loc (lR k (some (qa_nm c.2).2) :: r) (qx_Rs k (qa_nm c.2).2 c.1 0 (qa_nm (c.2 + 1)).2 (qa_len k), c.2 + 1 + qa_len k))
def qx_1 (bc bs : Nat) (e : LEnt) (pc : Nat) (loc : LLoc) (st : LStk) (c : CS) : Option XN := match e with
  | (ins, x, v, _) => match ins with
  | .iconst _ => qx_go bc bs (pc + 1) loc (lI v :: st) c
  | .bipush _ => qx_go bc bs (pc + 2) loc (lI v :: st) c
  | .sipush _ => qx_go bc bs (pc + 3) loc (lI v :: st) c
  | .iload_n n => (match qa_nth loc n.val with | some (some (Sum.inl a)) => qx_go bc bs (pc + 1) loc (lI a :: st) c | _ => none)
  | .aload_n n => (match qa_nth loc n.val with | some (some (Sum.inr (Sum.inr (k, o)))) => qx_go bc bs (pc + 1) loc (lR k o :: st) c | _ => none)
  | .istore_n n => (match st with | Sum.inl a :: r => qx_go bc bs (pc + 1) (qa_st1 loc n.val (lI a)) r c | _ => none)
  | .istore n => (match st with | Sum.inl a :: r => qx_go bc bs (pc + 2) (qa_st1 loc n (lI a)) r c | _ => none)
  | .astore_n n => (match st with | Sum.inr (Sum.inr (k, o)) :: r => qx_go bc bs (pc + 1) (qa_st1 loc n.val (lR k o)) r c | _ => none)
  | .iinc n _ => (match qa_nth loc n with | some (some (Sum.inl a)) => qx_go bc bs (pc + 3) (qa_st1 loc n (lI (a + v))) st c | _ => none)
  | .dup => (match st with | u :: r => qx_ck (!qa_isL u) (qx_go bc bs (pc + 1) loc (u :: u :: r) c) | _ => none)
  | .goto _ => qx_go bc bs (qa_get x 0) loc st c
  | .if_icmp .ge _ => (match st with | Sum.inl b :: Sum.inl a :: r => qx_go bc bs (cond (decide (a < b)) (pc + 3) (qa_get x 0)) loc r c | _ => none)
  | .arraylength => (match st with | Sum.inr (Sum.inr (k, some _)) :: r => qx_ck (!Nat.beq k 65 && (Nat.blt k 64 && Nat.blt (qa_ea k) 9)) (qx_go bc bs (pc + 1) loc (lI (qa_leI k) :: r) c) | _ => none)
  | .getfield _ => (match st with | Sum.inr (Sum.inr (k, some i)) :: r => qx_ck (Nat.beq k (qa_get x 0) && Nat.ble 3 (qa_tg k (qa_get x 1))) (qx_go bc bs (pc + 3) loc (lR (qa_tk k (qa_get x 1)) (qx_R c.1 k i (qa_get x 1)) :: r) c) | _ => none)
  | .putfield _ => (match qa_tg (qa_get x 0) (qa_get x 1) with
      | 0 => (match st with | Sum.inl a :: Sum.inr (Sum.inr (k, some i)) :: r => qx_ck (Nat.beq k (qa_get x 0)) (qx_go bc bs (pc + 3) loc r ((k, i, qa_get x 1, .inl a) :: c.1, c.2)) | _ => none)
      | 1 => none
      | 2 => none
      | _ => (match st with | Sum.inr (Sum.inr (k', o')) :: Sum.inr (Sum.inr (k, some i)) :: r => qx_ck (Nat.beq k (qa_get x 0) && (Nat.beq k' (qa_tk (qa_get x 0) (qa_get x 1)) || qa_nul o')) (qx_go bc bs (pc + 3) loc r ((k, i, qa_get x 1, .inr o') :: c.1, c.2)) | _ => none))
  | .iastore => (match st with | Sum.inl a :: Sum.inl b :: Sum.inr (Sum.inr (k, some i)) :: r => qx_ck (Nat.blt k 60 && (Nat.beq (qa_ea k) 0 && (!decide (b < 0) && Nat.blt b.toNatClampNeg (qa_len k)))) (qx_go bc bs (pc + 1) loc r ((k, i, b.toNatClampNeg, .inl a) :: c.1, c.2)) | _ => none)
  | .aastore => (match st with | Sum.inr (Sum.inr (k', some i')) :: Sum.inl b :: Sum.inr (Sum.inr (k, some i)) :: r => qx_ck ((Nat.blt k 60 && (Nat.beq (qa_ea k) 3 && (Nat.beq (qa_tk k 0) k' && Nat.blt (qa_oc k') 13))) && (!decide (b < 0) && Nat.blt b.toNatClampNeg (qa_len k))) (qx_go bc bs (pc + 1) loc r ((k, i, b.toNatClampNeg, .inr (some i')) :: c.1, c.2)) | _ => none)
  | .new _ => qx_new (qa_get x 0) (qa_get x 1) bc bs (pc + 3) loc st c
  | .newarray _ => (match st with | Sum.inl a :: r => qx_ck (Nat.beq a.toNatClampNeg (qa_len (qa_get x 0))) (qx_new (qa_get x 0) (qa_len (qa_get x 0)) bc bs (pc + 2) loc r c) | _ => none)
  | .anewarray _ => (match st with | Sum.inl a :: r => qx_ck (Nat.beq a.toNatClampNeg (qa_len (qa_get x 0)) && Nat.blt (qa_oc (qa_tk (qa_get x 0) 0)) 13) (qx_new (qa_get x 0) (qa_len (qa_get x 0)) bc bs (pc + 3) loc r c) | _ => none)
  | .multianewarray _ _ => (match st with | Sum.inl b :: Sum.inl a :: r => qx_ck (Nat.beq a.toNatClampNeg (qa_len (qa_get x 0)) && Nat.beq b.toNatClampNeg (qa_len (qa_get x 1))) (qx_mna (qa_get x 0) (qa_get x 1) bc bs (pc + 4) loc r c) | _ => none)
  | .invokespecial _ => (match x with
      | [c1, na, virt, rk, rt, k, cc, cs] => cond (Nat.beq c1 1008)
          (match st with | Sum.inr (Sum.inr (_, some _)) :: r => qx_ck (Nat.ble (qa_cat r) 8) (qx_go bc bs (pc + 3) loc r c) | _ => none)
          (match qa_split na st [] with
            | some (Sum.inr (Sum.inr (k', some o)) :: al, r) => qx_ck (Nat.ble (qa_cat r) 8 && (!Nat.beq virt 0 && (Nat.beq k' rk && (Nat.beq rt 4 && (Nat.ble cc bc && Nat.ble cs bs)))))
                (some (.inr (.inl (c1, lR rk (some o) :: al, cond (Nat.beq cc 0) bc (bc - cc), cond (Nat.beq cc 0) bs (bs - cs), pc + 3, loc, r, k))))
            | _ => none)
      | _ => none)
  | .return_ => (match st with | [] => qx_ck (Nat.beq bc 0 && Nat.beq bs 0) (some (.inr (.inr ()))) | _ => none)
  | _ => none
theorem qx_ck_some {b : Bool} {x : Option XN} {y : XN} (h : qx_ck b x = some y) : b = true ∧ x = some y := by
  cases b with
  | true => exact ⟨rfl, h⟩
  | false => cases h
/-- what a step of the computing machine says of the light one's -/
def qx_sem (B : Nat → Nat → Nat → Int32) (X : Nat → Nat → Nat → LLoc → LStk → LMem → Prop) (C : Nat → List LV → LMem → LPost → Prop) (Q : LPost) (c : CS) : XN → Prop
  | .inl (bc, bs, pc, loc, st, c') => X bc bs pc loc st (qx_M B c')
  | .inr (.inl (c1, a, bc, bs, pc, loc, r, _)) => C c1 a (qx_M B c) (fun r9 s9 => r9 = none ∧ X bc bs pc loc r s9)
  | .inr (.inr ()) => Q none (qx_M B c)
section QX1
variable {B : Nat → Nat → Nat → Int32} {X : Nat → Nat → Nat → LLoc → LStk → LMem → Prop} {C : Nat → List LV → LMem → LPost → Prop} {Q : LPost}
theorem qx_new_ok (hB : ∀ k i j, k < 60 → B k i j = 0) {k n bc bs pc : Nat} {loc : LLoc} {r : LStk} {c : CS} {y : XN} (h : qx_new k n bc bs pc loc r c = some y) (hy : qx_sem B X C Q c y) : qa_sem X C Q (qa_new true k n bc bs pc loc r (qx_M B c)) := by
  obtain ⟨h1, h2⟩ := qx_ck_some h
  cases h2
  obtain ⟨a1, h1⟩ := qa_and h1
  obtain ⟨a2, h1⟩ := qa_and h1
  obtain ⟨a3, h1⟩ := qa_and h1
  obtain ⟨a4, a5⟩ := qa_and h1
  obtain ⟨l, n0⟩ := c
  have hy : X (bc - 1) (bs - n) pc loc (lR k (some (qa_nm n0).2) :: r) (qx_M B (l, n0 + 1)) := hy
  unfold qa_new
  have e1 : (true && Nat.beq (qa_nm (gN (qx_M B (l, n0)))).1 k) = true := a2
  rw [e1]
  refine ⟨⟨Nat.le_of_ble_eq_true a3, Nat.le_of_ble_eq_true a4⟩, ?_⟩
  show X (bc - 1) (bs - n) pc loc (lR k (some (qa_nm n0).2) :: r) (sN (qx_M B (l, n0)) k (qa_nm n0).2)
  rw [qx_sN hB (qa_blt' a1) a5]
  exact hy
theorem qx_mna_ok (hB : ∀ k i j, k < 60 → B k i j = 0) {k k2 bc bs pc : Nat} {loc : LLoc} {r : LStk} {c : CS} {y : XN} (h : qx_mna k k2 bc bs pc loc r c = some y) (hy : qx_sem B X C Q c y) : qa_sem X C Q (qa_mna true k k2 bc bs pc loc r (qx_M B c)) := by
  obtain ⟨h1, h2⟩ := qx_ck_some h
  cases h2
  obtain ⟨a1, h1⟩ := qa_and h1
  obtain ⟨a2, h1⟩ := qa_and h1
  obtain ⟨a3, h1⟩ := qa_and h1
  obtain ⟨a4, h1⟩ := qa_and h1
  obtain ⟨a5, a6⟩ := qa_and h1
  obtain ⟨a7, a8⟩ := qa_and a4
  obtain ⟨l, n0⟩ := c
  have hy : X (bc - (1 + qa_len k)) (bs - (qa_len k + qa_len k * qa_len k2)) pc loc (lR k (some (qa_nm n0).2) :: r) (qx_M B (qx_Rs k (qa_nm n0).2 l 0 (qa_nm (n0 + 1)).2 (qa_len k), n0 + 1 + qa_len k)) := hy
  unfold qa_mna
  have e1 : (true && (Nat.beq (qa_nm (gN (qx_M B (l, n0)))).1 k && qa_row k2 (gN (qx_M B (l, n0)) + 1) (qa_nm (gN (qx_M B (l, n0)) + 1)).2 (qa_len k))) = true := a3
  rw [e1]
  refine ⟨⟨Nat.le_of_ble_eq_true a7, Nat.le_of_ble_eq_true a8⟩, ?_⟩
  show X (bc - (1 + qa_len k)) (bs - (qa_len k + qa_len k * qa_len k2)) pc loc (lR k (some (qa_nm n0).2) :: r) (sRs (sNs (sN (qx_M B (l, n0)) k (qa_nm n0).2) k2 (qa_nm (n0 + 1)).2 (qa_len k)) k (qa_nm n0).2 0 (qa_nm (n0 + 1)).2 (qa_len k))
  rw [qx_sN hB (qa_blt' a1) a5, qx_sNs hB (qa_blt' a2) _ _ _ a6, qx_sRs]
  exact hy
theorem qx_vin {b : Int32} {n : Nat} (h : (!decide (b < 0) && Nat.blt b.toNatClampNeg n) = true) : qa_vin b n := by
  obtain ⟨h1, h2⟩ := qa_and h
  have h3 : ¬ b < 0 := by simpa using h1
  have h4 := qa_blt' h2
  intro q
  rcases q with q | q
  · exact h3 q
  · omega
theorem qx_1_ok (hB : ∀ k i j, k < 60 → B k i j = 0) {mi bc bs pc : Nat} {e : LEnt} {loc : LLoc} {st : LStk} {c : CS} {y : XN} (h : qx_1 bc bs e pc loc st c = some y) (hy : qx_sem B X C Q c y) : qa_sem X C Q (qa_ins true mi bc bs e pc loc st (qx_M B c)) := by
  obtain ⟨ins, x, v, w⟩ := e
  obtain ⟨l, n0⟩ := c
  cases ins <;> first | (cases h; done) | skip
  case iconst => cases h; exact hy
  case bipush => cases h; exact hy
  case sipush => cases h; exact hy
  case iload_n n =>
    have h : (match qa_nth loc n.val with | some (some (Sum.inl a)) => qx_go bc bs (pc + 1) loc (lI a :: st) (l, n0) | _ => none) = some y := h
    show qa_sem X C Q (qa_ldI _ loc n.val fun a => qa_go bc bs (pc + 1) loc (lI a :: st) _)
    unfold qa_ldI
    split at h
    · rename_i a e1
      cases h
      rw [e1]
      exact hy
    · cases h
  case aload_n n =>
    have h : (match qa_nth loc n.val with | some (some (Sum.inr (Sum.inr (k, o)))) => qx_go bc bs (pc + 1) loc (lR k o :: st) (l, n0) | _ => none) = some y := h
    show qa_sem X C Q (qa_ldR _ loc n.val fun k o => qa_go bc bs (pc + 1) loc (lR k o :: st) _)
    unfold qa_ldR
    split at h
    · rename_i k o e1
      cases h
      rw [e1]
      exact hy
    · cases h
  case istore_n n =>
    rcases st with _ | ⟨a | a | ⟨k, o⟩, r⟩ <;> cases h
    exact hy
  case istore n =>
    rcases st with _ | ⟨a | a | ⟨k, o⟩, r⟩ <;> cases h
    exact hy
  case astore_n n =>
    rcases st with _ | ⟨a | a | ⟨k, o⟩, r⟩ <;> cases h
    exact hy
  case iinc n d =>
    have h : (match qa_nth loc n with | some (some (Sum.inl a)) => qx_go bc bs (pc + 3) (qa_st1 loc n (lI (a + v))) st (l, n0) | _ => none) = some y := h
    show qa_sem X C Q (qa_ldI _ loc n fun a => qa_go bc bs (pc + 3) (qa_st1 loc n (lI (a + v))) st _)
    unfold qa_ldI
    split at h
    · rename_i a e1
      cases h
      rw [e1]
      exact hy
    · cases h
  case dup =>
    rcases st with _ | ⟨u, r⟩
    · cases h
    · obtain ⟨h1, h2⟩ := qx_ck_some h
      cases h2
      show qa_sem X C Q (qa_if (!qa_isL u) _ (qa_go bc bs (pc + 1) loc (u :: u :: r) _))
      rw [h1]
      exact hy
  case goto => cases h; exact hy
  case if_icmp cd off =>
    cases cd <;> first | (cases h; done) | skip
    rcases st with _ | ⟨b | b | b, _ | ⟨a | a | a, r⟩⟩ <;> cases h
    have hy : X bc bs (cond (decide (a < b)) (pc + 3) (qa_get x 0)) loc r (qx_M B (l, n0)) := hy
    show (a < b → X bc bs (pc + 3) loc r (qx_M B (l, n0))) ∧ (¬ a < b → X bc bs (qa_get x 0) loc r (qx_M B (l, n0)))
    by_cases hlt : a < b
    · rw [decide_eq_true hlt] at hy
      exact ⟨fun _ => hy, fun q => absurd hlt q⟩
    · rw [decide_eq_false hlt] at hy
      exact ⟨fun q => absurd q hlt, fun _ => hy⟩
  case arraylength =>
    rcases st with _ | ⟨a | a | ⟨k, _ | i⟩, r⟩ <;> first | (cases h; done) | skip
    obtain ⟨h1, h2⟩ := qx_ck_some h
    cases h2
    obtain ⟨h3, h4⟩ := qa_and h1
    have h5 : Nat.beq k 65 = false := by simpa using h3
    show qa_sem X C Q (match Nat.beq k 65 with
      | true => qa_gg (qa_gn (some i)) bc bs (pc + 1) loc (lI (gI (qx_M B (l, n0)) 65 1 0) :: r) (qx_M B (l, n0))
      | false => qa_if (Nat.blt k 64 && Nat.blt (qa_ea k) 9) (qx_M B (l, n0)) (qa_gg (qa_gn (some i)) bc bs (pc + 1) loc (lI (qa_leI k) :: r) (qx_M B (l, n0))))
    rw [h5, h4]
    exact hy
  case getfield f =>
    rcases st with _ | ⟨a | a | ⟨k, _ | i⟩, r⟩ <;> first | (cases h; done) | skip
    obtain ⟨h1, h2⟩ := qx_ck_some h
    cases h2
    obtain ⟨h3, h4⟩ := qa_and h1
    show qa_sem X C Q (qa_if (Nat.beq k (qa_get x 0)) _ (qa_gg (qa_gn (some i)) bc bs (pc + 3) loc (qa_rdV true (qx_M B (l, n0)) k i (qa_get x 1) :: r) _))
    rw [h3, qa_rdV_3 (Nat.le_of_ble_eq_true h4)]
    exact hy
  case putfield f =>
    have h : (match qa_tg (qa_get x 0) (qa_get x 1) with
      | 0 => (match (generalizing := false) st with | Sum.inl a :: Sum.inr (Sum.inr (k, some i)) :: r => qx_ck (Nat.beq k (qa_get x 0)) (qx_go bc bs (pc + 3) loc r ((k, i, qa_get x 1, .inl a) :: l, n0)) | _ => none)
      | 1 => none
      | 2 => none
      | _ => (match (generalizing := false) st with | Sum.inr (Sum.inr (k', o')) :: Sum.inr (Sum.inr (k, some i)) :: r => qx_ck (Nat.beq k (qa_get x 0) && (Nat.beq k' (qa_tk (qa_get x 0) (qa_get x 1)) || qa_nul o')) (qx_go bc bs (pc + 3) loc r ((k, i, qa_get x 1, .inr o') :: l, n0)) | _ => none)) = some y := h
    show qa_sem X C Q (match qa_tg (qa_get x 0) (qa_get x 1) with
        | 0 => qa_sIR (qx_M B (l, n0)) st fun a k o r => qa_if (Nat.beq k (qa_get x 0)) (qx_M B (l, n0)) (qa_gg (qa_gn o) bc bs (pc + 3) loc r (sI (qx_M B (l, n0)) k (o.getD 0) (qa_get x 1) a))
        | 1 => qa_sIR (qx_M B (l, n0)) st fun a k o r => qa_if (Nat.beq k (qa_get x 0)) (qx_M B (l, n0)) (qa_gg (qa_ga (qa_gn o) (a = 0 ∨ a = 1)) bc bs (pc + 3) loc r (sI (qx_M B (l, n0)) k (o.getD 0) (qa_get x 1) a))
        | 2 => qa_sLR (qx_M B (l, n0)) st fun a k o r => qa_if (Nat.beq k (qa_get x 0)) (qx_M B (l, n0)) (qa_gg (qa_gn o) bc bs (pc + 3) loc r (sL (qx_M B (l, n0)) k (o.getD 0) (qa_get x 1) a))
        | _ => qa_sRR (qx_M B (l, n0)) st fun k' o' k o r => qa_if (Nat.beq k (qa_get x 0) && ((Nat.beq k' (qa_tk (qa_get x 0) (qa_get x 1)) || qa_nul o') && (true || Nat.beq (qa_fm (qa_get x 0) (qa_get x 1)) 0))) (qx_M B (l, n0)) (qa_gg (qa_gn o) bc bs (pc + 3) loc r (sR (qx_M B (l, n0)) k (o.getD 0) (qa_get x 1) o')))
    rcases (show qa_tg (qa_get x 0) (qa_get x 1) = 0 ∨ qa_tg (qa_get x 0) (qa_get x 1) = 1 ∨ qa_tg (qa_get x 0) (qa_get x 1) = 2 ∨ ∃ t, qa_tg (qa_get x 0) (qa_get x 1) = t + 3 from by
      rcases (show qa_tg (qa_get x 0) (qa_get x 1) = 0 ∨ qa_tg (qa_get x 0) (qa_get x 1) = 1 ∨ qa_tg (qa_get x 0) (qa_get x 1) = 2 ∨ 3 ≤ qa_tg (qa_get x 0) (qa_get x 1) by omega) with e | e | e | e
      · exact Or.inl e
      · exact Or.inr (Or.inl e)
      · exact Or.inr (Or.inr (Or.inl e))
      · exact Or.inr (Or.inr (Or.inr ⟨_ - 3, (Nat.sub_add_cancel e).symm⟩))) with e | e | e | ⟨t, e⟩
    · rw [e] at h ⊢
      rcases st with _ | ⟨a | a | a, _ | ⟨b | b | ⟨k, _ | i⟩, r⟩⟩ <;> first | (cases h; done) | skip
      obtain ⟨h1, h2⟩ := qx_ck_some h
      cases h2
      show qa_sem X C Q (qa_if (Nat.beq k (qa_get x 0)) _ (qa_gg (qa_gn (some i)) bc bs (pc + 3) loc r (sI (qx_M B (l, n0)) k i (qa_get x 1) a)))
      rw [h1, qx_sI]
      exact hy
    · rw [e] at h
      cases h
    · rw [e] at h
      cases h
    · rw [e] at h ⊢
      rcases st with _ | ⟨a | a | ⟨k', o'⟩, _ | ⟨b | b | ⟨k, _ | i⟩, r⟩⟩ <;> first | (cases h; done) | skip
      obtain ⟨h1, h2⟩ := qx_ck_some h
      cases h2
      obtain ⟨h3, h4⟩ := qa_and h1
      show qa_sem X C Q (qa_if (Nat.beq k (qa_get x 0) && ((Nat.beq k' (qa_tk (qa_get x 0) (qa_get x 1)) || qa_nul o') && true)) _ (qa_gg (qa_gn (some i)) bc bs (pc + 3) loc r (sR (qx_M B (l, n0)) k i (qa_get x 1) o')))
      rw [h3, h4, qx_sR]
      exact hy
  case iastore =>
    rcases st with _ | ⟨a | a | a, _ | ⟨b | b | b, _ | ⟨q | q | ⟨k, _ | i⟩, r⟩⟩⟩ <;> first | (cases h; done) | skip
    obtain ⟨h1, h2⟩ := qx_ck_some h
    cases h2
    obtain ⟨g1, h1⟩ := qa_and h1
    obtain ⟨g2, h1⟩ := qa_and h1
    show qa_sem X C Q (qa_if (Nat.blt k 60 && Nat.beq (qa_ea k) 0) _ (qa_gg (qa_ga (qa_gn (some i)) (qa_vin b (qa_len k))) bc bs (pc + 1) loc r (sI (qx_M B (l, n0)) k i b.toNatClampNeg a)))
    rw [g1, g2, qx_sI]
    exact ⟨qx_vin h1, hy⟩
  case aastore =>
    rcases st with _ | ⟨a | a | ⟨k', _ | i'⟩, _ | ⟨b | b | b, _ | ⟨q | q | ⟨k, _ | i⟩, r⟩⟩⟩ <;> first | (cases h; done) | skip
    obtain ⟨h1, h2⟩ := qx_ck_some h
    cases h2
    obtain ⟨g1, g2⟩ := qa_and h1
    show qa_sem X C Q (qa_if (true && (Nat.blt k 60 && (Nat.beq (qa_ea k) 3 && (Nat.beq (qa_tk k 0) k' && Nat.blt (qa_oc k') 13)))) _ (qa_gg (qa_ga (qa_both (qa_gn (some i)) (qa_gn (some i'))) (qa_vin b (qa_len k))) bc bs (pc + 1) loc r (sR (qx_M B (l, n0)) k i b.toNatClampNeg (some i'))))
    rw [g1, qx_sR]
    exact ⟨qx_vin g2, hy⟩
  case new => exact qx_new_ok hB h hy
  case newarray t =>
    rcases st with _ | ⟨a | a | a, r⟩ <;> first | (cases h; done) | skip
    obtain ⟨h1, h2⟩ := qx_ck_some h
    show qa_sem X C Q (qa_if (Nat.beq a.toNatClampNeg (qa_len (qa_get x 0))) _ (qa_new true (qa_get x 0) (qa_len (qa_get x 0)) bc bs (pc + 2) loc r (qx_M B (l, n0))))
    rw [h1]
    exact qx_new_ok hB h2 hy
  case anewarray f =>
    rcases st with _ | ⟨a | a | a, r⟩ <;> first | (cases h; done) | skip
    obtain ⟨h1, h2⟩ := qx_ck_some h
    show qa_sem X C Q (qa_if (Nat.beq a.toNatClampNeg (qa_len (qa_get x 0)) && Nat.blt (qa_oc (qa_tk (qa_get x 0) 0)) 13) _ (qa_new true (qa_get x 0) (qa_len (qa_get x 0)) bc bs (pc + 3) loc r (qx_M B (l, n0))))
    rw [h1]
    exact qx_new_ok hB h2 hy
  case multianewarray f d =>
    rcases st with _ | ⟨b | b | b, _ | ⟨a | a | a, r⟩⟩ <;> first | (cases h; done) | skip
    obtain ⟨h1, h2⟩ := qx_ck_some h
    show qa_sem X C Q (qa_if (Nat.beq a.toNatClampNeg (qa_len (qa_get x 0)) && Nat.beq b.toNatClampNeg (qa_len (qa_get x 1))) _ (qa_mna true (qa_get x 0) (qa_get x 1) bc bs (pc + 4) loc r (qx_M B (l, n0))))
    rw [h1]
    exact qx_mna_ok hB h2 hy
  case invokespecial f =>
    rcases x with _ | ⟨c1, _ | ⟨na, _ | ⟨virt, _ | ⟨rk, _ | ⟨rt, _ | ⟨k, _ | ⟨cc, _ | ⟨cs, _ | ⟨x9, x⟩⟩⟩⟩⟩⟩⟩⟩⟩ <;> first | (cases h; done) | skip
    have h : cond (Nat.beq c1 1008)
          (match (generalizing := false) st with | Sum.inr (Sum.inr (_, some _)) :: r => qx_ck (Nat.ble (qa_cat r) 8) (qx_go bc bs (pc + 3) loc r (l, n0)) | _ => none)
          (match qa_split na st [] with
            | some (Sum.inr (Sum.inr (k', some o)) :: al, r) => qx_ck (Nat.ble (qa_cat r) 8 && (!Nat.beq virt 0 && (Nat.beq k' rk && (Nat.beq rt 4 && (Nat.ble cc bc && Nat.ble cs bs)))))
                (some (.inr (.inl (c1, lR rk (some o) :: al, cond (Nat.beq cc 0) bc (bc - cc), cond (Nat.beq cc 0) bs (bs - cs), pc + 3, loc, r, k))))
            | _ => none) = some y := h
    show qa_sem X C Q (match qa_get [c1, na, virt, rk, rt, k, cc, cs] 0 with
      | 1008 => qa_s1R (qx_M B (l, n0)) st fun _ o r => qa_if (Nat.ble (qa_cat r) 8) (qx_M B (l, n0)) (qa_gg (qa_gn o) bc bs (pc + 3) loc r (qx_M B (l, n0)))
      | _ => qa_inv2 [c1, na, virt, rk, rt, k, cc, cs] st bc bs (pc + 3) loc (qx_M B (l, n0)))
    split
    · rename_i e8
      have e8 : c1 = 1008 := e8
      have hb : Nat.beq c1 1008 = true := by rw [e8]; exact Nat.beq_refl 1008
      rw [hb] at h
      have h : (match (generalizing := false) st with | Sum.inr (Sum.inr (_, some _)) :: r => qx_ck (Nat.ble (qa_cat r) 8) (qx_go bc bs (pc + 3) loc r (l, n0)) | _ => none) = some y := h
      rcases st with _ | ⟨a | a | ⟨k', _ | i⟩, r⟩ <;> first | (cases h; done) | skip
      obtain ⟨h1, h2⟩ := qx_ck_some h
      cases h2
      show qa_sem X C Q (qa_if (Nat.ble (qa_cat r) 8) (qx_M B (l, n0)) (qa_gg (qa_gn (some i)) bc bs (pc + 3) loc r (qx_M B (l, n0))))
      rw [h1]
      exact hy
    · rename_i e8
      have e8 : c1 ≠ 1008 := e8
      have hb : Nat.beq c1 1008 = false := by
        cases h9 : Nat.beq c1 1008 with
        | false => rfl
        | true => exact absurd (qa_beq h9) e8
      rw [hb] at h
      have h : (match qa_split na st [] with
            | some (Sum.inr (Sum.inr (k', some o)) :: al, r) => qx_ck (Nat.ble (qa_cat r) 8 && (!Nat.beq virt 0 && (Nat.beq k' rk && (Nat.beq rt 4 && (Nat.ble cc bc && Nat.ble cs bs)))))
                (some (.inr (.inl (c1, lR rk (some o) :: al, cond (Nat.beq cc 0) bc (bc - cc), cond (Nat.beq cc 0) bs (bs - cs), pc + 3, loc, r, k))) : Option XN)
            | _ => none) = some y := h
      show qa_sem X C Q (match qa_split na st [] with
        | some al => qa_call virt rk c1 rt k cc cs al bc bs (pc + 3) loc (qx_M B (l, n0))
        | none => qa_no (qx_M B (l, n0)))
      split at h
      · rename_i k' o al r e1
        rw [e1]
        obtain ⟨h1, h2⟩ := qx_ck_some h
        cases h2
        obtain ⟨g1, h1⟩ := qa_and h1
        obtain ⟨g2, h1⟩ := qa_and h1
        obtain ⟨g3, h1⟩ := qa_and h1
        obtain ⟨g4, h1⟩ := qa_and h1
        obtain ⟨g5, g6⟩ := qa_and h1
        have g4 := qa_beq g4
        subst g4
        have g3' := qa_beq g3
        subst g3'
        cases virt with
        | zero => cases g2
        | succ virt =>
          have hb9 : Nat.beq k' k' = true := by simp
          show qa_sem X C Q (qa_if (Nat.ble (qa_cat r) 8) (qx_M B (l, n0)) (qa_pay cc cs bc bs fun g bc' bs' => qa_if (Nat.beq k' k') (qx_M B (l, n0)) (qa_both g none, Sum.inr (Sum.inr (Sum.inl (c1, 4, k, lR k' (some o) :: al, bc', bs', pc + 3, loc, r, qx_M B (l, n0)))))))
          rw [g1, hb9]
          unfold qa_pay
          cases hcc : Nat.beq cc 0 with
          | true =>
            rw [hcc] at hy
            exact hy
          | false =>
            rw [hcc] at hy
            exact ⟨⟨Nat.le_of_ble_eq_true g5, Nat.le_of_ble_eq_true g6⟩, hy⟩
      · cases h
  case return_ =>
    rcases st with _ | ⟨a, r⟩
    · obtain ⟨h1, h2⟩ := qx_ck_some h
      cases h2
      obtain ⟨g1, g2⟩ := qa_and h1
      exact ⟨⟨qa_beq g1, qa_beq g2⟩, hy⟩
    · cases h
end QX1
