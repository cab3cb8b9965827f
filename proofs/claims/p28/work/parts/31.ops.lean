/-! What two ints give: a name and an offset, or bounds. -/
abbrev YQ : Type := YI ⊕ ZI
def y_q (ρ : List Int) : YQ → Int → Prop
  | .inl a, x => y_is ρ a x
  | .inr b, x => b.1 ≤ x ∧ x ≤ b.2
def y_nm (r : YQ) (e : YE) : YI × YE := match r with
  | .inl a => (a, e)
  | .inr b => ((e.1, 0), y_push e b)
theorem y_nm_ok {ρ : List Int} {e : YE} {r : YQ} {x : Int} (hE : y_E ρ e) (h : y_q ρ r x) : ∃ ρ', y_le ρ ρ' ∧ y_E ρ' (y_nm r e).2 ∧ y_is ρ' (y_nm r e).1 x := by
  rcases r with a | b
  · exact ⟨ρ, y_le_rf ρ, hE, h⟩
  · obtain ⟨h1, h2, h3⟩ := y_push_ok hE h
    exact ⟨_, h2, h1, h3⟩
def y_tp : YQ := .inr z_top
theorem y_tp_ok {ρ : List Int} (x : Int32) : y_q ρ y_tp x.toInt := z_in_top x
theorem y_is_0 {ρ : List Int} {e : YE} {a : YI} {v : Int} (hE : y_E ρ e) (h : y_is ρ a v) (h0 : Nat.beq a.1 0 = true) : v = a.2 := by
  obtain ⟨w, h1, rfl⟩ := h
  rw [qa_beq h0, hE.2.1] at h1
  cases h1
  exact Int.zero_add _
def y_rg (l h : Int) : Bool := decide (-2147483648 ≤ l) && decide (h ≤ 2147483647)
theorem y_rg_ok {l h : Int} (q : y_rg l h = true) : -2147483648 ≤ l ∧ h ≤ 2147483647 := by
  obtain ⟨h1, h2⟩ := qa_and q
  exact ⟨of_decide_eq_true h1, of_decide_eq_true h2⟩
def y_bb (e : YE) (a b : YI) (K : ZI → ZI → YQ) : YQ := match y_bd e a, y_bd e b with
  | some p, some q => K p q
  | _, _ => y_tp
def y_b1 (e : YE) (a : YI) (K : ZI → YQ) : YQ := match y_bd e a with
  | some p => K p
  | _ => y_tp
def y_ck (b : Bool) (r : YQ) : YQ := match b with | true => r | false => y_tp
theorem y_bmod {x : Int} (h1 : -2147483648 ≤ x) (h2 : x ≤ 2147483647) : x.bmod (2 ^ 32) = x :=
  Int.bmod_eq_of_le_mul_two (by show -(4294967296 : Int) ≤ x * 2; omega) (by show x * 2 < (4294967296 : Int); omega)
theorem y_addI {x y : Int32} (h1 : -2147483648 ≤ x.toInt + y.toInt) (h2 : x.toInt + y.toInt ≤ 2147483647) : (x + y).toInt = x.toInt + y.toInt := by
  rw [Int32.toInt_add]
  exact y_bmod h1 h2
theorem y_subI {x y : Int32} (h1 : -2147483648 ≤ x.toInt - y.toInt) (h2 : x.toInt - y.toInt ≤ 2147483647) : (x - y).toInt = x.toInt - y.toInt := by
  rw [Int32.toInt_sub]
  exact y_bmod h1 h2
theorem y_mulI {x y : Int32} (h1 : -2147483648 ≤ x.toInt * y.toInt) (h2 : x.toInt * y.toInt ≤ 2147483647) : (x * y).toInt = x.toInt * y.toInt := by
  rw [Int32.toInt_mul]
  exact y_bmod h1 h2
theorem y_lo (x : Int32) : -2147483648 ≤ x.toInt := Int32.le_toInt x
theorem y_hi (x : Int32) : x.toInt ≤ 2147483647 := by
  have := Int32.toInt_lt x
  omega
section
variable {ρ : List Int} {e : YE} {a b : YI} {x y : Int32}
theorem y_bb_ok {K : ZI → ZI → YQ} {z : Int32} (hE : y_E ρ e) (ha : y_is ρ a x.toInt) (hb : y_is ρ b y.toInt) (h : ∀ p q : ZI, p.1 ≤ x.toInt → x.toInt ≤ p.2 → q.1 ≤ y.toInt → y.toInt ≤ q.2 → y_q ρ (K p q) z.toInt) : y_q ρ (y_bb e a b K) z.toInt := by
  unfold y_bb
  cases h1 : y_bd e a with
  | none => exact y_tp_ok z
  | some p => cases h2 : y_bd e b with
    | none => exact y_tp_ok z
    | some q =>
      obtain ⟨g1, g2⟩ := y_bd_ok hE ha h1
      obtain ⟨g3, g4⟩ := y_bd_ok hE hb h2
      exact h p q g1 g2 g3 g4
theorem y_b1_ok {K : ZI → YQ} {z : Int32} (hE : y_E ρ e) (ha : y_is ρ a x.toInt) (h : ∀ p : ZI, p.1 ≤ x.toInt → x.toInt ≤ p.2 → y_q ρ (K p) z.toInt) : y_q ρ (y_b1 e a K) z.toInt := by
  unfold y_b1
  cases h1 : y_bd e a with
  | none => exact y_tp_ok z
  | some p =>
    obtain ⟨g1, g2⟩ := y_bd_ok hE ha h1
    exact h p g1 g2
theorem y_ck_ok {c : Bool} {r : YQ} {z : Int32} (h : c = true → y_q ρ r z.toInt) : y_q ρ (y_ck c r) z.toInt := by
  cases c with
  | true => exact h rfl
  | false => exact y_tp_ok z
/-- a value and a number more -/
def y_sh (e : YE) (a : YI) (c : Int) : Option YI := match y_bd e a with
  | some p => match y_rg (p.1 + c) (p.2 + c) with | true => some (a.1, a.2 + c) | false => none
  | none => none
theorem y_sh_ok {c : Int} {q : YI} (hE : y_E ρ e) (ha : y_is ρ a x.toInt) (h : y_sh e a c = some q) : y_is ρ q (x.toInt + c) ∧ -2147483648 ≤ x.toInt + c ∧ x.toInt + c ≤ 2147483647 := by
  unfold y_sh at h
  cases h1 : y_bd e a with
  | none => rw [h1] at h; cases h
  | some p =>
    rw [h1] at h
    dsimp only at h
    obtain ⟨g1, g2⟩ := y_bd_ok hE ha h1
    cases h2 : y_rg (p.1 + c) (p.2 + c) with
    | false => rw [h2] at h; cases h
    | true =>
      rw [h2] at h
      cases h
      obtain ⟨h3, h4⟩ := y_rg_ok h2
      obtain ⟨w, h5, h6⟩ := ha
      refine ⟨⟨w, h5, ?_⟩, by omega, by omega⟩
      show x.toInt + c = w + (a.2 + c)
      omega
def y_or (o : Option YI) (r : YQ) : YQ := match o with | some q => .inl q | none => r
def y_add (e : YE) (a b : YI) : YQ := y_or (match Nat.beq b.1 0 with | true => y_sh e a b.2 | false => none) (y_or (match Nat.beq a.1 0 with | true => y_sh e b a.2 | false => none)
  (y_bb e a b fun p q => y_ck (y_rg (p.1 + q.1) (p.2 + q.2)) (.inr (p.1 + q.1, p.2 + q.2))))
theorem y_add_ok (hE : y_E ρ e) (ha : y_is ρ a x.toInt) (hb : y_is ρ b y.toInt) : y_q ρ (y_add e a b) (x + y).toInt := by
  unfold y_add
  cases h1 : (match Nat.beq b.1 0 with | true => y_sh e a b.2 | false => none) with
  | some q =>
    cases h0 : Nat.beq b.1 0 with
    | false => rw [h0] at h1; cases h1
    | true =>
      rw [h0] at h1
      obtain ⟨g1, g2, g3⟩ := y_sh_ok hE ha h1
      rw [← y_is_0 hE hb h0] at g1 g2 g3
      show y_is ρ q (x + y).toInt
      rw [y_addI g2 g3]
      exact g1
  | none =>
    show y_q ρ (y_or (match Nat.beq a.1 0 with | true => y_sh e b a.2 | false => none) _) _
    cases h2 : (match Nat.beq a.1 0 with | true => y_sh e b a.2 | false => none) with
    | some q =>
      cases h0 : Nat.beq a.1 0 with
      | false => rw [h0] at h2; cases h2
      | true =>
        rw [h0] at h2
        obtain ⟨g1, g2, g3⟩ := y_sh_ok hE hb h2
        rw [← y_is_0 hE ha h0] at g1 g2 g3
        show y_is ρ q (x + y).toInt
        rw [y_addI (by omega) (by omega), Int.add_comm]
        exact g1
    | none =>
      refine y_bb_ok hE ha hb fun p q g1 g2 g3 g4 => y_ck_ok fun h3 => ?_
      obtain ⟨h3, h4⟩ := y_rg_ok h3
      show p.1 + q.1 ≤ (x + y).toInt ∧ (x + y).toInt ≤ p.2 + q.2
      rw [y_addI (by omega) (by omega)]
      omega
def y_sub (e : YE) (a b : YI) : YQ := y_or (match Nat.beq b.1 0 with | true => y_sh e a (-b.2) | false => none)
  (match Nat.beq a.1 b.1 && y_rg (a.2 - b.2) (a.2 - b.2) with
    | true => .inl (yc (a.2 - b.2))
    | false => y_bb e a b fun p q => y_ck (y_rg (p.1 - q.2) (p.2 - q.1)) (.inr (p.1 - q.2, p.2 - q.1)))
theorem y_sub_ok (hE : y_E ρ e) (ha : y_is ρ a x.toInt) (hb : y_is ρ b y.toInt) : y_q ρ (y_sub e a b) (x - y).toInt := by
  unfold y_sub
  cases h1 : (match Nat.beq b.1 0 with | true => y_sh e a (-b.2) | false => none) with
  | some q =>
    cases h0 : Nat.beq b.1 0 with
    | false => rw [h0] at h1; cases h1
    | true =>
      rw [h0] at h1
      obtain ⟨g1, g2, g3⟩ := y_sh_ok hE ha h1
      rw [← y_is_0 hE hb h0, ← Int.sub_eq_add_neg] at g1 g2 g3
      show y_is ρ q (x - y).toInt
      rw [y_subI g2 g3]
      exact g1
  | none =>
    show y_q ρ (match Nat.beq a.1 b.1 && y_rg (a.2 - b.2) (a.2 - b.2) with | true => _ | false => _) _
    cases h2 : (Nat.beq a.1 b.1 && y_rg (a.2 - b.2) (a.2 - b.2)) with
    | true =>
      obtain ⟨h3, h4⟩ := qa_and h2
      obtain ⟨h5, h6⟩ := y_rg_ok h4
      obtain ⟨w, g1, g2⟩ := ha
      obtain ⟨w', g3, g4⟩ := hb
      rw [qa_beq h3] at g1
      rw [g1] at g3
      cases g3
      have e1 : x.toInt - y.toInt = a.2 - b.2 := by omega
      show y_is ρ (yc (a.2 - b.2)) (x - y).toInt
      rw [y_subI (by omega) (by omega), e1]
      exact y_is_c hE _
    | false =>
      refine y_bb_ok hE ha hb fun p q g1 g2 g3 g4 => y_ck_ok fun h3 => ?_
      obtain ⟨h3, h4⟩ := y_rg_ok h3
      show p.1 - q.2 ≤ (x - y).toInt ∧ (x - y).toInt ≤ p.2 - q.1
      rw [y_subI (by omega) (by omega)]
      omega
def y_mul (e : YE) (a b : YI) : YQ := y_bb e a b fun p q => y_ck ((decide (0 ≤ p.1) && decide (0 ≤ q.1)) && decide (p.2 * q.2 ≤ 2147483647)) (.inr (p.1 * q.1, p.2 * q.2))
theorem y_mul_ok (hE : y_E ρ e) (ha : y_is ρ a x.toInt) (hb : y_is ρ b y.toInt) : y_q ρ (y_mul e a b) (x * y).toInt := by
  refine y_bb_ok hE ha hb fun p q g1 g2 g3 g4 => y_ck_ok fun h3 => ?_
  obtain ⟨h3, h5⟩ := qa_and h3
  obtain ⟨h3, h4⟩ := qa_and h3
  have h3 := of_decide_eq_true h3
  have h4 := of_decide_eq_true h4
  have h5 := of_decide_eq_true h5
  have m1 : p.1 * q.1 ≤ x.toInt * y.toInt := Int.mul_le_mul g1 g3 h4 (by omega)
  have m2 : x.toInt * y.toInt ≤ p.2 * q.2 := Int.mul_le_mul g2 g4 (by omega) (by omega)
  have m0 : 0 ≤ p.1 * q.1 := Int.mul_nonneg h3 h4
  show p.1 * q.1 ≤ (x * y).toInt ∧ (x * y).toInt ≤ p.2 * q.2
  rw [y_mulI (by omega) (by omega)]
  exact ⟨m1, m2⟩
theorem y_divI (hx : 0 ≤ x.toInt) (hy : 0 < y.toInt) : (x / y).toInt = x.toInt / y.toInt := by
  have h1 : 0 ≤ x.toInt / y.toInt := Int.ediv_nonneg hx (by omega)
  have h2 : x.toInt / y.toInt ≤ x.toInt := Int.ediv_le_self _ hx
  have h3 := y_hi x
  rw [Int32.toInt_div, Int.tdiv_eq_ediv_of_nonneg hx]
  exact y_bmod (by omega) (by omega)
def y_dv (e : YE) (a b : YI) : YQ := y_bb e a b fun p q => y_ck (decide (0 ≤ p.1) && decide (0 < q.1)) (.inr (0, p.2))
theorem y_dv_ok (hE : y_E ρ e) (ha : y_is ρ a x.toInt) (hb : y_is ρ b y.toInt) : y_q ρ (y_dv e a b) (x / y).toInt := by
  refine y_bb_ok hE ha hb fun p q g1 g2 g3 g4 => y_ck_ok fun h3 => ?_
  obtain ⟨h3, h4⟩ := qa_and h3
  have h3 := of_decide_eq_true h3
  have h4 := of_decide_eq_true h4
  have h1 : 0 ≤ x.toInt / y.toInt := Int.ediv_nonneg (by omega) (by omega)
  have h2 : x.toInt / y.toInt ≤ x.toInt := Int.ediv_le_self _ (by omega)
  show 0 ≤ (x / y).toInt ∧ (x / y).toInt ≤ p.2
  rw [y_divI (by omega) (by omega)]
  omega
def y_rm (e : YE) (a b : YI) : YQ := y_bb e a b fun p q => y_ck (decide (0 ≤ p.1) && decide (0 < q.1)) (.inr (0, q.2 - 1))
theorem y_remI (hx : 0 ≤ x.toInt) (hy : 0 < y.toInt) : (x - x / y * y).toInt = x.toInt % y.toInt := by
  have h0 := Int.mul_ediv_add_emod x.toInt y.toInt
  have h1 : 0 ≤ x.toInt % y.toInt := Int.emod_nonneg _ (by omega)
  have h2 : 0 ≤ x.toInt / y.toInt := Int.ediv_nonneg hx (by omega)
  have h3 : 0 ≤ y.toInt * (x.toInt / y.toInt) := Int.mul_nonneg (by omega) h2
  have h4 := y_hi x
  have e1 : (x / y * y).toInt = y.toInt * (x.toInt / y.toInt) := by
    rw [y_mulI (by rw [y_divI hx hy, Int.mul_comm]; omega) (by rw [y_divI hx hy, Int.mul_comm]; omega), y_divI hx hy, Int.mul_comm]
  rw [y_subI (by rw [e1]; omega) (by rw [e1]; omega), e1]
  omega
theorem y_rm_ok (hE : y_E ρ e) (ha : y_is ρ a x.toInt) (hb : y_is ρ b y.toInt) : y_q ρ (y_rm e a b) (x - x / y * y).toInt := by
  refine y_bb_ok hE ha hb fun p q g1 g2 g3 g4 => y_ck_ok fun h3 => ?_
  obtain ⟨h3, h4⟩ := qa_and h3
  have h3 := of_decide_eq_true h3
  have h4 := of_decide_eq_true h4
  have h1 : 0 ≤ x.toInt % y.toInt := Int.emod_nonneg _ (by omega)
  have h2 : x.toInt % y.toInt < y.toInt := Int.emod_lt_of_pos _ (by omega)
  show 0 ≤ (x - x / y * y).toInt ∧ (x - x / y * y).toInt ≤ q.2 - 1
  rw [y_remI (by omega) (by omega)]
  omega
def y_ng (e : YE) (a : YI) : YQ := y_b1 e a fun p => y_ck (decide (-2147483648 < p.1)) (.inr (-p.2, -p.1))
theorem y_ng_ok (hE : y_E ρ e) (ha : y_is ρ a x.toInt) : y_q ρ (y_ng e a) (-x).toInt := by
  refine y_b1_ok hE ha fun p g1 g2 => y_ck_ok fun h3 => ?_
  have h3 := of_decide_eq_true h3
  have h4 := y_hi x
  show -p.2 ≤ (-x).toInt ∧ (-x).toInt ≤ -p.1
  rw [Int32.toInt_neg, y_bmod (by omega) (by omega)]
  omega
theorem y_shl1 : ∀ k : Nat, k < 31 → ((1 : Int32) <<< (Int32.ofNat k &&& 31)).toInt = ((2 ^ k : Nat) : Int) := by decide +kernel
def y_sl (e : YE) (a b : YI) : YQ := match Nat.beq a.1 0 && decide (a.2 = 1) with
  | true => y_b1 e b fun q => y_ck (decide (0 ≤ q.1) && decide (q.2 ≤ 30)) (.inr (1, ((2 ^ q.2.toNat : Nat) : Int)))
  | false => y_tp
theorem y_sl_ok (hE : y_E ρ e) (ha : y_is ρ a x.toInt) (hb : y_is ρ b y.toInt) : y_q ρ (y_sl e a b) (x <<< (y &&& 31)).toInt := by
  unfold y_sl
  cases h0 : (Nat.beq a.1 0 && decide (a.2 = 1)) with
  | false => exact y_tp_ok _
  | true =>
    obtain ⟨h1, h2⟩ := qa_and h0
    have h2 := of_decide_eq_true h2
    have hx : x = 1 := by
      have e1 := y_is_0 hE ha h1
      rw [h2] at e1
      exact Int32.toInt_inj.mp (show x.toInt = (1 : Int32).toInt from e1)
    subst hx
    refine y_b1_ok hE hb fun q g1 g2 => y_ck_ok fun h3 => ?_
    obtain ⟨h3, h4⟩ := qa_and h3
    have h3 := of_decide_eq_true h3
    have h4 := of_decide_eq_true h4
    have hy : y = Int32.ofNat y.toInt.toNat := by
      apply Int32.toInt_inj.mp
      rw [Int32.toInt_ofNat_of_lt (by omega)]
      omega
    have h5 := y_shl1 y.toInt.toNat (by omega)
    rw [← hy] at h5
    show 1 ≤ ((1 : Int32) <<< (y &&& 31)).toInt ∧ ((1 : Int32) <<< (y &&& 31)).toInt ≤ ((2 ^ q.2.toNat : Nat) : Int)
    rw [h5]
    have h6 : 1 ≤ 2 ^ y.toInt.toNat := Nat.one_le_two_pow
    have h7 : 2 ^ y.toInt.toNat ≤ 2 ^ q.2.toNat := Nat.pow_le_pow_right (by decide) (by omega)
    exact ⟨Int.ofNat_le.mpr h6, Int.ofNat_le.mpr h7⟩
theorem y_nat (h : 0 ≤ x.toInt) : x.toInt = (x.toBitVec.toNat : Int) ∧ x.toBitVec.toNat < 2 ^ 31 := by
  have h1 : x.toBitVec.toInt = x.toInt := Int32.toInt_toBitVec x
  have h2 := y_hi x
  have h3 := BitVec.isLt x.toBitVec
  have h4 : x.toBitVec.toInt = if 2 * x.toBitVec.toNat < 2 ^ 32 then (x.toBitVec.toNat : Int) else (x.toBitVec.toNat : Int) - (2 ^ 32 : Nat) := BitVec.toInt_eq_toNat_cond _
  rw [h1] at h4
  split at h4
  · exact ⟨h4, by omega⟩
  · exfalso
    have h5 : ((2 ^ 32 : Nat) : Int) = 4294967296 := rfl
    rw [h5] at h4
    omega
theorem y_ofnat {z : Int32} {n : Nat} (h : z.toBitVec.toNat = n) (hn : n < 2 ^ 31) : z.toInt = (n : Int) := by
  rw [← Int32.toInt_toBitVec, BitVec.toInt_eq_toNat_of_lt (by rw [h]; omega), h]
theorem y_andI (h : 0 ≤ y.toInt) : 0 ≤ (x &&& y).toInt ∧ (x &&& y).toInt ≤ y.toInt := by
  obtain ⟨h1, h2⟩ := y_nat h
  have h3 : (x &&& y).toBitVec.toNat = x.toBitVec.toNat &&& y.toBitVec.toNat := BitVec.toNat_and _ _
  have h4 : x.toBitVec.toNat &&& y.toBitVec.toNat ≤ y.toBitVec.toNat := Nat.and_le_right
  rw [y_ofnat h3 (by omega), h1]
  omega
theorem y_and_comm : x &&& y = y &&& x := Int32.and_comm x y
def y_an (e : YE) (a b : YI) : YQ := y_bb e a b fun p q => match decide (0 ≤ q.1) with
  | true => .inr (0, q.2)
  | false => y_ck (decide (0 ≤ p.1)) (.inr (0, p.2))
theorem y_an_ok (hE : y_E ρ e) (ha : y_is ρ a x.toInt) (hb : y_is ρ b y.toInt) : y_q ρ (y_an e a b) (x &&& y).toInt := by
  refine y_bb_ok hE ha hb fun p q g1 g2 g3 g4 => ?_
  cases h0 : decide (0 ≤ q.1) with
  | true =>
    have h0 := of_decide_eq_true h0
    obtain ⟨h1, h2⟩ := y_andI (x := x) (y := y) (by omega)
    show 0 ≤ (x &&& y).toInt ∧ (x &&& y).toInt ≤ q.2
    omega
  | false =>
    refine y_ck_ok fun h3 => ?_
    have h3 := of_decide_eq_true h3
    obtain ⟨h1, h2⟩ := y_andI (x := y) (y := x) (by omega)
    rw [y_and_comm] at h1 h2
    show 0 ≤ (x &&& y).toInt ∧ (x &&& y).toInt ≤ p.2
    omega
/-- the least of some powers of two above a number -/
def y_pw (h : Int) : List Nat → Option Nat
  | [] => none
  | k :: l => match decide (h < ((2 ^ k : Nat) : Int)) with | true => some k | false => y_pw h l
theorem y_pw_ok {h : Int} : ∀ {l : List Nat} {k : Nat}, y_pw h l = some k → h < ((2 ^ k : Nat) : Int) ∧ k ∈ l
  | [], _, q => by cases q
  | n :: l, k, q => by
    unfold y_pw at q
    cases h1 : decide (h < ((2 ^ n : Nat) : Int)) with
    | true =>
      rw [h1] at q
      cases q
      exact ⟨of_decide_eq_true h1, List.mem_cons_self⟩
    | false =>
      rw [h1] at q
      obtain ⟨h2, h3⟩ := y_pw_ok (l := l) q
      exact ⟨h2, List.mem_cons_of_mem _ h3⟩
def y_pws : List Nat := [1, 2, 3, 4, 5, 6, 7, 8, 10, 20, 30]
def y_ox (e : YE) (a b : YI) : YQ := y_bb e a b fun p q => y_ck (decide (0 ≤ p.1) && decide (0 ≤ q.1)) (match y_pw (max p.2 q.2) y_pws with
  | some k => .inr (0, ((2 ^ k : Nat) : Int) - 1)
  | none => y_tp)
theorem y_ox_lt {k : Nat} (hk : k ∈ y_pws) : k ≤ 30 := by
  revert hk
  revert k
  decide
theorem y_ox_ok {z : Int32} {f : Nat → Nat → Nat} (hf : ∀ m n k, m < 2 ^ k → n < 2 ^ k → f m n < 2 ^ k) (hz : z.toBitVec.toNat = f x.toBitVec.toNat y.toBitVec.toNat) (hE : y_E ρ e) (ha : y_is ρ a x.toInt) (hb : y_is ρ b y.toInt) : y_q ρ (y_ox e a b) z.toInt := by
  refine y_bb_ok hE ha hb fun p q g1 g2 g3 g4 => y_ck_ok fun h3 => ?_
  obtain ⟨h3, h4⟩ := qa_and h3
  have h3 := of_decide_eq_true h3
  have h4 := of_decide_eq_true h4
  cases h5 : y_pw (max p.2 q.2) y_pws with
  | none => exact y_tp_ok _
  | some k =>
    obtain ⟨h6, h7⟩ := y_pw_ok h5
    have h8 := y_ox_lt h7
    obtain ⟨u1, u2⟩ := y_nat (x := x) (by omega)
    obtain ⟨u3, u4⟩ := y_nat (x := y) (by omega)
    have m1 : x.toBitVec.toNat < 2 ^ k := Int.ofNat_lt.mp (by omega)
    have m2 : y.toBitVec.toNat < 2 ^ k := Int.ofNat_lt.mp (by omega)
    have h9 := hf _ _ _ m1 m2
    have h10 : 2 ^ k ≤ 2 ^ 30 := Nat.pow_le_pow_right (by decide) h8
    rw [y_ofnat hz (by omega)]
    show (0 : Int) ≤ _ ∧ _ ≤ ((2 ^ k : Nat) : Int) - 1
    have h11 := Int.ofNat_lt.mpr h9
    exact ⟨Int.natCast_nonneg _, by omega⟩
theorem y_orx_ok (hE : y_E ρ e) (ha : y_is ρ a x.toInt) (hb : y_is ρ b y.toInt) : y_q ρ (y_ox e a b) (x ||| y).toInt :=
  y_ox_ok (f := fun m n => m ||| n) (fun _ _ _ => Nat.or_lt_two_pow) (BitVec.toNat_or _ _) hE ha hb
theorem y_xox_ok (hE : y_E ρ e) (ha : y_is ρ a x.toInt) (hb : y_is ρ b y.toInt) : y_q ρ (y_ox e a b) (x ^^^ y).toInt :=
  y_ox_ok (f := fun m n => m ^^^ n) (fun _ _ _ => Nat.xor_lt_two_pow) (BitVec.toNat_xor _ _) hE ha hb
def y_mx (e : YE) (a b : YI) : YQ := y_bb e a b fun p q => .inr (max p.1 q.1, max p.2 q.2)
theorem y_mx_ok (hE : y_E ρ e) (ha : y_is ρ a x.toInt) (hb : y_is ρ b y.toInt) : y_q ρ (y_mx e a b) (qa_max x y).toInt := by
  refine y_bb_ok hE ha hb fun p q g1 g2 g3 g4 => ?_
  show max p.1 q.1 ≤ (qa_max x y).toInt ∧ (qa_max x y).toInt ≤ max p.2 q.2
  unfold qa_max
  split
  · rename_i h
    have h := Int32.lt_iff_toInt_lt.mp h
    omega
  · rename_i h
    have h : ¬ x.toInt < y.toInt := fun q => h (Int32.lt_iff_toInt_lt.mpr q)
    omega
def y_mi (e : YE) (a b : YI) : YQ := y_bb e a b fun p q => .inr (min p.1 q.1, min p.2 q.2)
theorem y_mi_ok (hE : y_E ρ e) (ha : y_is ρ a x.toInt) (hb : y_is ρ b y.toInt) : y_q ρ (y_mi e a b) (qa_min x y).toInt := by
  refine y_bb_ok hE ha hb fun p q g1 g2 g3 g4 => ?_
  show min p.1 q.1 ≤ (qa_min x y).toInt ∧ (qa_min x y).toInt ≤ min p.2 q.2
  unfold qa_min
  split
  · rename_i h
    have h := Int32.lt_iff_toInt_lt.mp h
    omega
  · rename_i h
    have h : ¬ y.toInt < x.toInt := fun q => h (Int32.lt_iff_toInt_lt.mpr q)
    omega
theorem y_shrk : ∀ k : Nat, k < 32 → ((Int32.ofNat k &&& 31).toBitVec.smod 32).toNat = k := by decide +kernel
theorem y_shrI {k : Nat} (hk : k < 32) : (x >>> (Int32.ofNat k &&& 31)).toInt = x.toInt / ((2 ^ k : Nat) : Int) := by
  rw [← Int32.toInt_toBitVec, Int32.toBitVec_shiftRight, BitVec.toInt_sshiftRight', y_shrk k hk, Int.shiftRight_eq_div_pow, Int32.toInt_toBitVec]
def y_sr (e : YE) (a b : YI) : YQ := y_bb e a b fun p q => y_ck ((decide (0 ≤ p.1) && decide (0 ≤ q.1)) && decide (q.2 ≤ 31)) (.inr (p.1 / ((2 ^ q.2.toNat : Nat) : Int), p.2))
theorem y_sr_ok (hE : y_E ρ e) (ha : y_is ρ a x.toInt) (hb : y_is ρ b y.toInt) : y_q ρ (y_sr e a b) (x >>> (y &&& 31)).toInt := by
  refine y_bb_ok hE ha hb fun p q g1 g2 g3 g4 => y_ck_ok fun h3 => ?_
  obtain ⟨h3, h5⟩ := qa_and h3
  obtain ⟨h3, h4⟩ := qa_and h3
  have h3 := of_decide_eq_true h3
  have h4 := of_decide_eq_true h4
  have h5 := of_decide_eq_true h5
  have hy : y = Int32.ofNat y.toInt.toNat := by
    apply Int32.toInt_inj.mp
    rw [Int32.toInt_ofNat_of_lt (by omega)]
    omega
  have h6 := y_shrI (x := x) (k := y.toInt.toNat) (by omega)
  rw [← hy] at h6
  show p.1 / ((2 ^ q.2.toNat : Nat) : Int) ≤ (x >>> (y &&& 31)).toInt ∧ (x >>> (y &&& 31)).toInt ≤ p.2
  rw [h6]
  obtain ⟨X, hX⟩ : ∃ X : Nat, x.toInt = (X : Int) := ⟨x.toInt.toNat, by omega⟩
  obtain ⟨P, hP⟩ : ∃ P : Nat, p.1 = (P : Int) := ⟨p.1.toNat, by omega⟩
  have h7 : 2 ^ y.toInt.toNat ≤ 2 ^ q.2.toNat := Nat.pow_le_pow_right (by decide) (by omega)
  have h8 : 0 < 2 ^ y.toInt.toNat := Nat.two_pow_pos _
  have h9 : P / 2 ^ q.2.toNat ≤ X / 2 ^ y.toInt.toNat := Nat.div_le_div (by omega) h7 (by omega)
  have h10 : X / 2 ^ y.toInt.toNat ≤ X := Nat.div_le_self _ _
  rw [hX, hP, ← Int.natCast_ediv, ← Int.natCast_ediv]
  omega
def y_i2c (e : YE) (a : YI) : YQ := y_b1 e a fun p => y_ck (decide (0 ≤ p.1) && decide (p.2 ≤ 65535)) (.inl a)
theorem y_i2c_ok (hE : y_E ρ e) (ha : y_is ρ a x.toInt) : y_q ρ (y_i2c e a) ((x.toUInt32 % 65536).toInt32).toInt := by
  refine y_b1_ok hE ha fun p g1 g2 => y_ck_ok fun h3 => ?_
  obtain ⟨h3, h4⟩ := qa_and h3
  have h3 := of_decide_eq_true h3
  have h4 := of_decide_eq_true h4
  obtain ⟨u1, u2⟩ := y_nat (x := x) (by omega)
  have h5 : ((x.toUInt32 % 65536).toInt32).toBitVec.toNat = x.toBitVec.toNat % 65536 := by
    show (x.toUInt32 % 65536).toNat = _
    rw [UInt32.toNat_mod]
    rfl
  have h6 : x.toBitVec.toNat % 65536 = x.toBitVec.toNat := Nat.mod_eq_of_lt (by omega)
  rw [h6] at h5
  show y_is ρ a _
  rw [y_ofnat h5 u2, ← u1]
  exact ha
/-! what a compare tells -/
theorem y_pair {e1 : YE} {P : YE → Option YE} (h : y_E ρ e1) (hP : y_E ρ e1 → ∃ e', P e1 = some e' ∧ y_E ρ e') : ∃ e', P e1 = some e' ∧ y_E ρ e' := hP h
def y_th (o : Option YE) (K : YE → Option YE) : Option YE := match o with | none => none | some e => K e
theorem y_th_ok {o : Option YE} {K : YE → Option YE} (h : ∃ e', o = some e' ∧ y_E ρ e') (hK : ∀ e', y_E ρ e' → ∃ e2, K e' = some e2 ∧ y_E ρ e2) : ∃ e', y_th o K = some e' ∧ y_E ρ e' := by
  obtain ⟨e', rfl, h1⟩ := h
  exact hK e' h1
def y_two (e : YE) (a b : YI) (K : ZI → ZI → Option YE) : Option YE := match y_bd e a, y_bd e b with
  | some p, some q => K p q
  | _, _ => some e
theorem y_two_ok {v w : Int} {K : ZI → ZI → Option YE} (hE : y_E ρ e) (ha : y_is ρ a v) (hb : y_is ρ b w) (h : ∀ p q : ZI, p.1 ≤ v → v ≤ p.2 → q.1 ≤ w → w ≤ q.2 → ∃ e', K p q = some e' ∧ y_E ρ e') : ∃ e', y_two e a b K = some e' ∧ y_E ρ e' := by
  unfold y_two
  cases h1 : y_bd e a with
  | none => exact ⟨e, rfl, hE⟩
  | some p => cases h2 : y_bd e b with
    | none => exact ⟨e, rfl, hE⟩
    | some q =>
      obtain ⟨g1, g2⟩ := y_bd_ok hE ha h1
      obtain ⟨g3, g4⟩ := y_bd_ok hE hb h2
      exact h p q g1 g2 g3 g4
def y_ltE (e : YE) (a b : YI) : Option YE := y_two e a b fun p q => y_th (y_up e a (q.2 - 1)) fun e => y_dn e b (p.1 + 1)
def y_leE (e : YE) (a b : YI) : Option YE := y_two e a b fun p q => y_th (y_up e a q.2) fun e => y_dn e b p.1
def y_eqE (e : YE) (a b : YI) : Option YE := y_two e a b fun p q => y_th (y_up e a q.2) fun e => y_th (y_dn e a q.1) fun e => y_th (y_up e b p.2) fun e => y_dn e b p.1
def y_neE (e : YE) (a b : YI) : Option YE := y_two e a b fun p q => match decide (q.1 = q.2) && decide (p.1 = q.1) with
  | true => y_dn e a (p.1 + 1)
  | false => match decide (q.1 = q.2) && decide (p.2 = q.1) with
    | true => y_up e a (p.2 - 1)
    | false => some e
theorem y_ltE_ok {v w : Int} (hE : y_E ρ e) (ha : y_is ρ a v) (hb : y_is ρ b w) (h : v < w) : ∃ e', y_ltE e a b = some e' ∧ y_E ρ e' :=
  y_two_ok hE ha hb fun p q g1 g2 g3 g4 => y_th_ok (y_up_ok hE ha (by omega)) fun e' h1 => y_dn_ok h1 hb (by omega)
theorem y_leE_ok {v w : Int} (hE : y_E ρ e) (ha : y_is ρ a v) (hb : y_is ρ b w) (h : v ≤ w) : ∃ e', y_leE e a b = some e' ∧ y_E ρ e' :=
  y_two_ok hE ha hb fun p q g1 g2 g3 g4 => y_th_ok (y_up_ok hE ha (by omega)) fun e' h1 => y_dn_ok h1 hb (by omega)
theorem y_eqE_ok {v w : Int} (hE : y_E ρ e) (ha : y_is ρ a v) (hb : y_is ρ b w) (h : v = w) : ∃ e', y_eqE e a b = some e' ∧ y_E ρ e' :=
  y_two_ok hE ha hb fun p q g1 g2 g3 g4 => y_th_ok (y_up_ok hE ha (by omega)) fun e' h1 => y_th_ok (y_dn_ok h1 ha (by omega)) fun e2 h2 => y_th_ok (y_up_ok h2 hb (by omega)) fun e3 h3 => y_dn_ok h3 hb (by omega)
theorem y_neE_ok {v w : Int} (hE : y_E ρ e) (ha : y_is ρ a v) (hb : y_is ρ b w) (h : v ≠ w) : ∃ e', y_neE e a b = some e' ∧ y_E ρ e' := by
  refine y_two_ok hE ha hb fun p q g1 g2 g3 g4 => ?_
  cases h1 : (decide (q.1 = q.2) && decide (p.1 = q.1)) with
  | true =>
    obtain ⟨h2, h3⟩ := qa_and h1
    have h2 := of_decide_eq_true h2
    have h3 := of_decide_eq_true h3
    exact y_dn_ok hE ha (by omega)
  | false =>
    dsimp only
    cases h4 : (decide (q.1 = q.2) && decide (p.2 = q.1)) with
    | true =>
      obtain ⟨h2, h3⟩ := qa_and h4
      have h2 := of_decide_eq_true h2
      have h3 := of_decide_eq_true h3
      exact y_up_ok hE ha (by omega)
    | false => exact ⟨e, rfl, hE⟩
def y_cnd (c : ClassFile.Cond) (e : YE) (a b : YI) : Option YE × Option YE := match c with
  | .eq => (y_eqE e a b, y_neE e a b)
  | .ne => (y_neE e a b, y_eqE e a b)
  | .lt => (y_ltE e a b, y_leE e b a)
  | .ge => (y_leE e b a, y_ltE e a b)
  | .gt => (y_ltE e b a, y_leE e a b)
  | .le => (y_leE e a b, y_ltE e b a)
def y_lo2 (o : Option YE) (t : Nat) : List (Nat × YE) := match o with | none => [] | some e => [(t, e)]
theorem y_lo2_mem {o : Option YE} {t : Nat} {K : Nat → YE → Prop} {l : List (Nat × YE)} (h : ∃ e', o = some e' ∧ y_E ρ e') (hK : ∀ q ∈ y_lo2 o t ++ l, y_E ρ q.2 → K q.1 q.2) : ∃ e', y_E ρ e' ∧ K t e' := by
  obtain ⟨e', rfl, h1⟩ := h
  exact ⟨e', h1, hK (t, e') List.mem_cons_self h1⟩
theorem y_lo2_mem2 {o : Option YE} {t : Nat} {K : Nat → YE → Prop} {l : List (Nat × YE)} (h : ∃ e', o = some e' ∧ y_E ρ e') (hK : ∀ q ∈ l ++ y_lo2 o t, y_E ρ q.2 → K q.1 q.2) : ∃ e', y_E ρ e' ∧ K t e' := by
  obtain ⟨e', rfl, h1⟩ := h
  exact ⟨e', h1, hK (t, e') (List.mem_append_right _ List.mem_cons_self) h1⟩
def y_cnl (c : ClassFile.Cond) (e : YE) (a b : YI) (t n : Nat) : List (Nat × YE) := y_lo2 (y_cnd c e a b).1 t ++ y_lo2 (y_cnd c e a b).2 n
theorem y_ne_of {x y : Int32} (h : ¬ x = y) : x.toInt ≠ y.toInt := fun q => h (Int32.toInt_inj.mp q)
theorem y_nlt {x y : Int32} (h : ¬ x < y) : y.toInt ≤ x.toInt := by
  have : ¬ x.toInt < y.toInt := fun q => h (Int32.lt_iff_toInt_lt.mpr q)
  omega
theorem y_cnl_ok {K : Nat → Prop} {c : ClassFile.Cond} {t n : Nat} (hE : y_E ρ e) (ha : y_is ρ a x.toInt) (hb : y_is ρ b y.toInt) (h : ∀ q ∈ y_cnl c e a b t n, y_E ρ q.2 → K q.1) : qa_jmp K (qa_cnd c x y t n).1 (qa_cnd c x y t n).2 := by
  have g1 : ∀ {o : Option YE}, (∃ e', o = some e' ∧ y_E ρ e') → o = (y_cnd c e a b).1 → K t := fun {o} h1 h2 => by
    subst h2
    obtain ⟨_, _, h3⟩ := y_lo2_mem (K := fun q _ => K q) h1 h
    exact h3
  have g2 : ∀ {o : Option YE}, (∃ e', o = some e' ∧ y_E ρ e') → o = (y_cnd c e a b).2 → K n := fun {o} h1 h2 => by
    subst h2
    obtain ⟨_, _, h3⟩ := y_lo2_mem2 (K := fun q _ => K q) h1 h
    exact h3
  cases c
  · exact ⟨fun q => g1 (y_eqE_ok hE ha hb (congrArg Int32.toInt q)) rfl, fun q => g2 (y_neE_ok hE ha hb (y_ne_of q)) rfl⟩
  · exact ⟨fun q => g2 (y_eqE_ok hE ha hb (congrArg Int32.toInt q)) rfl, fun q => g1 (y_neE_ok hE ha hb (y_ne_of q)) rfl⟩
  · exact ⟨fun q => g1 (y_ltE_ok hE ha hb (Int32.lt_iff_toInt_lt.mp q)) rfl, fun q => g2 (y_leE_ok hE hb ha (y_nlt q)) rfl⟩
  · exact ⟨fun q => g2 (y_ltE_ok hE ha hb (Int32.lt_iff_toInt_lt.mp q)) rfl, fun q => g1 (y_leE_ok hE hb ha (y_nlt q)) rfl⟩
  · exact ⟨fun q => g1 (y_ltE_ok hE hb ha (Int32.lt_iff_toInt_lt.mp q)) rfl, fun q => g2 (y_leE_ok hE ha hb (y_nlt q)) rfl⟩
  · exact ⟨fun q => g2 (y_ltE_ok hE hb ha (Int32.lt_iff_toInt_lt.mp q)) rfl, fun q => g1 (y_leE_ok hE ha hb (y_nlt q)) rfl⟩
def y_swl (e : YE) (a : YI) : List (Int32 × Nat) → Nat → List (Nat × YE)
  | [], d => [(d, e)]
  | (k, t) :: l, d => y_lo2 (y_eqE e a (yc k.toInt)) t ++ y_swl e a l d
theorem y_swl_ok {K : Nat → Prop} {d : Nat} (hE : y_E ρ e) (ha : y_is ρ a x.toInt) : ∀ (l : List (Int32 × Nat)), (∀ q ∈ y_swl e a l d, y_E ρ q.2 → K q.1) → qa_jmp K (qa_swl x l) d
  | [], h => h (d, e) List.mem_cons_self hE
  | (k, t) :: l, h => by
    refine ⟨fun q => ?_, fun _ => y_swl_ok hE ha l (fun q hq => h q (List.mem_append_right _ hq))⟩
    obtain ⟨_, _, h3⟩ := y_lo2_mem (K := fun q _ => K q) (y_eqE_ok hE ha (y_is_c hE k.toInt) (congrArg Int32.toInt q)) h
    exact h3
end
