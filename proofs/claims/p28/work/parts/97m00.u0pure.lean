/-! Small ones, stated again. -/
theorem nI_ij {a b : Nat} (ha : a < 2147483648) (hb : b < 2147483648) (h : nI a = nI b) : a = b := by
  have := congrArg Int32.toInt h
  rw [nI_toInt (by omega), nI_toInt (by omega)] at this
  omega
theorem h_rchB {d dd : Nat} {s : LMem} {Q : LPost} (h : Q (some (lI (gI s 4 dd 1))) s) : qC false (d + 1) 1 [lR 4 (some dd)] s Q := by
  refine qC_of rfl rfl ?_
  refine qa_t1_W (cut := []) 10 ?_
  exact h
theorem h_onB {d k r n : Nat} {s : LMem} {Q : LPost} (hk : k < n) (hn2 : n ≤ 30) (hn : gI s 13 r 1 = nI n) (h : Q (some (lI (gI s 14 r k))) s) : qC false (d + 1) 87 [lR 13 (some r), lI (nI k)] s Q := by
  have c0 : ¬ nI k < 0 := nI_nlt (b := 0) (by omega) (by omega)
  have c1 : nI k < gI s 13 r 1 := by rw [hn]; exact nI_lt hk (by omega)
  have c2 : nI k < 30 := nI_lt (b := 30) (by omega) (by decide)
  have fin : Q (some (lI (gI s 14 r (nI k).toNatClampNeg))) s := by
    rw [nI_clamp (by omega)]
    exact h
  refine qC_of rfl rfl ?_
  refine qa_t1_W (cut := []) 40 ?_
  refine And.intro (fun q => absurd q c0) (fun _ => ?_)
  refine And.intro (fun _ => ?_) (fun q => absurd c1 q)
  refine And.intro (fun _ => ?_) (fun q => absurd c2 q)
  exact And.intro (show qa_vin (nI k) 30 from nI_in (by omega) (by decide)) fin
theorem h_dyB {d r : Nat} {s : LMem} {Q : LPost} (h : Q (some (lI (gI s 13 r 1))) s) : qC false (d + 1) 86 [lR 13 (some r)] s Q := by
  refine qC_of rfl rfl ?_
  refine qa_t1_W (cut := []) 10 ?_
  exact h
/-! A DAY as a function: phases on pictures that agree on the rows of a ditch. -/
def eqn (n : Nat) (X Y : Nat → Nat → Int32) : Prop := ∀ f r, 1 ≤ f ∧ f ≤ 14 → r < n → X f r = Y f r
theorem eqn_rf {n : Nat} {X : Nat → Nat → Int32} : eqn n X X := fun _ _ _ _ => rfl
theorem eqn_sy {n : Nat} {X Y : Nat → Nat → Int32} (h : eqn n X Y) : eqn n Y X := fun f r hf hr => (h f r hf hr).symm
theorem eqn_tr {n : Nat} {X Y Z : Nat → Nat → Int32} (h : eqn n X Y) (g : eqn n Y Z) : eqn n X Z := fun f r hf hr => (h f r hf hr).trans (g f r hf hr)
section CG
variable {n : Nat} {X Y : Nat → Nat → Int32} {tide rain silt summer : Int32} {cs : List Cz} {D : Int64}
theorem lev_c (h : eqn n X Y) {r : Nat} (hr : r < n) : lev X r = lev Y r := by
  unfold lev
  rw [h 2 r (by decide) hr, h 3 r (by decide) hr, h 6 r (by decide) hr, h 7 r (by decide) hr]
theorem abv_c (h : eqn n X Y) {r : Nat} (hr : r < n) : abv tide n X r = abv tide n Y r := abv_e (fun f q hf hq => h f q (by omega) hq) hr
theorem ltX_c (h : eqn n X Y) {r : Nat} {a i : Int32} (hr : r < n) : ltX X r a rain i = ltX Y r a rain i := by
  unfold ltX
  rw [h 3 r (by decide) hr, h 6 r (by decide) hr, h 8 r (by decide) hr, h 7 r (by decide) hr, h 1 r (by decide) hr, h 11 r (by decide) hr]
theorem L_c (h : eqn n X Y) {r : Nat} {a : Int32} (hr : r < n) : (fun i => bdV (ltX X r a rain i).toInt64) = (fun i => bdV (ltX Y r a rain i).toInt64) := funext fun i => by rw [ltX_c h hr]
theorem LR_c (h : eqn n X Y) {r : Nat} {a : Int32} (hr : r < n) : (fun i => ltX X r a rain i) = (fun i => ltX Y r a rain i) := funext fun i => ltX_c h hr
theorem p1_c (h : eqn n X Y) : eqn n (p1F rain silt X) (p1F rain silt Y) := fun f r hf hr => by
  unfold p1F
  rw [h 6 r (by decide) hr, h 9 r (by decide) hr, h 14 r (by decide) hr, h f r hf hr]
theorem flF_c (h : eqn n X Y) {r : Nat} (hr : r < n) : flF tide n cs rain X r = flF tide n cs rain Y r := by
  unfold flF
  rw [abv_c h hr, L_c (rain := rain) (a := abv tide n Y r) h hr, h 13 r (by decide) hr, h 6 r (by decide) hr, h 3 r (by decide) hr]
theorem p2_c (h : eqn n X Y) : eqn n (p2F tide n cs rain X) (p2F tide n cs rain Y) := fun f r hf hr => by
  unfold p2F
  rw [flF_c h hr, h f r hf hr]
theorem p3_c (h : eqn n X Y) : eqn n (p3F X) (p3F Y) := fun f r hf hr => by
  unfold p3F
  rw [h 6 r (by decide) hr, h 10 (r - 1) (by decide) (by omega), h 10 r (by decide) hr, h f r hf hr]
theorem goF_c (h : eqn n X Y) {r : Nat} (hr : r < n) : goF X r = goF Y r := by
  unfold goF
  rw [h 10 r (by decide) hr, h 1 r (by decide) hr, h 7 r (by decide) hr, h 9 r (by decide) hr]
theorem p4_c (h : eqn n X Y) : eqn n (p4F X) (p4F Y) := fun f r hf hr => by
  unfold p4F
  rw [goF_c h (show r - 1 < n by omega), h 10 r (by decide) hr, h 1 r (by decide) hr, h 7 r (by decide) hr, h 9 r (by decide) hr, h f r hf hr]
theorem cuA_c (h : eqn n X Y) {c : Int32} : ∀ k, k ≤ n → cuA X c k = cuA Y c k
  | 0, _ => rfl
  | k + 1, hk => by
    show (if X 10 k < slF (X 1 k) then cuA X c k else if fsF (X 1 k) < X 10 k ∧ 0 < X 7 k then cuA X c k + 1 else cuA X c k) = (if Y 10 k < slF (Y 1 k) then cuA Y c k else if fsF (Y 1 k) < Y 10 k ∧ 0 < Y 7 k then cuA Y c k + 1 else cuA Y c k)
    rw [h 10 k (by decide) (by omega), h 1 k (by decide) (by omega), h 7 k (by decide) (by omega), cuA_c h k (by omega)]
theorem p5_c (h : eqn n X Y) : eqn n (p5F tide n cs rain D X) (p5F tide n cs rain D Y) := fun f r hf hr => by
  unfold p5F
  rw [abv_c h hr, L_c (rain := rain) (a := abv tide n Y r) h hr, h 7 r (by decide) hr, h 11 r (by decide) hr, h f r hf hr]
theorem p6_c (h : eqn n X Y) : eqn n (p6F summer X) (p6F summer Y) := fun f r hf hr => by
  unfold p6F
  rw [h 8 r (by decide) hr, h f r hf hr]
theorem p7_c (h : eqn n X Y) : eqn n (p7F X) (p7F Y) := fun f r hf hr => by
  unfold p7F wtF
  rw [lev_c h hr, h 5 r (by decide) hr, h f r hf hr]
theorem hmA_c (h : eqn n X Y) {H : Nat → Int32} {o : Nat} : ∀ k, k ≤ n → hmA X H k o = hmA Y H k o
  | 0, _ => rfl
  | k + 1, hk => by
    show (if X 5 k < lev X k ∧ X 4 k = nI o then hmA X H k o + 1 else hmA X H k o) = (if Y 5 k < lev Y k ∧ Y 4 k = nI o then hmA Y H k o + 1 else hmA Y H k o)
    rw [h 5 k (by decide) (by omega), lev_c h (show k < n by omega), h 4 k (by decide) (by omega), hmA_c h k (by omega)]
theorem hmA_h {H H2 : Nat → Int32} {o : Nat} (e : H o = H2 o) : ∀ k, hmA X H k o = hmA X H2 k o
  | 0 => e
  | k + 1 => by
    show (if X 5 k < lev X k ∧ X 4 k = nI o then hmA X H k o + 1 else hmA X H k o) = (if X 5 k < lev X k ∧ X 4 k = nI o then hmA X H2 k o + 1 else hmA X H2 k o)
    rw [hmA_h e k]
-- fields that a phase leaves
theorem p1_o {f r : Nat} (h6 : f ≠ 6) (h9 : f ≠ 9) : p1F rain silt X f r = X f r := by
  unfold p1F
  rw [if_neg h6, if_neg h9]
theorem p2_o {f r : Nat} (h : f ≠ 10) : p2F tide n cs rain X f r = X f r := by
  unfold p2F
  rw [if_neg h]
theorem p3_o {f r : Nat} (h : f ≠ 6) : p3F X f r = X f r := by
  unfold p3F
  rw [if_neg h]
theorem p4_o {f r : Nat} (h7 : f ≠ 7) (h9 : f ≠ 9) : p4F X f r = X f r := by
  unfold p4F
  rw [if_neg h7, if_neg h9]
theorem p5_o {f r : Nat} (h7 : f ≠ 7) (h11 : f ≠ 11) : p5F tide n cs rain D X f r = X f r := by
  unfold p5F
  rw [if_neg h7, if_neg h11]
theorem p6_o {f r : Nat} (h : f ≠ 8) : p6F summer X f r = X f r := by
  unfold p6F
  rw [if_neg h]
theorem p7_o {f r : Nat} (h : f ≠ 12) : p7F X f r = X f r := by
  unfold p7F
  rw [if_neg h]
end CG
/-- rows, what was cut, harm, draws -/
abbrev PS : Type := (Nat → Nat → Int32) × (Int32 × ((Nat → Int32) × Int64))
/-- tide, silt, summer, how many rows, the law of flow, the law of slips -/
abbrev EV : Type := Int32 × (Int32 × (Int32 × (Nat × (List Cz × Option (List Cz)))))
def rdF (e : EV) (rain : Int32) (S : (Nat → Nat → Int32) × Int32) : (Nat → Nat → Int32) × Int32 := (p4F (p3F (p2F e.1 e.2.2.2.1 e.2.2.2.2.1 rain S.1)), cuA (p3F (p2F e.1 e.2.2.2.1 e.2.2.2.2.1 rain S.1)) S.2 e.2.2.2.1)
def rdN (e : EV) (rain : Int32) : Nat → (Nat → Nat → Int32) × Int32 → (Nat → Nat → Int32) × Int32
  | 0, S => S
  | j + 1, S => rdN e rain j (rdF e rain S)
def slo (tide : Int32) (n : Nat) (rain : Int32) (D : Int64) (X : Nat → Nat → Int32) : Option (List Cz) → Nat → Nat → Int32
  | none => X
  | some c => p5F tide n c rain D X
def sld (n : Nat) (D : Int64) : Option (List Cz) → Int64
  | none => D
  | some _ => dS D n
def slO (e : EV) (rain : Int32) (D : Int64) (X : Nat → Nat → Int32) : Nat → Nat → Int32 := slo e.1 e.2.2.2.1 rain D X e.2.2.2.2.2
def slD (e : EV) (D : Int64) : Int64 := sld e.2.2.2.1 D e.2.2.2.2.2
def dyA (e : EV) (rain : Int32) (P : PS) : (Nat → Nat → Int32) × Int32 := rdN e rain 4 (p1F rain e.2.1 P.1, P.2.1)
def dyC (e : EV) (rain : Int32) (P : PS) : Nat → Nat → Int32 := p6F e.2.2.1 (slO e rain P.2.2.2 (dyA e rain P).1)
def dyF (e : EV) (rain : Int32) (P : PS) : PS := (p7F (dyC e rain P), (dyA e rain P).2, fun o => hmA (dyC e rain P) P.2.2.1 e.2.2.2.1 o, slD e P.2.2.2)
/-- days: by what it rains on each -/
def rnD (e : EV) (w : Nat → Int32) (P : PS) : Nat → PS
  | 0 => P
  | k + 1 => dyF e (w k) (rnD e w P k)
section CD
variable {e : EV} {rain : Int32}
theorem rdF_c {S T : (Nat → Nat → Int32) × Int32} (h : eqn e.2.2.2.1 S.1 T.1) (hc : S.2 = T.2) : eqn e.2.2.2.1 (rdF e rain S).1 (rdF e rain T).1 ∧ (rdF e rain S).2 = (rdF e rain T).2 := by
  have a := p3_c (p2_c (tide := e.1) (cs := e.2.2.2.2.1) (rain := rain) h)
  refine ⟨p4_c a, ?_⟩
  show cuA _ S.2 _ = cuA _ T.2 _
  rw [hc]
  exact cuA_c a _ (Nat.le_refl _)
theorem slo_c {tide : Int32} {n : Nat} {D : Int64} {X Y : Nat → Nat → Int32} (h : eqn n X Y) : ∀ so, eqn n (slo tide n rain D X so) (slo tide n rain D Y so)
  | none => h
  | some _ => p5_c h
theorem slO_c {D : Int64} {X Y : Nat → Nat → Int32} (h : eqn e.2.2.2.1 X Y) : eqn e.2.2.2.1 (slO e rain D X) (slO e rain D Y) := slo_c h _
/-- fields that are told -/
def tfl (f : Nat) : Prop := f ≤ 5 ∨ f = 13 ∨ f = 14
theorem rd_o {f r : Nat} (hf : tfl f) {S : (Nat → Nat → Int32) × Int32} : (rdF e rain S).1 f r = S.1 f r := by
  unfold tfl at hf
  show p4F (p3F (p2F _ _ _ _ S.1)) f r = _
  rw [p4_o (by omega) (by omega), p3_o (by omega), p2_o (by omega)]
theorem rdN_o {f r : Nat} (hf : tfl f) : ∀ j S, (rdN e rain j S).1 f r = S.1 f r
  | 0, _ => rfl
  | j + 1, S => (rdN_o hf j (rdF e rain S)).trans (rd_o hf)
theorem slo_o {tide : Int32} {n f r : Nat} {D : Int64} {X : Nat → Nat → Int32} (hf : tfl f) : ∀ so, slo tide n rain D X so f r = X f r
  | none => rfl
  | some _ => by
    unfold tfl at hf
    exact p5_o (by omega) (by omega)
theorem slO_o {f r : Nat} {D : Int64} {X : Nat → Nat → Int32} (hf : tfl f) : slO e rain D X f r = X f r := slo_o hf _
theorem dyC_o {f r : Nat} {P : PS} (hf : tfl f) : dyC e rain P f r = P.1 f r := by
  have hf2 := hf
  unfold tfl at hf2
  unfold dyC
  rw [p6_o (by omega), slO_o hf]
  exact (rdN_o hf 4 _).trans (p1_o (by omega) (by omega))
theorem dyF_o {f r : Nat} {P : PS} (hf : tfl f) : (dyF e rain P).1 f r = P.1 f r := by
  have hf2 := hf
  unfold tfl at hf2
  show p7F _ f r = _
  rw [p7_o (by omega), dyC_o hf]
theorem rnD_o {f r : Nat} {w : Nat → Int32} {P : PS} (hf : tfl f) : ∀ k, (rnD e w P k).1 f r = P.1 f r
  | 0 => rfl
  | k + 1 => (dyF_o hf).trans (rnD_o hf k)
end CD
