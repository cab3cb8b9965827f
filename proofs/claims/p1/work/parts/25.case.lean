/-! EVERY CALL BUT feed, FROM THE START: by bounds, in the kernel. -/
def z_loc : ZLoc := [some (zR 65 (some 0)), some (zR 0 (some 0)), some (zR 33 (some 0)), some (zR 58 (some 0)), some (zI (z_c 0)), none, none]
def z_t (c : ZI) : ZT := (666, 6845, 40, z_loc, [zI c], ([], []))
def z_one1 (o : ZO) : Bool := match o.1 with | some (.inl a) => decide (a.1 = 1) && decide (a.2 = 1) | _ => false
def z_run (c : ZI) (a : List ZI) : Bool := match qz (z_top :: a) 3000 1200 315 (z_t c) with | some os => os.all z_one1 | none => false
def z_grid : List (List ZI) → List (List ZI)
  | [] => [[]]
  | l :: r => l.flatMap fun a => (z_grid r).map fun q => a :: q
def z_cv : Int → List ZI → Bool
  | _, [] => false
  | lo, a :: l => decide (a.1 = lo) && (decide (2147483647 ≤ a.2) || z_cv (a.2 + 1) l)
def z_case (c : ZI) (g : List (List ZI)) : Bool := g.all (z_cv (-2147483648)) && (z_grid g).all (z_run c)
def z_a : List ZI := [z_top]
def z_pm : List ZI := [(-2147483648, -1), (0, 2147483647)]
def z_sp (b : Nat) : List ZI := (-2147483648, -1) :: (((List.range (b + 1)).map fun i => ((Int.ofNat i, Int.ofNat i) : ZI)) ++ [(Int.ofNat b + 1, 2147483647)])
/-- how each call's script is split -/
def z_how (c : Nat) : List (List ZI) := match c with
  | 1 => [[(-2147483648, -1), (0, 0), (1, 2147483647)]]
  | 2 => [z_sp 2]
  | 3 => [z_sp 5]
  | 4 => [z_pm]
  | 5 => [z_pm]
  | 6 => [z_sp 3, [(-2147483648, -1), (0, 1), (2, 9), (10, 99), (100, 2147483647)]]
  | 7 => [z_pm, z_pm, z_pm]
  | 10 => [z_pm]
  | 14 => [z_pm]
  | 22 => [z_sp 19, [(-2147483648, -2), (-1, -1), (0, 999), (1000, 2147483647)]]
  | 25 => [z_a, z_a, z_a, z_pm, z_pm]
  | 26 => [z_pm]
  | 27 => [z_pm]
  | 28 => [z_pm]
  | 33 => [z_pm]
  | 34 => [z_sp 7]
  | 35 => [z_a, [(-2147483648, 0), (1, 4), (5, 2147483647)]]
  | 41 => [z_sp 7]
  | _ => []
def z_do (c : Nat) : Bool := z_case (Int.ofNat c, Int.ofNat c) (z_how c)
set_option maxRecDepth 100000
theorem z_do_x : z_case (42, 63) [] = true := by decide +kernel
theorem z_do_1 : z_do 1 = true := by decide +kernel
theorem z_do_2 : z_do 2 = true := by decide +kernel
theorem z_do_3 : z_do 3 = true := by decide +kernel
theorem z_do_4 : z_do 4 = true := by decide +kernel
theorem z_do_5 : z_do 5 = true := by decide +kernel
theorem z_do_6 : z_do 6 = true := by decide +kernel
theorem z_do_7 : z_do 7 = true := by decide +kernel
theorem z_do_8 : z_do 8 = true := by decide +kernel
theorem z_do_9 : z_do 9 = true := by decide +kernel
theorem z_do_10 : z_do 10 = true := by decide +kernel
theorem z_do_11 : z_do 11 = true := by decide +kernel
theorem z_do_12 : z_do 12 = true := by decide +kernel
theorem z_do_13 : z_do 13 = true := by decide +kernel
theorem z_do_14 : z_do 14 = true := by decide +kernel
theorem z_do_15 : z_do 15 = true := by decide +kernel
theorem z_do_16 : z_do 16 = true := by decide +kernel
theorem z_do_17 : z_do 17 = true := by decide +kernel
theorem z_do_18 : z_do 18 = true := by decide +kernel
theorem z_do_19 : z_do 19 = true := by decide +kernel
theorem z_do_20 : z_do 20 = true := by decide +kernel
theorem z_do_21 : z_do 21 = true := by decide +kernel
theorem z_do_22 : z_do 22 = true := by decide +kernel
theorem z_do_23 : z_do 23 = true := by decide +kernel
theorem z_do_24 : z_do 24 = true := by decide +kernel
theorem z_do_25 : z_do 25 = true := by decide +kernel
theorem z_do_26 : z_do 26 = true := by decide +kernel
theorem z_do_27 : z_do 27 = true := by decide +kernel
theorem z_do_28 : z_do 28 = true := by decide +kernel
theorem z_do_29 : z_do 29 = true := by decide +kernel
theorem z_do_30 : z_do 30 = true := by decide +kernel
theorem z_do_31 : z_do 31 = true := by decide +kernel
theorem z_do_32 : z_do 32 = true := by decide +kernel
theorem z_do_33 : z_do 33 = true := by decide +kernel
theorem z_do_34 : z_do 34 = true := by decide +kernel
theorem z_do_35 : z_do 35 = true := by decide +kernel
theorem z_do_36 : z_do 36 = true := by decide +kernel
theorem z_do_37 : z_do 37 = true := by decide +kernel
theorem z_do_38 : z_do 38 = true := by decide +kernel
theorem z_do_39 : z_do 39 = true := by decide +kernel
theorem z_do_40 : z_do 40 = true := by decide +kernel
theorem z_do_41 : z_do 41 = true := by decide +kernel
