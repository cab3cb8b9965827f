/-! notch: the search, the contract. -/
section NO
variable {d bc bs n : Nat} {s : LMem} {Q : LPost}
/-- the search for the end of one row: a witness w lies ahead -/
theorem no_80 {M i f k w : Nat} {most : Int32} {p2 : Int32} {m : LMem} (hn : n ≤ 20) (F : nt_F s m) (hM : M ≤ 6) (hk : k + 1 ≤ M) (hf : f < w) (hw : w ≤ n) (hw1 : nT m (M - k - 1) w ≠ -1) (hw2 : ¬ most < qa_max (nT m (M - k - 1) w) (wrF s f (w - f) 0)) (out : ∀ t, t ≤ n → nT m (M - k - 1) t ≠ -1 → ¬ most < nT m (M - k - 1) t → qW false (d + 3) 304 bc bs 139 [some (lR 33 (some 0)), some (lI (nI M)), some (lI p2), some (lI most), some (lI (nI f)), some (lI (nI k)), some (lI (nI t))] [] m Q) : ∀ z t, t + z = w → f < t → qW false (d + 3) 304 bc bs 80 [some (lR 33 (some 0)), some (lI (nI M)), some (lI p2), some (lI most), some (lI (nI f)), some (lI (nI k)), some (lI (nI t))] [] m Q := by
  intro z
  induction z with
  | zero =>
    intro t ht hft
    have ht : t = w := ht
    subst ht
    have i0 : nI M - nI k - 1 = nI (M - k - 1) := by
      apply Int32.toInt_inj.mp
      have h1 : (nI M - nI k).toInt = (M : Int) - k := by
        rw [y_subI, nI_toInt (by omega), nI_toInt (by omega)]
        · rw [nI_toInt (by omega), nI_toInt (by omega)]; omega
        · rw [nI_toInt (by omega), nI_toInt (by omega)]; omega
      have h2 : (1 : Int32).toInt = 1 := by decide
      rw [y_subI, h1, h2, nI_toInt (by omega)]
      · omega
      · rw [h1, h2]; omega
      · rw [h1, h2]; omega
    have i1 : (21 : Int32) * (nI M - nI k - 1) + nI t = nI (21 * (M - k - 1) + t) := by rw [i0, show (21 : Int32) = nI 21 from rfl, nI_mul, nI_add]
    have v1 : qa_vin ((21 : Int32) * (nI M - nI k - 1) + nI t) 147 := by rw [i1]; exact nI_in (by omega) (by decide)
    have r0 : gI m 57 0 ((21 : Int32) * (nI M - nI k - 1) + nI t).toNatClampNeg = nT m (M - k - 1) t := by rw [i1, nI_clamp (by omega)]
    have w0 : wrF m f (t - f) 0 = wrF s f (t - f) 0 := wrF_nt F _ _ _
    have e1 : ¬ gI m 57 0 ((21 : Int32) * (nI M - nI k - 1) + nI t).toNatClampNeg = -1 := by rw [r0]; exact hw1
    have e2 : ¬ most < qa_max (gI m 57 0 ((21 : Int32) * (nI M - nI k - 1) + nI t).toNatClampNeg) (wrF m f (t - f) 0) := by rw [r0, w0]; exact hw2
    have e3 : ¬ most < nT m (M - k - 1) t := fun c => by
      refine hw2 ?_
      unfold qa_max
      by_cases g : nT m (M - k - 1) t < wrF s f (t - f) 0
      · rw [if_pos g]
        have c := Int32.lt_iff_toInt_lt.mp c
        have g := Int32.lt_iff_toInt_lt.mp g
        exact Int32.lt_iff_toInt_lt.mpr (by omega)
      · rw [if_neg g]
        exact c
    have fin := out t (by omega) hw1 e3
    refine qa_t1_W (cut := [80, 139]) 60 ?_
    refine And.intro v1 (And.intro (fun q => absurd q e1) (fun _ => ?_))
    refine And.intro v1 ?_
    refine h_workOfRow (by omega) (by omega) (Exists.intro _ (And.intro rfl ?_))
    exact And.intro (fun q => absurd q e2) (fun _ => fin)
  | succ z ih =>
    intro t ht hft
    have i0 : nI M - nI k - 1 = nI (M - k - 1) := by
      apply Int32.toInt_inj.mp
      have h1 : (nI M - nI k).toInt = (M : Int) - k := by
        rw [y_subI, nI_toInt (by omega), nI_toInt (by omega)]
        · rw [nI_toInt (by omega), nI_toInt (by omega)]; omega
        · rw [nI_toInt (by omega), nI_toInt (by omega)]; omega
      have h2 : (1 : Int32).toInt = 1 := by decide
      rw [y_subI, h1, h2, nI_toInt (by omega)]
      · omega
      · rw [h1, h2]; omega
      · rw [h1, h2]; omega
    have i1 : (21 : Int32) * (nI M - nI k - 1) + nI t = nI (21 * (M - k - 1) + t) := by rw [i0, show (21 : Int32) = nI 21 from rfl, nI_mul, nI_add]
    have v1 : qa_vin ((21 : Int32) * (nI M - nI k - 1) + nI t) 147 := by rw [i1]; exact nI_in (by omega) (by decide)
    have r0 : gI m 57 0 ((21 : Int32) * (nI M - nI k - 1) + nI t).toNatClampNeg = nT m (M - k - 1) t := by rw [i1, nI_clamp (by omega)]
    have w0 : wrF m f (t - f) 0 = wrF s f (t - f) 0 := wrF_nt F _ _ _
    have go : qW false (d + 3) 304 bc bs 80 [some (lR 33 (some 0)), some (lI (nI M)), some (lI p2), some (lI most), some (lI (nI f)), some (lI (nI k)), some (lI (nI t + 1))] [] m Q := by
      rw [nI_1]
      exact ih (t + 1) (by omega) (by omega)
    refine qa_t1_W (cut := [80, 139]) 60 ?_
    refine And.intro v1 (And.intro (fun _ => go) (fun e => ?_))
    have e : ¬ gI m 57 0 ((21 : Int32) * (nI M - nI k - 1) + nI t).toNatClampNeg = -1 := e
    refine And.intro v1 ?_
    refine h_workOfRow (by omega) (by omega) (Exists.intro _ (And.intro rfl ?_))
    refine And.intro (fun _ => go) (fun c => ?_)
    have c : ¬ most < qa_max (gI m 57 0 ((21 : Int32) * (nI M - nI k - 1) + nI t).toNatClampNeg) (wrF m f (t - f) 0) := c
    rw [r0, w0] at c
    rw [r0] at e
    refine out t (by omega) e (fun c2 => c ?_)
    unfold qa_max
    by_cases g : nT m (M - k - 1) t < wrF s f (t - f) 0
    · rw [if_pos g]
      have c2 := Int32.lt_iff_toInt_lt.mp c2
      have g := Int32.lt_iff_toInt_lt.mp g
      exact Int32.lt_iff_toInt_lt.mpr (by omega)
    · rw [if_neg g]
      exact c2
theorem no_68 {M i : Nat} {most : Int32} {m : LMem} (hn : n ≤ 20) (F : nt_F s m) (D : ∀ a', a' ≤ 6 → ∀ f', f' ≤ n → sh_R s n m a' f') (hM : M ≤ 6) (hi : i < M) (h : ∀ v, Q (some (lI v)) m) : ∀ z k f o6, k + z = i → f ≤ n → nT m (M - k) f ≠ -1 → ¬ most < nT m (M - k) f → qW false (d + 3) 304 bc bs 68 [some (lR 33 (some 0)), some (lI (nI M)), some (lI (nI i)), some (lI most), some (lI (nI f)), some (lI (nI k)), o6] [] m Q := by
  intro z
  induction z with
  | zero =>
    intro k f o6 hk hf h1 h2
    have hk : k = i := hk
    subst hk
    refine qa_t1_W (cut := [68, 80]) 20 ?_
    exact And.intro (fun q => absurd q (nI_nlt (Nat.le_refl _) (by omega))) (fun _ => h _)
  | succ z ih =>
    intro k f o6 hk hf h1 h2
    obtain ⟨w, w1, w2, w3, w4⟩ := (D (M - k) (by omega) f hf).2.1 (by omega) h1
    have st := no_80 (d := d) (bc := bc) (bs := bs) (Q := Q) (i := i) (p2 := nI i) (most := most) hn F hM (show k + 1 ≤ M by omega) w1 w2 w3 (by rw [w4]; exact h2) (fun t t1 t2 t3 => ?_) (w - (f + 1)) (f + 1) (by omega) (by omega)
    · rw [← nI_1] at st
      refine qa_t1_W (cut := [80]) 20 ?_
      exact And.intro (fun _ => st) (fun q => absurd (nI_lt (by omega) (by omega)) q)
    · have go : qW false (d + 3) 304 bc bs 68 [some (lR 33 (some 0)), some (lI (nI M)), some (lI (nI i)), some (lI most), some (lI (nI t)), some (lI (nI k + 1)), some (lI (nI t))] [] m Q := by
        rw [nI_1]
        refine ih (k + 1) t _ (by omega) t1 ?_ ?_
        · rw [show M - (k + 1) = M - k - 1 by omega]
          exact t2
        · rw [show M - (k + 1) = M - k - 1 by omega]
          exact t3
      refine qa_t1_W (cut := [68]) 20 ?_
      exact go
end NO
def yh_X12_notch : YCt := (304, [.inr (.inr (33, (0, 0), (0, 0))), .inl ((-2147483648), 2147483647), .inl ((-2147483648), 2147483647)], ([], []), [(57, 0, 0, 0, 146)], [(some (.inl ((-2147483648), 2147483647)), [])], 10)
theorem h_X12_notch : y_con x_X yh_X12_notch := by
  intro d hd As s Q hA hJ hp hQ
  obtain ⟨v1, r1, rfl, a1, hA⟩ := y_as1 hA
  obtain ⟨v2, r2, rfl, a2, hA⟩ := y_as1 hA
  obtain ⟨v3, r3, rfl, a3, hA⟩ := y_as1 hA
  have e9 := y_as0 hA
  subst e9
  have e1 := y_this (k := 33) (i := 0) a1
  subst e1
  obtain ⟨p1, rfl, -, -⟩ := y_aI a2
  obtain ⟨p2, rfl, -, -⟩ := y_aI a3
  have hd : 10 ≤ d := hd
  obtain ⟨d, rfl⟩ : ∃ d', d = d' + 5 := ⟨d - 5, by omega⟩
  obtain ⟨n, hn, h272⟩ := x_many hJ 48 (Or.inl rfl)
  have fin : ∀ m v, nt_F s m → Q (some (lI v)) m := fun m v F => by
    refine hQ _ m (y_post1 (z_in_top _)) (nt_J hJ F) (fun k i j hn => ⟨F.1 k i j (fun q => hn ?_), F.2.1 k i j, F.2.2 k i j⟩)
    obtain ⟨rfl, rfl, q⟩ := q
    exact ⟨_, List.mem_cons_self, rfl, ⟨Int.le_refl _, Int.le_refl _⟩, by show (0 : Int) ≤ (j : Int); omega, by show (j : Int) ≤ 146; omega⟩
  have m1 : (-1 : Int32).toInt = -1 := by decide
  have o1 : (1 : Int32).toInt = 1 := by decide
  have no := fin s (-1) nt_0
  refine qC_of rfl rfl ?_
  refine qa_t1_W (cut := [68]) 100 ?_
  refine And.intro (fun _ => no) (fun _ => ?_)
  refine And.intro (nI_in (c := 272) (N := 279) (by decide) (by decide)) ?_
  refine h_in (fun g1 g2 => Exists.intro 1 (And.intro rfl ?_)) (fun _ => Exists.intro 0 (And.intro rfl (And.intro (fun _ => no) (fun q => absurd rfl q))))
  refine And.intro (fun q => absurd q (by decide)) (fun _ => ?_)
  refine h_in (fun g3 g4 => Exists.intro 1 (And.intro rfl ?_)) (fun _ => Exists.intro 0 (And.intro rfl (And.intro (fun _ => no) (fun q => absurd rfl q))))
  refine And.intro (fun q => absurd q (by decide)) (fun _ => ?_)
  have g1 : (1 : Int32).toInt ≤ p1.toInt := g1
  have g2 : p1.toInt ≤ (qa_min (6 : Int32) (gI s 48 0 272)).toInt := g2
  have g3 : (-1 : Int32).toInt ≤ p2.toInt := g3
  have g4 : p2.toInt ≤ (p1 - 1).toInt := g4
  rw [o1] at g1
  rw [h272] at g2
  rw [m1] at g3
  have hmin : p1.toInt ≤ 6 ∧ p1.toInt ≤ n := by
    unfold qa_min at g2
    have t6 : (6 : Int32).toInt = 6 := by decide
    have tn : (nI n).toInt = n := nI_toInt (by omega)
    have cmp : ∀ a b : Int32, (a < b ↔ a.toInt < b.toInt) := fun a b => Int32.lt_iff_toInt_lt
    split at g2 <;> rename_i c <;> (rw [cmp, t6, tn] at c; first | rw [t6] at g2 | rw [tn] at g2) <;> omega
  obtain ⟨M, hM, eM⟩ := y_nIof2 (N := 6) (x := p1) (by omega) hmin.1
  subst eM
  rw [nI_toInt (by omega)] at g1 hmin
  refine h_share hn h272 fun m F D => And.intro rfl ?_
  have i1 : (21 : Int32) * nI M = nI (21 * M) := by rw [show (21 : Int32) = nI 21 from rfl, nI_mul]
  have v1 : qa_vin ((21 : Int32) * nI M) 147 := by rw [i1]; exact nI_in (by omega) (by decide)
  have r0 : gI m 57 0 ((21 : Int32) * nI M).toNatClampNeg = nT m M 0 := by rw [i1, nI_clamp (by omega)]; rfl
  refine And.intro v1 ?_
  refine And.intro (fun _ => fin m _ F) (fun e => ?_)
  have e : ¬ p2 = -1 := e
  rw [x_sub1' (by omega) (by omega)] at g4
  obtain ⟨i, hi, ei⟩ := y_nIof2 (N := M - 1) (x := p2) (by
    rcases Int.lt_or_le p2.toInt 0 with c | c
    · exact absurd (Int32.toInt_inj.mp (by rw [m1]; omega)) e
    · exact c) (by omega)
  subst ei
  have st : ∀ x, x = nT m M 0 → qW false (d + 4) 304 0 0 68 [some (lR 33 (some 0)), some (lI (nI M)), some (lI (nI i)), some (lI x), some (lI (nI 0)), some (lI (nI 0)), none] [] m Q := fun x ex => by
    subst ex
    refine no_68 (d := d + 1) hn F D hM (by omega) (fun v => fin m v F) i 0 0 none (by omega) (Nat.zero_le _) ?_ ?_
    · exact (D M hM 0 (Nat.zero_le _)).2.2.1 (by omega) (by omega)
    · exact fun c => Int.lt_irrefl _ (Int32.lt_iff_toInt_lt.mp c)
  exact st _ r0
