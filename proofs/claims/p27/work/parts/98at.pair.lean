/-! THE PAIR that this part compares. -/
theorem up_falls {n so w f rr b : Int32} {s : LMem} (hJ : zV s) : qC false 1200 187 [lR 0 (some 0), lI n, lI so, lI w, lI f, lI rr, lI b] s (fun _ m => up s m) := by
  refine qC_mono (fr_con (d := 1200) (s := s) (As := [lR 0 (some 0), lI n, lI so, lI w, lI f, lI rr, lI b]) (y_all x_X_cl h_all0 yk_X11_falls (List.mem_of_getElem? (i := 69) rfl)) (by decide) rfl ⟨y_rcv, z_in_top _, z_in_top _, z_in_top _, z_in_top _, z_in_top _, z_in_top _, trivial⟩ hJ.1.1.1.1.1) fun r m q => up_fr (by decide +kernel) q.2
theorem prb_falls {n so w f rr b : Int32} {s : LMem} {Q : LPost} (hJ : zV s) (h : ∀ v s1, y_J x_X s1 → (∀ i j, gI s1 65 i j = gI s 65 i j) → (∀ n' so' w' f' rr' b', n' = n → so' = so → w' = w → f' = f → rr' = rr → b' = b → qC false 1200 286 [lR 33 (some 0), lI n', lI so', lI w', lI f', lI rr', lI b'] s1 (prb s1 v)) → Q (some (lI v)) s1) : qC false 1200 187 [lR 0 (some 0), lI n, lI so, lI w, lI f, lI rr, lI b] s Q := by
  refine qC_mono (pair_of (fa_val hJ) (sfv_X11_falls _ _ _ _ _ _ hJ (fun v m z x => ⟨v, rfl, z, x⟩)) (up_falls hJ) (fun s1 z1 => sfv_X12_falls _ _ _ _ _ _ z1 (fun v m z x => ⟨v, rfl, z, x⟩))) fun r s1 q => ?_
  obtain ⟨v, rfl, J1, X1, c⟩ := q
  exact h v s1 J1 X1 fun n' so' w' f' rr' b' en eso ew ef err eb => by
    subst en eso ew ef err eb
    exact c
