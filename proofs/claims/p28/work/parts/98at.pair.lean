/-! THE PAIR that this part compares. -/
theorem up_sands {a b c : Int32} {s : LMem} (hJ : zV s) : qC false 1200 188 [lR 0 (some 0), lI a, lI b, lI c] s (fun _ m => up s m) := by
  refine qC_mono (fr_con (d := 1200) (s := s) (As := [lR 0 (some 0), lI a, lI b, lI c]) (y_all x_X_cl h_all0 yk_X11_sands (List.mem_of_getElem? (i := 82) rfl)) (by decide) rfl ⟨y_rcv, z_in_top _, z_in_top _, z_in_top _, trivial⟩ hJ.1.1.1.1.1) fun r m q => up_fr (by decide +kernel) q.2
theorem prb_sands {a b c : Int32} {s : LMem} {Q : LPost} (hJ : zV s) (h : ∀ v s1, y_J x_X s1 → (∀ i j, gI s1 65 i j = gI s 65 i j) → (∀ a' b' c', a' = a → b' = b → c' = c → qC false 1200 289 [lR 33 (some 0), lI a', lI b', lI c'] s1 (prb s1 v)) → Q (some (lI v)) s1) : qC false 1200 188 [lR 0 (some 0), lI a, lI b, lI c] s Q := by
  refine qC_mono (pair_of (sd_val hJ) (sfv_X11_sands _ _ _ hJ (fun v m z x => ⟨v, rfl, z, x⟩)) (up_sands hJ) (fun s1 z1 => sfv_X12_sands _ _ _ z1 (fun v m z x => ⟨v, rfl, z, x⟩))) fun r s1 q => ?_
  obtain ⟨v, rfl, J1, X1, c⟩ := q
  exact h v s1 J1 X1 fun a' b' c' ea eb ec => by
    subst ea eb ec
    exact c
