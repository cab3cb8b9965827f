theorem e_all {X : LMem → Prop} (hX : y_cl X) (h : ∀ ct ∈ eL_0, y_con X ct) : ∀ ct ∈ eL_2, y_con X ct := el_2 hX (el_1 hX (h))
