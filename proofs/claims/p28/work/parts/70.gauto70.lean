theorem g_all {X : LMem → Prop} (hX : y_cl X) (h : ∀ ct ∈ gL_0, y_con X ct) : ∀ ct ∈ gL_2, y_con X ct := gl_2 hX (gl_1 hX (h))
