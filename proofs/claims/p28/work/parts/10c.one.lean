/-! One step. -/
section QSTEP3
variable {p : Program} {l : Launch} {e : Env} {R : Room} {s : State} {m : MethodId} {args : Array Value} {below : List Frame} {meth : Method} {c : Code} {QF : State → Prop} {z : qa_S} {ph : Bool} {mi mc ms n0 : Nat}
variable {X : Nat → Nat → Nat → LLoc → LStk → LMem → Prop} {C : Nat → List LV → LMem → LPost → Prop} {Q : LPost}
/-- ONE STEP -/
theorem qa_step (hF : qa_F z ph mi p R s m args meth c mc ms n0) (hM : qa_HM z ph l R C) (hI : qa_HI z ph mi p l e R s m args below meth c C) {ins : Instr} {x : List Nat} {v : Int32} {u : Int64} {bc bs pc : Nat} {loc : LLoc} {st : LStk} {w : LMem} (hc : qa_chk mi pc (ins, x, v, u) = true)
    (hX : ∀ bc bs pc loc st w, X bc bs pc loc st w → qa_G z ph mi mc ms n0 p l e R s m args below meth c QF bc bs pc loc st w) (hret : qa_isret ins = false)
    (h : qa_sem X C Q (qa_ins ph mi bc bs (ins, x, v, u) pc loc st w)) : qa_G z ph mi mc ms n0 p l e R s m args below meth c QF bc bs pc loc st w := by
  cases ins
  case iadd => exact qa_stp_iadd hF hc hX h
  case isub => exact qa_stp_isub hF hc hX h
  case imul => exact qa_stp_imul hF hc hX h
  case iand => exact qa_stp_iand hF hc hX h
  case ior => exact qa_stp_ior hF hc hX h
  case ixor => exact qa_stp_ixor hF hc hX h
  case ishl => exact qa_stp_ishl hF hc hX h
  case ishr => exact qa_stp_ishr hF hc hX h
  case idiv => exact qa_stp_idiv hF hc hX h
  case irem => exact qa_stp_irem hF hc hX h
  case iushr => exact qa_stp_iushr hF hc hX h
  case ineg => exact qa_stp_ineg hF hc hX h
  case ladd => exact qa_stp_ladd hF hc hX h
  case lsub => exact qa_stp_lsub hF hc hX h
  case lmul => exact qa_stp_lmul hF hc hX h
  case land => exact qa_stp_land hF hc hX h
  case lor => exact qa_stp_lor hF hc hX h
  case ldiv => exact qa_stp_ldiv hF hc hX h
  case lrem => exact qa_stp_lrem hF hc hX h
  case lshl => exact qa_stp_lshl hF hc hX h
  case lushr => exact qa_stp_lushr hF hc hX h
  case lcmp => exact qa_stp_lcmp hF hc hX h
  case i2l => exact qa_stp_i2l hF hc hX h
  case i2c => exact qa_stp_i2c hF hc hX h
  case l2i => exact qa_stp_l2i hF hc hX h
  case aconst_null => exact qa_stp_null hF hc hX h
  case iconst => exact qa_stp_iconst hF hc hX h
  case bipush => exact qa_stp_bipush hF hc hX h
  case sipush => exact qa_stp_sipush hF hc hX h
  case lconst => exact qa_stp_lconst hF hc hX h
  case ldc_w => exact qa_stp_ldc_w hF hc hX h
  case ldc2_w => exact qa_stp_ldc2_w hF hc hX h
  case ldc => exact qa_stp_ldc hF hc hX h
  case iload_n => exact qa_stp_iload_n hF hc hX h
  case iload => exact qa_stp_iload hF hc hX h
  case lload_n => exact qa_stp_lload_n hF hc hX h
  case lload => exact qa_stp_lload hF hc hX h
  case aload_n => exact qa_stp_aload_n hF hc hX h
  case istore_n => exact qa_stp_istore_n hF hc hX h
  case lstore_n => exact qa_stp_lstore_n hF hc hX h
  case astore_n => exact qa_stp_astore_n hF hc hX h
  case aload => exact qa_stp_aload hF hc hX h
  case istore => exact qa_stp_istore hF hc hX h
  case lstore => exact qa_stp_lstore hF hc hX h
  case astore => exact qa_stp_astore hF hc hX h
  case iinc => exact qa_stp_iinc hF hc hX h
  case dup => exact qa_stp_dup hF hc hX h
  case pop => exact qa_stp_pop hF hc hX h
  case dup2 => exact qa_stp_dup2 hF hc hX h
  case goto => exact qa_stp_goto hF hc hX h
  case ifCond => exact qa_stp_ifc hF hc hX h
  case if_icmp => exact qa_stp_icmp hF hc hX h
  case ifnull => exact qa_stp_ifnull hF hc hX h
  case ifnonnull => exact qa_stp_ifnonnull hF hc hX h
  case tableswitch => exact qa_stp_tsw hF hc hX h
  case lookupswitch => exact qa_stp_lsw hF hc hX h
  case iaload => exact qa_stp_iaload hF hc hX h
  case laload => exact qa_stp_laload hF hc hX h
  case aaload => exact qa_stp_aaload hF hc hX h
  case arraylength => exact qa_stp_alen hF hc hX h
  case iastore => exact qa_stp_iastore hF hc hX h
  case lastore => exact qa_stp_lastore hF hc hX h
  case getfield => exact qa_stp_getfield hF hc hX h
  case getstatic => exact qa_stp_getstatic hF hc hX h
  case putfield => exact qa_stp_putfield hF hc hX h
  case invokevirtual => exact qa_stp_virt hF hM hI hc hX h
  case invokestatic => exact qa_stp_stat hF hM hI hc hX h
  case invokespecial => exact qa_stp_spec hF hM hI hc hX h
  case ireturn => cases hret
  case lreturn => cases hret
  case areturn => cases hret
  case return_ => cases hret
  case new => exact qa_stp_new hF hc hX h
  case newarray => exact qa_stp_newarray hF hc hX h
  case anewarray => exact qa_stp_anewarray hF hc hX h
  case multianewarray => exact qa_stp_mna hF hc hX h
  case aastore => exact qa_stp_aastore hF hc hX h
  all_goals exact (qe_no h).elim

end QSTEP3
