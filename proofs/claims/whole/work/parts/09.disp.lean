theorem xst_in {V : xV} {j pc : Nat} {lv : xL} {st : List Value} {h : xH} {r : xA} (hs : xst V j pc lv st h = some r) : ∃ i len, decode (xcd j) pc = .ok (i, len) ∧ xdec j pc = some (i, len) ∧ (xln i = 0 ∨ len = xln i) ∧ xin V j pc lv st h i = some r := by
  unfold xst at hs
  split at hs
  next i len q =>
    split at hs
    next qb =>
      refine ⟨i, len, xdec_ok q, q, ?_, hs⟩
      simp only [Bool.or_eq_true] at qb
      rcases qb with q1 | q1
      · exact Or.inl (Nat.eq_of_beq_eq_true q1)
      · exact Or.inr (Nat.eq_of_beq_eq_true q1)
    next => cases hs
  next => cases hs
theorem xcal_r {j k : Nat} {st : List Value} {x : xN} (h : xcal j k st = some (.inl x)) : False := by
  unfold xcal at h
  split at h <;> cases h
theorem xcaV_r {j k : Nat} {st : List Value} {x : xN} (h : xcaV j k st = some (.inl x)) : False := by
  unfold xcaV at h
  split at h <;> cases h
theorem xcv_r {j k : Nat} {st : List Value} {g : xH} {x : xN} (h : xcv j k st g = some (.inl x)) : False := by
  unfold xcv at h
  split at h
  next => (split at h
           next => (split at h
                    next => exact xcaV_r h
                    next => cases h)
           next => cases h)
  next => cases h
theorem xcI_r {j k : Nat} {st : List Value} {x : xN} (h : xcI j k st = some (.inl x)) : False := by
  unfold xcI at h
  split at h
  next => exact xcal_r h
  next => cases h
section XD
variable {p : Program} {l : Launch} {e : Env} {R : Room} {s : State} {m : MethodId} {args : Array Value} {below : List Frame} {meth : Method} {c : Code} {Q : State → Prop}
variable {pc j n0 c0 k0 pc' : Nat} {st st' : List Value} {D : va_G} {cy : Nat → ClassId} {V : xV} {h h' : xH} {lv lv' : xL}
theorem xnext (C : xc p R s m args meth c V D cy n0 j) (hs : xst V j pc lv st h = some (.inl (pc', lv', st', h'))) (hR : h'.2.2.1 - c0 ≤ R.cells ∧ h'.2.2.2 - k0 ≤ R.slots) (K : xgo p l e R s m args below meth c Q D cy n0 c0 k0 j pc' lv' st' h') : xgo p l e R s m args below meth c Q D cy n0 c0 k0 j pc lv st h := by
  obtain ⟨i, len, hd, -, hln, hs⟩ := xst_in hs
  cases i
  case aconst_null => rcases hln with q | q; (· cases q); subst q; exact xn_aconst_null C hd hs K
  case aload_n => rcases hln with q | q; (· cases q); subst q; exact xn_aload_n C hd hs K
  case iload_n => rcases hln with q | q; (· cases q); subst q; exact xn_iload_n C hd hs K
  case lload_n => rcases hln with q | q; (· cases q); subst q; exact xn_lload_n C hd hs K
  case astore_n => rcases hln with q | q; (· cases q); subst q; exact xn_astore_n C hd hs K
  case istore_n => rcases hln with q | q; (· cases q); subst q; exact xn_istore_n C hd hs K
  case lstore_n => rcases hln with q | q; (· cases q); subst q; exact xn_lstore_n C hd hs K
  case iconst => rcases hln with q | q; (· cases q); subst q; exact xn_iconst C hd hs K
  case lconst => rcases hln with q | q; (· cases q); subst q; exact xn_lconst C hd hs K
  case iadd => rcases hln with q | q; (· cases q); subst q; exact xn_iadd C hd hs K
  case isub => rcases hln with q | q; (· cases q); subst q; exact xn_isub C hd hs K
  case imul => rcases hln with q | q; (· cases q); subst q; exact xn_imul C hd hs K
  case iand => rcases hln with q | q; (· cases q); subst q; exact xn_iand C hd hs K
  case ineg => rcases hln with q | q; (· cases q); subst q; exact xn_ineg C hd hs K
  case ladd => rcases hln with q | q; (· cases q); subst q; exact xn_ladd C hd hs K
  case lsub => rcases hln with q | q; (· cases q); subst q; exact xn_lsub C hd hs K
  case lmul => rcases hln with q | q; (· cases q); subst q; exact xn_lmul C hd hs K
  case lneg => rcases hln with q | q; (· cases q); subst q; exact xn_lneg C hd hs K
  case ishr => rcases hln with q | q; (· cases q); subst q; exact xn_ishr C hd hs K
  case lcmp => rcases hln with q | q; (· cases q); subst q; exact xn_lcmp C hd hs K
  case iushr => rcases hln with q | q; (· cases q); subst q; exact xn_iushr C hd hs K
  case lshr => rcases hln with q | q; (· cases q); subst q; exact xn_lshr C hd hs K
  case i2l => rcases hln with q | q; (· cases q); subst q; exact xn_i2l C hd hs K
  case l2i => rcases hln with q | q; (· cases q); subst q; exact xn_l2i C hd hs K
  case i2s => rcases hln with q | q; (· cases q); subst q; exact xn_i2s C hd hs K
  case idiv => rcases hln with q | q; (· cases q); subst q; exact xn_idiv C hd hs K
  case irem => rcases hln with q | q; (· cases q); subst q; exact xn_irem C hd hs K
  case ldiv => rcases hln with q | q; (· cases q); subst q; exact xn_ldiv C hd hs K
  case dup => rcases hln with q | q; (· cases q); subst q; exact xn_dup C hd hs K
  case pop => rcases hln with q | q; (· cases q); subst q; exact xn_pop C hd hs K
  case dup2 => rcases hln with q | q; (· cases q); subst q; exact xn_dup2 C hd hs K
  case arraylength => rcases hln with q | q; (· cases q); subst q; exact xn_arraylength C hd hs K
  case iaload => rcases hln with q | q; (· cases q); subst q; exact xn_iaload C hd hs K
  case laload => rcases hln with q | q; (· cases q); subst q; exact xn_laload C hd hs K
  case baload => rcases hln with q | q; (· cases q); subst q; exact xn_baload C hd hs K
  case aaload => rcases hln with q | q; (· cases q); subst q; exact xn_aaload C hd hs K
  case iastore => rcases hln with q | q; (· cases q); subst q; exact xn_iastore C hd hs K
  case lastore => rcases hln with q | q; (· cases q); subst q; exact xn_lastore C hd hs K
  case bastore => rcases hln with q | q; (· cases q); subst q; exact xn_bastore C hd hs K
  case aastore => rcases hln with q | q; (· cases q); subst q; exact xn_aastore C hd hs K
  case aload => rcases hln with q | q; (· cases q); subst q; exact xn_aload C hd hs K
  case iload => rcases hln with q | q; (· cases q); subst q; exact xn_iload C hd hs K
  case lload => rcases hln with q | q; (· cases q); subst q; exact xn_lload C hd hs K
  case astore => rcases hln with q | q; (· cases q); subst q; exact xn_astore C hd hs K
  case istore => rcases hln with q | q; (· cases q); subst q; exact xn_istore C hd hs K
  case lstore => rcases hln with q | q; (· cases q); subst q; exact xn_lstore C hd hs K
  case bipush => rcases hln with q | q; (· cases q); subst q; exact xn_bipush C hd hs K
  case ldc => rcases hln with q | q; (· cases q); subst q; exact xn_ldc C hd hs K
  case sipush => rcases hln with q | q; (· cases q); subst q; exact xn_sipush C hd hs K
  case ldc_w => rcases hln with q | q; (· cases q); subst q; exact xn_ldc_w C hd hs K
  case ldc2_w => rcases hln with q | q; (· cases q); subst q; exact xn_ldc2_w C hd hs K
  case iinc => rcases hln with q | q; (· cases q); subst q; exact xn_iinc C hd hs K
  case goto => rcases hln with q | q; (· cases q); subst q; exact xn_goto C hd hs K
  case ifnull => rcases hln with q | q; (· cases q); subst q; exact xn_ifnull C hd hs K
  case ifnonnull => rcases hln with q | q; (· cases q); subst q; exact xn_ifnonnull C hd hs K
  case getfield => rcases hln with q | q; (· cases q); subst q; exact xn_getfield C hd hs K
  case putfield => rcases hln with q | q; (· cases q); subst q; exact xn_putfield C hd hs K
  case getstatic => rcases hln with q | q; (· cases q); subst q; exact xn_getstatic C hd hs K
  case invokespecial => rcases hln with q | q; (· cases q); subst q; exact xn_invokespecial C hd hs K
  case new => rcases hln with q | q; (· cases q); subst q; exact xn_new C hd hs hR K
  case newarray => rcases hln with q | q; (· cases q); subst q; exact xn_newarray C hd hs hR K
  case anewarray => rcases hln with q | q; (· cases q); subst q; exact xn_anewarray C hd hs hR K
  case tableswitch => exact xn_tableswitch C hd hs K
  case ifCond cnd off =>
    rcases hln with q | q; (· cases q)
    subst q
    cases cnd
    case eq => exact xn_if_eq C hd hs K
    case ne => exact xn_if_ne C hd hs K
    case lt => exact xn_if_lt C hd hs K
    case ge => exact xn_if_ge C hd hs K
    case gt => exact xn_if_gt C hd hs K
    case le => exact xn_if_le C hd hs K
  case if_icmp cnd off =>
    rcases hln with q | q; (· cases q)
    subst q
    cases cnd
    case eq => exact xn_icmp_eq C hd hs K
    case ne => exact xn_icmp_ne C hd hs K
    case lt => exact xn_icmp_lt C hd hs K
    case ge => exact xn_icmp_ge C hd hs K
    case gt => exact xn_icmp_gt C hd hs K
    case le => exact xn_icmp_le C hd hs K
  case invokevirtual => dsimp only [xin] at hs; split at hs; (· exact (xcv_r hs).elim); (· cases hs)
  case invokestatic => dsimp only [xin] at hs; split at hs; (· exact (xcaV_r hs).elim); (· exact (xcal_r hs).elim); (· exact (xcal_r hs).elim); (· cases hs)
  case ireturn => dsimp only [xin] at hs; split at hs; (· split at hs; (· cases hs); (· split at hs <;> cases hs); (· cases hs)); (· cases hs)
  case lreturn => dsimp only [xin] at hs; split at hs; (· split at hs; (· cases hs); (· cases hs)); (· cases hs)
  case areturn => dsimp only [xin] at hs; split at hs; (· split at hs; (· cases hs); (· cases hs)); (· split at hs; (· cases hs); (· cases hs)); (· cases hs)
  case return_ => dsimp only [xin] at hs; split at hs; (· split at hs; (· cases hs); (· cases hs)); (· cases hs)
  all_goals (exact nomatch hs)
end XD
