section MB2
variable {σ β : ai_M} {d L : Nat}
theorem tm_volt (hw : WF β) (h : RM σ β) (f v : Int32) : ev mX5_volt (d + 2) 0 [some (.ref 35), some (.int f), some (.int v), none] [] (LY L) σ 0 0 (Ri (LY L) (PM (sp_volt β f v) σ)) := by
  obtain ⟨m0, m1, m2, m3, m4, mV, mK, mU, mW, mX, mHu, mHf⟩ := id h
  have hf := hw.1.f
  have hf16 := hw.1.2.2.1
  refine ev_aload_n dX5_volt_0 rfl ?_
  refine ev_iload_n dX5_volt_1 rfl ?_
  refine cVp1 dX5_volt_2 VX5_88 ⟨_, rfl⟩ rfl rfl (t_isFootB hw h _) ?_
  refine ev_if_ne 10 dX5_volt_5 (by decide) (fun c5 => ?_) (fun c5 => ?_)
  · rw [bI_n] at c5
    have hlt : f.toNatClampNeg < 16 := by have := clampI c5.1; omega
    refine ev_iload_n dX5_volt_10 rfl ?_
    refine ev_iconst 1 dX5_volt_11 (by decide) ?_
    refine ev_iconst 4 dX5_volt_12 (by decide) ?_
    refine cSp3 dX5_volt_13 SX5_84 rfl rfl rfl rfl (t_in _ _ _) ?_
    refine ev_if_ne 22 dX5_volt_16 (by decide) (fun c16 => ?_) (fun c16 => ?_)
    · rw [bI_n] at c16
      refine ev_aload_n dX5_volt_22 rfl ?_
      refine ev_getR dX5_volt_23 fX5_13 ⟨_, rfl, rfl⟩ ?_
      refine ev_iload_n dX5_volt_26 rfl ?_
      refine ev_iaload dX5_volt_27 rfl (vin c5 (by omega)) ?_
      refine ev_istore_n dX5_volt_28 (by decide) ?_
      refine ev_aload_n dX5_volt_29 rfl ?_
      refine ev_getR dX5_volt_30 fX5_13 ⟨_, rfl, rfl⟩ ?_
      refine ev_iload_n dX5_volt_33 rfl ?_
      refine ev_iload_n dX5_volt_34 rfl ?_
      refine ev_iastore dX5_volt_35 (by decide) rfl (vin c5 (by omega)) ?_
      refine ev_iload_n dX5_volt_36 rfl ?_
      refine ev_ireturn dX5_volt_37 rfl rfl rfl ?_
      exact Ri.mk (PM.of (β' := ai_up β 36 f.toNatClampNeg v) (by rw [sp_volt, if_neg (fun z => z c5), if_neg (fun z => z c16), mV _ hlt]) ⟨m0, m1, m2, m3, m4, upd_eq mV _ _, mK, mU, mW, mX, mHu, mHf⟩ (FrM.rf.up (by decide)))
    · refine ev_bipush (-2) dX5_volt_19 (by decide) ?_
      refine ev_ireturn dX5_volt_21 rfl rfl rfl ?_
      rw [bI_0] at c16
      exact Ri.mk (PM.of (by rw [sp_volt, if_neg (fun z => z c5), if_pos c16]) h FrM.rf)
  · refine ev_iconst (-1) dX5_volt_8 (by decide) ?_
    refine ev_ireturn dX5_volt_9 rfl rfl rfl ?_
    rw [bI_0] at c5
    exact Ri.mk (PM.of (if_pos c5) h FrM.rf)
theorem tm_unit (hw : WF β) (h : RM σ β) (k : Int32) : ev mX5_unit (d + 1) 0 [some (.ref 35), some (.int k)] [] (LY L) σ 0 0 (Ri (LY L) (PM (sp_unit β k) σ)) := by
  obtain ⟨m0, m1, m2, m3, m4, mV, mK, mU, mW, mX, mHu, mHf⟩ := id h
  have e1 : σ 35 2 = nI (nU β) := m1.trans hw.1.2.2.2.1
  have hu6 := hw.1.2.2.2.2.1
  refine ev_iload_n dX5_unit_0 rfl ?_
  refine ev_iconst 0 dX5_unit_1 (by decide) ?_
  refine ev_iconst 3 dX5_unit_2 (by decide) ?_
  refine cSp3 dX5_unit_3 SX5_84 rfl rfl rfl rfl (t_in _ _ _) ?_
  refine ev_if_ne 12 dX5_unit_6 (by decide) (fun c6 => ?_) (fun c6 => ?_)
  · rw [bI_n, in03] at c6
    refine ev_aload_n dX5_unit_12 rfl ?_
    refine ev_getI dX5_unit_13 fX5_68 ⟨_, rfl, rfl⟩ ?_
    refine ev_bipush 6 dX5_unit_16 (by decide) ?_
    refine ev_icmp_ne 24 dX5_unit_18 (by decide) (fun c18 => ?_) (fun c18 => ?_)
    · have hne : nU β ≠ 6 := fun z => c18 (by rw [e1, z]; rfl)
      refine ev_aload_n dX5_unit_24 rfl ?_
      refine ev_getR dX5_unit_25 fX5_17 ⟨_, rfl, rfl⟩ ?_
      refine ev_aload_n dX5_unit_28 rfl ?_
      refine ev_getI dX5_unit_29 fX5_68 ⟨_, rfl, rfl⟩ ?_
      rw [e1]
      refine ev_iload_n dX5_unit_32 rfl ?_
      refine ev_iastore dX5_unit_33 (by decide) rfl (vp_in_nI (by omega) (by decide)) ?_
      rw [clN (by omega)]
      refine ev_aload_n dX5_unit_34 rfl ?_
      refine ev_dup dX5_unit_35 rfl ?_
      refine ev_getI dX5_unit_36 fX5_68 ⟨_, rfl, rfl⟩ ?_
      refine ev_iconst 1 dX5_unit_39 (by decide) ?_
      refine ev_iadd dX5_unit_40 ?_
      rw [show (ai_up σ 37 (nU β) k) 35 2 = nI (nU β) from e1, nI_1]
      refine ev_putI dX5_unit_41 fX5_68 ⟨_, rfl, rfl⟩ rfl rfl ?_
      refine ev_aload_n dX5_unit_44 rfl ?_
      refine ev_getI dX5_unit_45 fX5_68 ⟨_, rfl, rfl⟩ ?_
      refine ev_iconst 1 dX5_unit_48 (by decide) ?_
      refine ev_isub dX5_unit_49 ?_
      refine ev_ireturn dX5_unit_50 rfl rfl rfl ?_
      refine Ri.mk (PM.of (β' := ai_up (ai_up β 37 (nU β) k) 35 2 (nI (nU β + 1))) (by rw [sp_unit, if_neg (fun z => z c6), if_neg hne]; exact congrArg (fun z => (z, _)) (nI_pred _).symm) ⟨m0, rfl, m2, m3, m4, mV, upd_eq mK _ _, mU, mW, mX, mHu, mHf⟩ ((FrM.rf.up (by decide)).up (by decide)))
    · refine ev_bipush (-4) dX5_unit_21 (by decide) ?_
      refine ev_ireturn dX5_unit_23 rfl rfl rfl ?_
      refine Ri.mk (PM.of ?_ h FrM.rf)
      rw [sp_unit, if_neg (fun z => z c6), if_pos (by rw [e1] at c18; exact nI_inj (b := 6) (by omega) (by decide) c18)]
  · refine ev_bipush (-2) dX5_unit_9 (by decide) ?_
    refine ev_ireturn dX5_unit_11 rfl rfl rfl ?_
    rw [bI_0, in03] at c6
    exact Ri.mk (PM.of (if_pos c6) h FrM.rf)
theorem tm_kind (hw : WF β) (h : RM σ β) (u : Int32) : ev mX5_kind (d + 1) 0 [some (.ref 35), some (.int u)] [] (LY L) σ 0 0 (Ri (LY L) (PM (sp_kind β u) σ)) := by
  obtain ⟨m0, m1, m2, m3, m4, mV, mK, mU, mW, mX, mHu, mHf⟩ := id h
  have hu := hw.1.u
  have hu6 := hw.1.2.2.2.2.1
  have iff := isF (x := u) (b := β 35 2) (n := nU β) (by omega) hw.1.2.2.2.1
  refine ev_iload_n dX5_kind_0 rfl ?_
  refine ev_iconst 0 dX5_kind_1 (by decide) ?_
  refine ev_aload_n dX5_kind_2 rfl ?_
  refine ev_getI dX5_kind_3 fX5_68 ⟨_, rfl, rfl⟩ ?_
  rw [m1]
  refine ev_iconst 1 dX5_kind_6 (by decide) ?_
  refine ev_isub dX5_kind_7 ?_
  refine cSp3 dX5_kind_8 SX5_84 rfl rfl rfl rfl (t_in _ _ _) ?_
  refine ev_if_eq 23 dX5_kind_11 (by decide) (fun c11 => ?_) (fun c11 => ?_)
  · rw [bI_0, iff] at c11
    refine ev_iconst (-1) dX5_kind_23 (by decide) ?_
    refine ev_ireturn dX5_kind_24 rfl rfl rfl ?_
    first | exact Ri.mk (PM.of (if_pos c11) h FrM.rf) | exact Ri.mk (PM.of (by rw [sp_kind, if_neg (fun z => z c11), mK _ (by have := clampI c11.1; omega)]) h FrM.rf)
  · rw [bI_n, iff] at c11
    refine ev_aload_n dX5_kind_14 rfl ?_
    refine ev_getR dX5_kind_15 fX5_17 ⟨_, rfl, rfl⟩ ?_
    refine ev_iload_n dX5_kind_18 rfl ?_
    refine ev_iaload dX5_kind_19 rfl (vin c11 (by omega)) ?_
    refine ev_goto 24 dX5_kind_20 (by decide) ?_
    refine ev_ireturn dX5_kind_24 rfl rfl rfl ?_
    first | exact Ri.mk (PM.of (if_pos c11) h FrM.rf) | exact Ri.mk (PM.of (by rw [sp_kind, if_neg (fun z => z c11), mK _ (by have := clampI c11.1; omega)]) h FrM.rf)
theorem tm_use (hw : WF β) (h : RM σ β) (f u r : Int32) : ev mX5_use (d + 2) 0 [some (.ref 35), some (.int f), some (.int u), some (.int r)] [] (LY L) σ 0 0 (Ri (LY L) (PM (sp_use β f u r) σ)) := by
  obtain ⟨m0, m1, m2, m3, m4, mV, mK, mU, mW, mX, mHu, mHf⟩ := id h
  have hf := hw.1.f
  have hu := hw.1.u
  have hu6 := hw.1.2.2.2.2.1
  have hm30 := hw.1.2.2.2.2.2.2.1
  have em : σ 35 4 = nI (nM β) := m2.trans hw.1.2.2.2.2.2.1
  have iff := isF (x := u) (b := β 35 2) (n := nU β) (by omega) hw.1.2.2.2.1
  have hno : ¬ (inR f (β 35 0).toInt ∧ inR u (β 35 2).toInt) → Ri (LY L) (PM (sp_use β f u r) σ) (some (.int (-1))) (LY L) σ := fun q => Ri.mk (PM.of (if_pos q) h FrM.rf)
  refine ev_aload_n dX5_use_0 rfl ?_
  refine ev_iload_n dX5_use_1 rfl ?_
  refine cVp1 dX5_use_2 VX5_88 ⟨_, rfl⟩ rfl rfl (t_isFootB hw h _) ?_
  refine ev_if_eq 22 dX5_use_5 (by decide) (fun c5 => ?_) (fun c5 => ?_)
  · refine ev_iconst (-1) dX5_use_22 (by decide) ?_
    refine ev_ireturn dX5_use_23 rfl rfl rfl ?_
    first | exact hno (fun q => by rw [bI_0] at c5; exact c5 q.1) | exact hno (fun q => by rw [bI_0, iff] at c19; exact c19 q.2)
  · rw [bI_n] at c5
    refine ev_iload_n dX5_use_8 rfl ?_
    refine ev_iconst 0 dX5_use_9 (by decide) ?_
    refine ev_aload_n dX5_use_10 rfl ?_
    refine ev_getI dX5_use_11 fX5_68 ⟨_, rfl, rfl⟩ ?_
    rw [m1]
    refine ev_iconst 1 dX5_use_14 (by decide) ?_
    refine ev_isub dX5_use_15 ?_
    refine cSp3 dX5_use_16 SX5_84 rfl rfl rfl rfl (t_in _ _ _) ?_
    refine ev_if_ne 24 dX5_use_19 (by decide) (fun c19 => ?_) (fun c19 => ?_)
    · rw [bI_n, iff] at c19
      refine ev_iload_n dX5_use_24 rfl ?_
      refine ev_iconst 0 dX5_use_25 (by decide) ?_
      refine ev_iconst 3 dX5_use_26 (by decide) ?_
      refine cSp3 dX5_use_27 SX5_84 rfl rfl rfl rfl (t_in _ _ _) ?_
      refine ev_if_ne 36 dX5_use_30 (by decide) (fun c30 => ?_) (fun c30 => ?_)
      · rw [bI_n, in03] at c30
        refine ev_aload_n dX5_use_36 rfl ?_
        refine ev_getI dX5_use_37 fX5_71 ⟨_, rfl, rfl⟩ ?_
        refine ev_bipush 30 dX5_use_40 (by decide) ?_
        refine ev_icmp_ne 48 dX5_use_42 (by decide) (fun c42 => ?_) (fun c42 => ?_)
        · have hm : nM β < 30 := by rcases Nat.lt_or_ge (nM β) 30 with z | z; exact z; exact absurd (by rw [em, show nM β = 30 by omega]; rfl) c42
          obtain ⟨f', hf', ef, ef'⟩ := inRn (k := nF β) (by rw [← hf]; exact c5)
          obtain ⟨u', hu', eu, eu'⟩ := inRn (k := nU β) (by rw [← hu]; exact c19)
          obtain ⟨r', hr', er, er'⟩ := inR4 c30
          have esp : sp_use β f u r = if canB β f' u' r' then (-5, β) else (nI (nM β), ai_up (ai_up (ai_up (ai_up β 38 (nM β) f) 39 (nM β) u) 40 (nM β) r) 35 4 (nI (nM β + 1))) := by rw [sp_use, if_neg (fun q => q ⟨c5, c19⟩), if_neg (fun q => q c30), if_neg (by omega), ef', eu', er']
          clear ef' eu' er' c5 c19 c30 hno iff
          subst ef eu er
          refine ev_aload_n dX5_use_48 rfl ?_
          refine ev_iload_n dX5_use_49 rfl ?_
          refine ev_iload_n dX5_use_50 rfl ?_
          refine ev_iload_n dX5_use_51 rfl ?_
          refine cVp3 dX5_use_52 VX5_92 ⟨_, rfl⟩ rfl rfl rfl rfl (t_can hw h _ _ _) ?_
          refine ev_if_eq 61 dX5_use_55 (by decide) (fun c55 => ?_) (fun c55 => ?_)
          · refine ev_aload_n dX5_use_61 rfl ?_
            refine ev_getR dX5_use_62 fX5_20 ⟨_, rfl, rfl⟩ ?_
            refine ev_aload_n dX5_use_65 rfl ?_
            refine ev_getI dX5_use_66 fX5_71 ⟨_, rfl, rfl⟩ ?_
            rw [em]
            refine ev_iload_n dX5_use_69 rfl ?_
            refine ev_iastore dX5_use_70 (by decide) rfl (vp_in_nI hm (by decide)) ?_
            rw [clN (by omega)]
            refine ev_aload_n dX5_use_71 rfl ?_
            refine ev_getR dX5_use_72 fX5_23 ⟨_, rfl, rfl⟩ ?_
            refine ev_aload_n dX5_use_75 rfl ?_
            refine ev_getI dX5_use_76 fX5_71 ⟨_, rfl, rfl⟩ ?_
            rw [show (ai_up σ 38 (nM β) (nI f')) 35 4 = nI (nM β) from em]
            refine ev_iload_n dX5_use_79 rfl ?_
            refine ev_iastore dX5_use_80 (by decide) rfl (vp_in_nI hm (by decide)) ?_
            rw [clN (by omega)]
            refine ev_aload_n dX5_use_81 rfl ?_
            refine ev_getR dX5_use_82 fX5_26 ⟨_, rfl, rfl⟩ ?_
            refine ev_aload_n dX5_use_85 rfl ?_
            refine ev_getI dX5_use_86 fX5_71 ⟨_, rfl, rfl⟩ ?_
            rw [show (ai_up (ai_up σ 38 (nM β) (nI f')) 39 (nM β) (nI u')) 35 4 = nI (nM β) from em]
            refine ev_iload_n dX5_use_89 rfl ?_
            refine ev_iastore dX5_use_90 (by decide) rfl (vp_in_nI hm (by decide)) ?_
            rw [clN (by omega)]
            refine ev_aload_n dX5_use_91 rfl ?_
            refine ev_dup dX5_use_92 rfl ?_
            refine ev_getI dX5_use_93 fX5_71 ⟨_, rfl, rfl⟩ ?_
            refine ev_iconst 1 dX5_use_96 (by decide) ?_
            refine ev_iadd dX5_use_97 ?_
            rw [show (ai_up (ai_up (ai_up σ 38 (nM β) (nI f')) 39 (nM β) (nI u')) 40 (nM β) (nI r')) 35 4 = nI (nM β) from em, nI_1]
            refine ev_putI dX5_use_98 fX5_71 ⟨_, rfl, rfl⟩ rfl rfl ?_
            refine ev_aload_n dX5_use_101 rfl ?_
            refine ev_getI dX5_use_102 fX5_71 ⟨_, rfl, rfl⟩ ?_
            refine ev_iconst 1 dX5_use_105 (by decide) ?_
            refine ev_isub dX5_use_106 ?_
            refine ev_ireturn dX5_use_107 rfl rfl rfl ?_
            rw [bI_0] at c55
            exact Ri.mk (PM.of (β' := ai_up (ai_up (ai_up (ai_up β 38 (nM β) (nI f')) 39 (nM β) (nI u')) 40 (nM β) (nI r')) 35 4 (nI (nM β + 1))) (by rw [esp, if_neg c55]; exact congrArg (fun z => (z, _)) (nI_pred _).symm) ⟨m0, m1, rfl, m3, m4, mV, mK, fun i hi => ⟨upd_eq (fun i hi => (mU i hi).1) _ _ i hi, upd_eq (fun i hi => (mU i hi).2.1) _ _ i hi, upd_eq (fun i hi => (mU i hi).2.2) _ _ i hi⟩, mW, mX, mHu, mHf⟩ ((((FrM.rf.up (by decide)).up (by decide)).up (by decide)).up (by decide)))
          · refine ev_bipush (-5) dX5_use_58 (by decide) ?_
            refine ev_ireturn dX5_use_60 rfl rfl rfl ?_
            refine Ri.mk (PM.of ?_ h FrM.rf)
            rw [bI_n] at c55
            rw [esp, if_pos c55]
        · refine ev_bipush (-4) dX5_use_45 (by decide) ?_
          refine ev_ireturn dX5_use_47 rfl rfl rfl ?_
          refine Ri.mk (PM.of ?_ h FrM.rf)
          rw [sp_use, if_neg (fun q => q ⟨c5, c19⟩), if_neg (fun q => q c30), if_pos (by rw [em] at c42; exact nI_inj (b := 30) (by omega) (by decide) c42)]
      · refine ev_bipush (-2) dX5_use_33 (by decide) ?_
        refine ev_ireturn dX5_use_35 rfl rfl rfl ?_
        refine Ri.mk (PM.of ?_ h FrM.rf)
        rw [bI_0, in03] at c30
        rw [sp_use, if_neg (fun q => q ⟨c5, c19⟩), if_pos c30]
    · refine ev_iconst (-1) dX5_use_22 (by decide) ?_
      refine ev_ireturn dX5_use_23 rfl rfl rfl ?_
      first | exact hno (fun q => by rw [bI_0] at c5; exact c5 q.1) | exact hno (fun q => by rw [bI_0, iff] at c19; exact c19 q.2)
theorem tm_about (hw : WF β) (h : RM σ β) (k w : Int32) : ev mX5_about (d + 1) 0 [some (.ref 35), some (.int k), some (.int w)] [] (LY L) σ 0 0 (Ri (LY L) (PM (sp_about β k w) σ)) := by
  obtain ⟨m0, m1, m2, m3, m4, mV, mK, mU, mW, mX, mHu, mHf⟩ := id h
  have hm := hw.1.m
  have hm30 := hw.1.2.2.2.2.2.2.1
  have iff := isF (x := k) (b := β 35 4) (n := nM β) (by omega) hw.1.2.2.2.2.2.1
  refine ev_iload_n dX5_about_0 rfl ?_
  refine ev_iconst 0 dX5_about_1 (by decide) ?_
  refine ev_aload_n dX5_about_2 rfl ?_
  refine ev_getI dX5_about_3 fX5_71 ⟨_, rfl, rfl⟩ ?_
  rw [m2]
  refine ev_iconst 1 dX5_about_6 (by decide) ?_
  refine ev_isub dX5_about_7 ?_
  refine cSp3 dX5_about_8 SX5_84 rfl rfl rfl rfl (t_in _ _ _) ?_
  refine ev_if_ne 16 dX5_about_11 (by decide) (fun c11 => ?_) (fun c11 => ?_)
  · rw [bI_n, iff] at c11
    have a := mU k.toNatClampNeg (by have := clampI c11.1; omega)
    refine ev_iload_n dX5_about_16 rfl ?_
    refine ev_if_ne 29 dX5_about_17 (by decide) (fun c17 => ?_) (fun c17 => ?_)
    · refine ev_iload_n dX5_about_29 rfl ?_
      refine ev_iconst 1 dX5_about_30 (by decide) ?_
      refine ev_icmp_ne 43 dX5_about_31 (by decide) (fun c31 => ?_) (fun c31 => ?_)
      · refine ev_iload_n dX5_about_43 rfl ?_
        refine ev_iconst 2 dX5_about_44 (by decide) ?_
        refine ev_icmp_ne 57 dX5_about_45 (by decide) (fun c45 => ?_) (fun c45 => ?_)
        · refine ev_bipush (-2) dX5_about_57 (by decide) ?_
          refine ev_ireturn dX5_about_59 rfl rfl rfl ?_
          first | exact Ri.mk (PM.of (by rw [sp_about, if_neg (fun z => z c11), if_neg c17, if_neg c31, if_neg c45]) h FrM.rf) | exact Ri.mk (PM.of (by rw [sp_about, if_neg (fun z => z c11), if_neg c17, if_neg c31, if_pos c45, a.2.2]) h FrM.rf) | exact Ri.mk (PM.of (by rw [sp_about, if_neg (fun z => z c11), if_neg c17, if_pos c31, a.2.1]) h FrM.rf) | exact Ri.mk (PM.of (by rw [sp_about, if_neg (fun z => z c11), if_pos c17, a.1]) h FrM.rf)
        · refine ev_aload_n dX5_about_48 rfl ?_
          refine ev_getR dX5_about_49 fX5_26 ⟨_, rfl, rfl⟩ ?_
          refine ev_iload_n dX5_about_52 rfl ?_
          refine ev_iaload dX5_about_53 rfl (vin c11 (by omega)) ?_
          refine ev_goto 59 dX5_about_54 (by decide) ?_
          refine ev_ireturn dX5_about_59 rfl rfl rfl ?_
          first | exact Ri.mk (PM.of (by rw [sp_about, if_neg (fun z => z c11), if_neg c17, if_neg c31, if_neg c45]) h FrM.rf) | exact Ri.mk (PM.of (by rw [sp_about, if_neg (fun z => z c11), if_neg c17, if_neg c31, if_pos c45, a.2.2]) h FrM.rf) | exact Ri.mk (PM.of (by rw [sp_about, if_neg (fun z => z c11), if_neg c17, if_pos c31, a.2.1]) h FrM.rf) | exact Ri.mk (PM.of (by rw [sp_about, if_neg (fun z => z c11), if_pos c17, a.1]) h FrM.rf)
      · refine ev_aload_n dX5_about_34 rfl ?_
        refine ev_getR dX5_about_35 fX5_23 ⟨_, rfl, rfl⟩ ?_
        refine ev_iload_n dX5_about_38 rfl ?_
        refine ev_iaload dX5_about_39 rfl (vin c11 (by omega)) ?_
        refine ev_goto 59 dX5_about_40 (by decide) ?_
        refine ev_ireturn dX5_about_59 rfl rfl rfl ?_
        first | exact Ri.mk (PM.of (by rw [sp_about, if_neg (fun z => z c11), if_neg c17, if_neg c31, if_neg c45]) h FrM.rf) | exact Ri.mk (PM.of (by rw [sp_about, if_neg (fun z => z c11), if_neg c17, if_neg c31, if_pos c45, a.2.2]) h FrM.rf) | exact Ri.mk (PM.of (by rw [sp_about, if_neg (fun z => z c11), if_neg c17, if_pos c31, a.2.1]) h FrM.rf) | exact Ri.mk (PM.of (by rw [sp_about, if_neg (fun z => z c11), if_pos c17, a.1]) h FrM.rf)
    · refine ev_aload_n dX5_about_20 rfl ?_
      refine ev_getR dX5_about_21 fX5_20 ⟨_, rfl, rfl⟩ ?_
      refine ev_iload_n dX5_about_24 rfl ?_
      refine ev_iaload dX5_about_25 rfl (vin c11 (by omega)) ?_
      refine ev_goto 59 dX5_about_26 (by decide) ?_
      refine ev_ireturn dX5_about_59 rfl rfl rfl ?_
      first | exact Ri.mk (PM.of (by rw [sp_about, if_neg (fun z => z c11), if_neg c17, if_neg c31, if_neg c45]) h FrM.rf) | exact Ri.mk (PM.of (by rw [sp_about, if_neg (fun z => z c11), if_neg c17, if_neg c31, if_pos c45, a.2.2]) h FrM.rf) | exact Ri.mk (PM.of (by rw [sp_about, if_neg (fun z => z c11), if_neg c17, if_pos c31, a.2.1]) h FrM.rf) | exact Ri.mk (PM.of (by rw [sp_about, if_neg (fun z => z c11), if_pos c17, a.1]) h FrM.rf)
  · refine ev_iconst (-1) dX5_about_14 (by decide) ?_
    refine ev_ireturn dX5_about_15 rfl rfl rfl ?_
    rw [bI_0, iff] at c11
    exact Ri.mk (PM.of (if_pos c11) h FrM.rf)
end MB2
