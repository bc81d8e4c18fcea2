section CB5
variable {σ β : ai_M} {d L : Nat} {Bst : BS}
theorem tc_fix (hw : WF β) (h : RB σ β) (hc : rcC Bst σ β) (w r f : Int32) : ev mX4_fix (d + 2) 0 [some (.ref 2), some (.int w), some (.int r), some (.int f), none, none] [] (LY L) σ 0 0 (Ri (LY L) (PC Bst (sp_fix β w r f) σ)) := by
  obtain ⟨hN, hV, hK, hU, hA, hW, hX, hH⟩ := id h
  have e0 : (σ 8 0).toInt = (β 35 8).toInt := by rw [hN.2.2.2]
  have e1 : (σ 3 0).toInt = (β 35 0).toInt := by rw [hN.1]
  have hww := hw.1.w
  have hw4 := hw.1.2.2.2.2.2.2.2.2
  have hno : ¬ (inR w (β 35 8).toInt ∧ (f = -1 ∨ inR f (β 35 0).toInt)) → Ri (LY L) (PC Bst (sp_fix β w r f) σ) (some (.int (-1))) (LY L) σ := fun q => Ri.mk (PC.of (if_pos q) h hc FrC.rf)
  refine ev_aload_n dX4_fix_0 rfl ?_
  refine ev_getR dX4_fix_1 fX4_19 ⟨_, rfl, rfl⟩ ?_
  refine ev_iload_n dX4_fix_4 rfl ?_
  refine cVp1 dX4_fix_5 VX4_109 ⟨_, rfl⟩ rfl rfl (t_hasWish _) ?_
  refine ev_if_eq 27 dX4_fix_8 (by decide) (fun c8 => ?_) (fun c8 => ?_)
  · refine ev_iconst (-1) dX4_fix_27 (by decide) ?_
    refine ev_ireturn dX4_fix_28 rfl rfl rfl ?_
    first | exact hno (fun z => by rw [bI_0, e0] at c8; exact c8 z.1) | exact hno (fun z => by rw [bI_0, e1] at c24; exact z.2.elim c13 c24)
  · rw [bI_n, e0] at c8
    refine ev_iload_n dX4_fix_11 rfl ?_
    refine ev_iconst (-1) dX4_fix_12 (by decide) ?_
    refine ev_icmp_eq 29 dX4_fix_13 (by decide) (fun c13 => ?_) (fun c13 => ?_)
    · have q1 : inR w (β 35 8).toInt ∧ (f = -1 ∨ inR f (β 35 0).toInt) := ⟨c8, by first | exact Or.inl c13 | (rw [bI_n, e1] at c24; exact Or.inr c24)⟩
      obtain ⟨w', hw', ew, ew'⟩ := inRn (k := nW β) (by rw [← hww]; exact c8)
      clear c8 hno
      refine ev_aload_n dX4_fix_29 rfl ?_
      refine ev_getR dX4_fix_30 fX4_19 ⟨_, rfl, rfl⟩ ?_
      refine ev_iload_n dX4_fix_33 rfl ?_
      refine ev_iload_n dX4_fix_34 rfl ?_
      refine cVp2 dX4_fix_35 VX4_123 ⟨_, rfl⟩ rfl rfl rfl (by rw [ew]; exact t_wantsB hw hW hw' _) ?_
      refine ev_if_ne 44 dX4_fix_38 (by decide) (fun c38 => ?_) (fun c38 => ?_)
      · rw [bI_n] at c38
        obtain ⟨r', hr', er, er'⟩ := inR4 c38.1
        have e4 : w * 4 + r = nI (4 * w' + r') := by rw [ew, er, show (4 : Int32) = nI 4 from rfl, pk_mul, nI_add, Nat.mul_comm]
        have esp : sp_fix β w r f = (β 45 (4 * w' + r'), ai_up β 45 (4 * w' + r') (if f = -1 then -6 else f)) := by rw [sp_fix, if_neg (fun z => z q1), if_neg (fun z => z (by rw [ew']; exact c38)), ew', er']
        refine ev_iload_n dX4_fix_44 rfl ?_
        refine ev_iconst 4 dX4_fix_45 (by decide) ?_
        refine ev_imul dX4_fix_46 ?_
        refine ev_iload_n dX4_fix_47 rfl ?_
        refine ev_iadd dX4_fix_48 ?_
        rw [e4]
        refine ev_istore dX4_fix_49 (by decide) ?_
        refine ev_aload_n dX4_fix_51 rfl ?_
        refine ev_getR dX4_fix_52 fX4_19 ⟨_, rfl, rfl⟩ ?_
        refine ev_getR dX4_fix_55 fX4_120 ⟨_, rfl, rfl⟩ ?_
        refine ev_iload dX4_fix_58 rfl ?_
        refine ev_iaload dX4_fix_60 rfl (vp_in_nI (by omega) (by decide)) ?_
        rw [clN (by omega)]
        refine ev_istore dX4_fix_61 (by decide) ?_
        refine ev_aload_n dX4_fix_63 rfl ?_
        refine ev_getR dX4_fix_64 fX4_19 ⟨_, rfl, rfl⟩ ?_
        refine ev_getR dX4_fix_67 fX4_120 ⟨_, rfl, rfl⟩ ?_
        refine ev_iload dX4_fix_70 rfl ?_
        refine ev_iload_n dX4_fix_72 rfl ?_
        refine ev_iconst (-1) dX4_fix_73 (by decide) ?_
        refine ev_icmp_ne 82 dX4_fix_74 (by decide) (fun c74 => ?_) (fun c74 => ?_)
        · refine ev_iload_n dX4_fix_82 rfl ?_
          refine ev_iastore dX4_fix_83 (by decide) rfl (vp_in_nI (by omega) (by decide)) ?_
          rw [clN (by omega)]
          refine ev_aload_n dX4_fix_84 rfl ?_
          refine ev_iconst 0 dX4_fix_85 (by decide) ?_
          refine ev_putI dX4_fix_86 fX4_44 ⟨_, rfl, rfl⟩ rfl rfl ?_
          refine ev_iload dX4_fix_89 rfl ?_
          refine ev_ireturn dX4_fix_91 rfl rfl rfl ?_
          refine Ri.mk (PC.of (β' := ai_up β 45 (4 * w' + r') (if f = -1 then -6 else f)) (by rw [esp, hX _ (by omega)]) ⟨hN, hV, hK, hU, hA, hW, ?_, hH⟩ (Or.inl rfl) ((FrC.rf.up (by decide) (by decide)).up (by decide) (by decide)))
          intro j hj
          have := upd_eq hX (4 * w' + r') (if f = -1 then -6 else f) j hj
          first | (rw [if_pos (show f = -1 by first | exact c74 | exact Decidable.not_not.mp c74)] at this; show upd (σ 13) _ _ _ = upd (β 45) _ _ _; rw [if_pos (show f = -1 by first | exact c74 | exact Decidable.not_not.mp c74)]; exact this) | (rw [if_neg c74] at this; show upd (σ 13) _ _ _ = upd (β 45) _ _ _; rw [if_neg c74]; exact this)
        · refine ev_bipush (-6) dX4_fix_77 (by decide) ?_
          refine ev_goto 83 dX4_fix_79 (by decide) ?_
          refine ev_iastore dX4_fix_83 (by decide) rfl (vp_in_nI (by omega) (by decide)) ?_
          rw [clN (by omega)]
          refine ev_aload_n dX4_fix_84 rfl ?_
          refine ev_iconst 0 dX4_fix_85 (by decide) ?_
          refine ev_putI dX4_fix_86 fX4_44 ⟨_, rfl, rfl⟩ rfl rfl ?_
          refine ev_iload dX4_fix_89 rfl ?_
          refine ev_ireturn dX4_fix_91 rfl rfl rfl ?_
          refine Ri.mk (PC.of (β' := ai_up β 45 (4 * w' + r') (if f = -1 then -6 else f)) (by rw [esp, hX _ (by omega)]) ⟨hN, hV, hK, hU, hA, hW, ?_, hH⟩ (Or.inl rfl) ((FrC.rf.up (by decide) (by decide)).up (by decide) (by decide)))
          intro j hj
          have := upd_eq hX (4 * w' + r') (if f = -1 then -6 else f) j hj
          first | (rw [if_pos (show f = -1 by first | exact c74 | exact Decidable.not_not.mp c74)] at this; show upd (σ 13) _ _ _ = upd (β 45) _ _ _; rw [if_pos (show f = -1 by first | exact c74 | exact Decidable.not_not.mp c74)]; exact this) | (rw [if_neg c74] at this; show upd (σ 13) _ _ _ = upd (β 45) _ _ _; rw [if_neg c74]; exact this)
      · refine ev_bipush (-2) dX4_fix_41 (by decide) ?_
        refine ev_ireturn dX4_fix_43 rfl rfl rfl ?_
        rw [bI_0] at c38
        exact Ri.mk (PC.of (by rw [sp_fix, if_neg (fun z => z q1), if_pos (by rw [ew']; exact c38)]) h hc FrC.rf)
    · refine ev_aload_n dX4_fix_16 rfl ?_
      refine ev_getR dX4_fix_17 fX4_10 ⟨_, rfl, rfl⟩ ?_
      refine ev_iload_n dX4_fix_20 rfl ?_
      refine cVp1 dX4_fix_21 VX4_61 ⟨_, rfl⟩ rfl rfl (t_hasFoot _) ?_
      refine ev_if_ne 29 dX4_fix_24 (by decide) (fun c24 => ?_) (fun c24 => ?_)
      · have q1 : inR w (β 35 8).toInt ∧ (f = -1 ∨ inR f (β 35 0).toInt) := ⟨c8, by first | exact Or.inl c13 | (rw [bI_n, e1] at c24; exact Or.inr c24)⟩
        obtain ⟨w', hw', ew, ew'⟩ := inRn (k := nW β) (by rw [← hww]; exact c8)
        clear c8 hno
        refine ev_aload_n dX4_fix_29 rfl ?_
        refine ev_getR dX4_fix_30 fX4_19 ⟨_, rfl, rfl⟩ ?_
        refine ev_iload_n dX4_fix_33 rfl ?_
        refine ev_iload_n dX4_fix_34 rfl ?_
        refine cVp2 dX4_fix_35 VX4_123 ⟨_, rfl⟩ rfl rfl rfl (by rw [ew]; exact t_wantsB hw hW hw' _) ?_
        refine ev_if_ne 44 dX4_fix_38 (by decide) (fun c38 => ?_) (fun c38 => ?_)
        · rw [bI_n] at c38
          obtain ⟨r', hr', er, er'⟩ := inR4 c38.1
          have e4 : w * 4 + r = nI (4 * w' + r') := by rw [ew, er, show (4 : Int32) = nI 4 from rfl, pk_mul, nI_add, Nat.mul_comm]
          have esp : sp_fix β w r f = (β 45 (4 * w' + r'), ai_up β 45 (4 * w' + r') (if f = -1 then -6 else f)) := by rw [sp_fix, if_neg (fun z => z q1), if_neg (fun z => z (by rw [ew']; exact c38)), ew', er']
          refine ev_iload_n dX4_fix_44 rfl ?_
          refine ev_iconst 4 dX4_fix_45 (by decide) ?_
          refine ev_imul dX4_fix_46 ?_
          refine ev_iload_n dX4_fix_47 rfl ?_
          refine ev_iadd dX4_fix_48 ?_
          rw [e4]
          refine ev_istore dX4_fix_49 (by decide) ?_
          refine ev_aload_n dX4_fix_51 rfl ?_
          refine ev_getR dX4_fix_52 fX4_19 ⟨_, rfl, rfl⟩ ?_
          refine ev_getR dX4_fix_55 fX4_120 ⟨_, rfl, rfl⟩ ?_
          refine ev_iload dX4_fix_58 rfl ?_
          refine ev_iaload dX4_fix_60 rfl (vp_in_nI (by omega) (by decide)) ?_
          rw [clN (by omega)]
          refine ev_istore dX4_fix_61 (by decide) ?_
          refine ev_aload_n dX4_fix_63 rfl ?_
          refine ev_getR dX4_fix_64 fX4_19 ⟨_, rfl, rfl⟩ ?_
          refine ev_getR dX4_fix_67 fX4_120 ⟨_, rfl, rfl⟩ ?_
          refine ev_iload dX4_fix_70 rfl ?_
          refine ev_iload_n dX4_fix_72 rfl ?_
          refine ev_iconst (-1) dX4_fix_73 (by decide) ?_
          refine ev_icmp_ne 82 dX4_fix_74 (by decide) (fun c74 => ?_) (fun c74 => ?_)
          · refine ev_iload_n dX4_fix_82 rfl ?_
            refine ev_iastore dX4_fix_83 (by decide) rfl (vp_in_nI (by omega) (by decide)) ?_
            rw [clN (by omega)]
            refine ev_aload_n dX4_fix_84 rfl ?_
            refine ev_iconst 0 dX4_fix_85 (by decide) ?_
            refine ev_putI dX4_fix_86 fX4_44 ⟨_, rfl, rfl⟩ rfl rfl ?_
            refine ev_iload dX4_fix_89 rfl ?_
            refine ev_ireturn dX4_fix_91 rfl rfl rfl ?_
            refine Ri.mk (PC.of (β' := ai_up β 45 (4 * w' + r') (if f = -1 then -6 else f)) (by rw [esp, hX _ (by omega)]) ⟨hN, hV, hK, hU, hA, hW, ?_, hH⟩ (Or.inl rfl) ((FrC.rf.up (by decide) (by decide)).up (by decide) (by decide)))
            intro j hj
            have := upd_eq hX (4 * w' + r') (if f = -1 then -6 else f) j hj
            first | (rw [if_pos (show f = -1 by first | exact c74 | exact Decidable.not_not.mp c74)] at this; show upd (σ 13) _ _ _ = upd (β 45) _ _ _; rw [if_pos (show f = -1 by first | exact c74 | exact Decidable.not_not.mp c74)]; exact this) | (rw [if_neg c74] at this; show upd (σ 13) _ _ _ = upd (β 45) _ _ _; rw [if_neg c74]; exact this)
          · refine ev_bipush (-6) dX4_fix_77 (by decide) ?_
            refine ev_goto 83 dX4_fix_79 (by decide) ?_
            refine ev_iastore dX4_fix_83 (by decide) rfl (vp_in_nI (by omega) (by decide)) ?_
            rw [clN (by omega)]
            refine ev_aload_n dX4_fix_84 rfl ?_
            refine ev_iconst 0 dX4_fix_85 (by decide) ?_
            refine ev_putI dX4_fix_86 fX4_44 ⟨_, rfl, rfl⟩ rfl rfl ?_
            refine ev_iload dX4_fix_89 rfl ?_
            refine ev_ireturn dX4_fix_91 rfl rfl rfl ?_
            refine Ri.mk (PC.of (β' := ai_up β 45 (4 * w' + r') (if f = -1 then -6 else f)) (by rw [esp, hX _ (by omega)]) ⟨hN, hV, hK, hU, hA, hW, ?_, hH⟩ (Or.inl rfl) ((FrC.rf.up (by decide) (by decide)).up (by decide) (by decide)))
            intro j hj
            have := upd_eq hX (4 * w' + r') (if f = -1 then -6 else f) j hj
            first | (rw [if_pos (show f = -1 by first | exact c74 | exact Decidable.not_not.mp c74)] at this; show upd (σ 13) _ _ _ = upd (β 45) _ _ _; rw [if_pos (show f = -1 by first | exact c74 | exact Decidable.not_not.mp c74)]; exact this) | (rw [if_neg c74] at this; show upd (σ 13) _ _ _ = upd (β 45) _ _ _; rw [if_neg c74]; exact this)
        · refine ev_bipush (-2) dX4_fix_41 (by decide) ?_
          refine ev_ireturn dX4_fix_43 rfl rfl rfl ?_
          rw [bI_0] at c38
          exact Ri.mk (PC.of (by rw [sp_fix, if_neg (fun z => z q1), if_pos (by rw [ew']; exact c38)]) h hc FrC.rf)
      · refine ev_iconst (-1) dX4_fix_27 (by decide) ?_
        refine ev_ireturn dX4_fix_28 rfl rfl rfl ?_
        first | exact hno (fun z => by rw [bI_0, e0] at c8; exact c8 z.1) | exact hno (fun z => by rw [bI_0, e1] at c24; exact z.2.elim c13 c24)
theorem tc_drop (hw : WF β) (h : RB σ β) (hc : rcC Bst σ β) : ev mX4_drop d 0 [some (.ref 2)] [] (LY L) σ 0 0 (Ri (LY L) (PC Bst (sp_drop β) σ)) := by
  obtain ⟨hN, hV, hK, hU, hA, hW, hX, hH⟩ := id h
  have ew : σ 8 0 = nI (nW β) := hN.2.2.2.trans hw.1.2.2.2.2.2.2.2.1
  have hw4 := hw.1.2.2.2.2.2.2.2.2
  refine ev_aload_n dX4_drop_0 rfl ?_
  refine ev_getR dX4_drop_1 fX4_19 ⟨_, rfl, rfl⟩ ?_
  refine ev_getI dX4_drop_4 fX4_55 ⟨_, rfl, rfl⟩ ?_
  refine ev_if_ne 12 dX4_drop_7 (by decide) (fun c7 => ?_) (fun c7 => ?_)
  · have hpos : 0 < nW β := by rcases Nat.eq_zero_or_pos (nW β) with z | z; exact absurd (by rw [ew, z]; rfl) c7; exact z
    refine ev_aload_n dX4_drop_12 rfl ?_
    refine ev_getR dX4_drop_13 fX4_19 ⟨_, rfl, rfl⟩ ?_
    refine ev_dup dX4_drop_16 rfl ?_
    refine ev_getI dX4_drop_17 fX4_55 ⟨_, rfl, rfl⟩ ?_
    refine ev_iconst 1 dX4_drop_20 (by decide) ?_
    refine ev_isub dX4_drop_21 ?_
    rw [ew, show (1 : Int32) = nI 1 from rfl, pk_sub (by omega)]
    refine ev_putI dX4_drop_22 fX4_55 ⟨_, rfl, rfl⟩ rfl rfl ?_
    refine ev_aload_n dX4_drop_25 rfl ?_
    refine ev_iconst 0 dX4_drop_26 (by decide) ?_
    refine ev_putI dX4_drop_27 fX4_44 ⟨_, rfl, rfl⟩ rfl rfl ?_
    refine ev_aload_n dX4_drop_30 rfl ?_
    refine ev_getR dX4_drop_31 fX4_19 ⟨_, rfl, rfl⟩ ?_
    refine ev_getI dX4_drop_34 fX4_55 ⟨_, rfl, rfl⟩ ?_
    refine ev_ireturn dX4_drop_37 rfl rfl rfl ?_
    have en : nW (ai_up β 35 8 (nI (nW β - 1))) = nW β - 1 := clN (by omega)
    exact Ri.mk (PC.of (β' := ai_up β 35 8 (nI (nW β - 1))) (by rw [sp_drop, if_neg (by omega)]; rfl) ⟨⟨hN.1, hN.2.1, hN.2.2.1, rfl⟩, hV, hK, hU, hA, fun i hi => hW i (by rw [en] at hi; omega), fun i hi => hX i (by rw [en] at hi; omega), hH⟩ (Or.inl rfl) ((FrC.rf.up (by decide) (by decide)).up (by decide) (by decide)))
  · refine ev_iconst (-1) dX4_drop_10 (by decide) ?_
    refine ev_ireturn dX4_drop_11 rfl rfl rfl ?_
    exact Ri.mk (PC.of (by rw [sp_drop, if_pos (by rw [ew] at c7; exact nI_inj (b := 0) (by omega) (by decide) c7)]) h hc FrC.rf)
theorem t_unitOf {y : ai_L} {g u f : Nat} (hg : y[g]? = some (gvF u f)) (hu : y[u]? = some (.inl 4)) {w : Int32} (hw : vp_in w 4) : ev mX2_unitOf d 0 [some (.ref g), some (.int w)] [] y σ 0 0 (Rp y σ (σ u w.toNatClampNeg)) := by
  refine ev_aload_n dX2_unitOf_0 rfl ?_
  refine ev_getR dX2_unitOf_1 fX2_9 ⟨_, hg, rfl⟩ ?_
  refine ev_iload_n dX2_unitOf_4 rfl ?_
  refine ev_iaload dX2_unitOf_5 hu hw ?_
  refine ev_ireturn dX2_unitOf_6 rfl rfl rfl ?_
  exact Rp.mk rfl
theorem t_footOf {y : ai_L} {g u f : Nat} (hg : y[g]? = some (gvF u f)) (hf : y[f]? = some (.inl 16)) {w r : Nat} (hw : w < 4) (hr : r < 4) : ev mX2_footOf d 0 [some (.ref g), some (.int (nI w)), some (.int (nI r))] [] y σ 0 0 (Rp y σ (σ f (4 * w + r))) := by
  have e4 : nI w * 4 + nI r = nI (4 * w + r) := by rw [show (4 : Int32) = nI 4 from rfl, pk_mul, nI_add, Nat.mul_comm]
  refine ev_aload_n dX2_footOf_0 rfl ?_
  refine ev_getR dX2_footOf_1 fX2_15 ⟨_, hg, rfl⟩ ?_
  refine ev_iload_n dX2_footOf_4 rfl ?_
  refine ev_iconst 4 dX2_footOf_5 (by decide) ?_
  refine ev_imul dX2_footOf_6 ?_
  refine ev_iload_n dX2_footOf_7 rfl ?_
  refine ev_iadd dX2_footOf_8 ?_
  rw [e4]
  refine ev_iaload dX2_footOf_9 hf (vp_in_nI (by omega) (by decide)) ?_
  refine ev_ireturn dX2_footOf_10 rfl rfl rfl ?_
  exact Rp.mk (by rw [clN (by omega)])
theorem tc_held (hw : WF β) (h : RB σ β) (hc : rcC Bst σ β) (w r : Int32) : ev mX4_held (d + 1) 0 [some (.ref 2), some (.int w), some (.int r)] [] (LY L) σ 0 0 (Ri (LY L) (PC Bst (sp_held β w r) σ)) := by
  obtain ⟨hN, hV, hK, hU, hA, hW, hX, hH⟩ := id h
  refine ev_iload_n dX4_held_0 rfl ?_
  refine ev_if_lt 9 dX4_held_1 (by decide) (fun c1 => ?_) (fun c1 => ?_)
  · refine ev_iconst (-1) dX4_held_9 (by decide) ?_
    refine ev_ireturn dX4_held_10 rfl rfl rfl ?_
    exact Ri.mk (PC.of (by rw [sp_held, if_pos (fun z => by simp only [inn, Int32.lt_iff_toInt_lt, Int32.le_iff_toInt_le, c0, c1n, c2n, c3n, c4, c10n, c13n, c14n, c15n, c16n, cm1n] at *; omega)]) h hc FrC.rf)
  · refine ev_iload_n dX4_held_4 rfl ?_
    refine ev_iconst 4 dX4_held_5 (by decide) ?_
    refine ev_icmp_lt 11 dX4_held_6 (by decide) (fun c6 => ?_) (fun c6 => ?_)
    · have q1 : inR w 4 := by simp only [inn, Int32.lt_iff_toInt_lt, Int32.le_iff_toInt_le, c0, c1n, c2n, c3n, c4, c10n, c13n, c14n, c15n, c16n, cm1n] at *; omega
      obtain ⟨w', hw', ew, ew'⟩ := inR4 q1
      refine ev_iload_n dX4_held_11 rfl ?_
      refine ev_iconst (-1) dX4_held_12 (by decide) ?_
      refine ev_icmp_eq 26 dX4_held_13 (by decide) (fun c13 => ?_) (fun c13 => ?_)
      · refine ev_iload_n dX4_held_26 rfl ?_
        refine ev_iconst (-1) dX4_held_27 (by decide) ?_
        refine ev_icmp_ne 42 dX4_held_28 (by decide) (fun c28 => ?_) (fun c28 => ?_)
        · have q2 : inR r 4 := by first | exact absurd (by assumption) c28 | (rw [bI_n] at c20; exact c20)
          obtain ⟨r', hr', er, er'⟩ := inR4 q2
          refine ev_aload_n dX4_held_42 rfl ?_
          refine ev_getR dX4_held_43 fX4_33 ⟨_, rfl, rfl⟩ ?_
          refine ev_iload_n dX4_held_46 rfl ?_
          refine ev_iload_n dX4_held_47 rfl ?_
          refine cVp2 dX4_held_48 VX4_133 ⟨_, rfl⟩ rfl rfl rfl (by rw [ew, er]; exact t_footOf (g := 29) (u := 30) (f := 31) rfl rfl hw' hr') ?_
          refine ev_ireturn dX4_held_51 rfl rfl rfl ?_
          first | exact Ri.mk (PC.of (by rw [sp_held, if_neg (fun z => z q1), if_neg (fun z => z (by have er3 := clampI q2.1; have q22 := q2.2; have q21 := q2.1; clear q1 q2 er er'; simp only [inn, Int32.lt_iff_toInt_lt, Int32.le_iff_toInt_le, c0, c1n, c2n, c3n, c4, c10n, c13n, c14n, c15n, c16n, cm1n] at *; omega)), if_neg c28, ew', er', hH.2.2.2 _ (by omega)]) h hc FrC.rf) | exact Ri.mk (PC.of (by have c28' : r = -1 := (by first | exact c28 | exact Decidable.not_not.mp c28); rw [sp_held, if_neg (fun z => z q1), if_neg (fun z => z (by rw [c28']; decide)), if_pos c28', hH.2.2.1 _ (by omega)]) h hc FrC.rf)
        · refine ev_aload_n dX4_held_31 rfl ?_
          refine ev_getR dX4_held_32 fX4_33 ⟨_, rfl, rfl⟩ ?_
          refine ev_iload_n dX4_held_35 rfl ?_
          refine cVp1 dX4_held_36 VX4_130 ⟨_, rfl⟩ rfl rfl (t_unitOf (g := 29) (u := 30) (f := 31) rfl rfl (by rw [ew]; exact vp_in_nI hw' (by decide))) ?_
          refine ev_goto 51 dX4_held_39 (by decide) ?_
          refine ev_ireturn dX4_held_51 rfl rfl rfl ?_
          first | exact Ri.mk (PC.of (by rw [sp_held, if_neg (fun z => z q1), if_neg (fun z => z (by have er3 := clampI q2.1; have q22 := q2.2; have q21 := q2.1; clear q1 q2 er er'; simp only [inn, Int32.lt_iff_toInt_lt, Int32.le_iff_toInt_le, c0, c1n, c2n, c3n, c4, c10n, c13n, c14n, c15n, c16n, cm1n] at *; omega)), if_neg c28, ew', er', hH.2.2.2 _ (by omega)]) h hc FrC.rf) | exact Ri.mk (PC.of (by have c28' : r = -1 := (by first | exact c28 | exact Decidable.not_not.mp c28); rw [sp_held, if_neg (fun z => z q1), if_neg (fun z => z (by rw [c28']; decide)), if_pos c28', hH.2.2.1 _ (by omega)]) h hc FrC.rf)
      · refine ev_iload_n dX4_held_16 rfl ?_
        refine cSp1 dX4_held_17 SX4_85 rfl rfl (t_isRole _) ?_
        refine ev_if_ne 26 dX4_held_20 (by decide) (fun c20 => ?_) (fun c20 => ?_)
        · refine ev_iload_n dX4_held_26 rfl ?_
          refine ev_iconst (-1) dX4_held_27 (by decide) ?_
          refine ev_icmp_ne 42 dX4_held_28 (by decide) (fun c28 => ?_) (fun c28 => ?_)
          · have q2 : inR r 4 := by first | exact absurd (by assumption) c28 | (rw [bI_n] at c20; exact c20)
            obtain ⟨r', hr', er, er'⟩ := inR4 q2
            refine ev_aload_n dX4_held_42 rfl ?_
            refine ev_getR dX4_held_43 fX4_33 ⟨_, rfl, rfl⟩ ?_
            refine ev_iload_n dX4_held_46 rfl ?_
            refine ev_iload_n dX4_held_47 rfl ?_
            refine cVp2 dX4_held_48 VX4_133 ⟨_, rfl⟩ rfl rfl rfl (by rw [ew, er]; exact t_footOf (g := 29) (u := 30) (f := 31) rfl rfl hw' hr') ?_
            refine ev_ireturn dX4_held_51 rfl rfl rfl ?_
            first | exact Ri.mk (PC.of (by rw [sp_held, if_neg (fun z => z q1), if_neg (fun z => z (by have er3 := clampI q2.1; have q22 := q2.2; have q21 := q2.1; clear q1 q2 er er'; simp only [inn, Int32.lt_iff_toInt_lt, Int32.le_iff_toInt_le, c0, c1n, c2n, c3n, c4, c10n, c13n, c14n, c15n, c16n, cm1n] at *; omega)), if_neg c28, ew', er', hH.2.2.2 _ (by omega)]) h hc FrC.rf) | exact Ri.mk (PC.of (by have c28' : r = -1 := (by first | exact c28 | exact Decidable.not_not.mp c28); rw [sp_held, if_neg (fun z => z q1), if_neg (fun z => z (by rw [c28']; decide)), if_pos c28', hH.2.2.1 _ (by omega)]) h hc FrC.rf)
          · refine ev_aload_n dX4_held_31 rfl ?_
            refine ev_getR dX4_held_32 fX4_33 ⟨_, rfl, rfl⟩ ?_
            refine ev_iload_n dX4_held_35 rfl ?_
            refine cVp1 dX4_held_36 VX4_130 ⟨_, rfl⟩ rfl rfl (t_unitOf (g := 29) (u := 30) (f := 31) rfl rfl (by rw [ew]; exact vp_in_nI hw' (by decide))) ?_
            refine ev_goto 51 dX4_held_39 (by decide) ?_
            refine ev_ireturn dX4_held_51 rfl rfl rfl ?_
            first | exact Ri.mk (PC.of (by rw [sp_held, if_neg (fun z => z q1), if_neg (fun z => z (by have er3 := clampI q2.1; have q22 := q2.2; have q21 := q2.1; clear q1 q2 er er'; simp only [inn, Int32.lt_iff_toInt_lt, Int32.le_iff_toInt_le, c0, c1n, c2n, c3n, c4, c10n, c13n, c14n, c15n, c16n, cm1n] at *; omega)), if_neg c28, ew', er', hH.2.2.2 _ (by omega)]) h hc FrC.rf) | exact Ri.mk (PC.of (by have c28' : r = -1 := (by first | exact c28 | exact Decidable.not_not.mp c28); rw [sp_held, if_neg (fun z => z q1), if_neg (fun z => z (by rw [c28']; decide)), if_pos c28', hH.2.2.1 _ (by omega)]) h hc FrC.rf)
        · refine ev_bipush (-2) dX4_held_23 (by decide) ?_
          refine ev_ireturn dX4_held_25 rfl rfl rfl ?_
          rw [bI_0] at c20
          have c13' : ¬ r.toInt = -1 := fun z => c13 (Int32.toInt_inj.mp z)
          exact Ri.mk (PC.of (by rw [sp_held, if_neg (fun z => z q1), if_pos (fun z => c20 (by clear c20 c13 q1; simp only [inn, Int32.lt_iff_toInt_lt, Int32.le_iff_toInt_le, c0, c1n, c2n, c3n, c4, c10n, c13n, c14n, c15n, c16n, cm1n] at *; omega))]) h hc FrC.rf)
    · refine ev_iconst (-1) dX4_held_9 (by decide) ?_
      refine ev_ireturn dX4_held_10 rfl rfl rfl ?_
      exact Ri.mk (PC.of (by rw [sp_held, if_pos (fun z => by simp only [inn, Int32.lt_iff_toInt_lt, Int32.le_iff_toInt_le, c0, c1n, c2n, c3n, c4, c10n, c13n, c14n, c15n, c16n, cm1n] at *; omega)]) h hc FrC.rf)
theorem tc_told (hw : WF β) (h : RB σ β) (hc : rcC Bst σ β) (q : Int32) : ev mX4_told d 0 [some (.ref 2), some (.int q)] [] (LY L) σ 0 0 (Ri (LY L) (PC Bst (sp_told β q) σ)) := by
  obtain ⟨hN, hV, hK, hU, hA, hW, hX, hH⟩ := id h
  refine ev_iload_n dX4_told_0 rfl ?_
  rcases sw5 q with rfl | rfl | rfl | rfl | rfl | hsw
  · refine ev_tableIn 36 dX4_told_1 (by decide) (by decide) rfl (by decide) ?_
    refine ev_aload_n dX4_told_36 rfl ?_
    refine ev_getR dX4_told_37 fX4_10 ⟨_, rfl, rfl⟩ ?_
    refine ev_getI dX4_told_40 fX4_48 ⟨_, rfl, rfl⟩ ?_
    refine ev_ireturn dX4_told_43 rfl rfl rfl ?_
    exact Ri.mk (PC.of (by rw [sp_told, if_pos rfl, hN.1]) h hc FrC.rf)
  · refine ev_tableIn 44 dX4_told_1 (by decide) (by decide) rfl (by decide) ?_
    refine ev_aload_n dX4_told_44 rfl ?_
    refine ev_getR dX4_told_45 fX4_10 ⟨_, rfl, rfl⟩ ?_
    refine ev_getI dX4_told_48 fX4_72 ⟨_, rfl, rfl⟩ ?_
    refine ev_ireturn dX4_told_51 rfl rfl rfl ?_
    exact Ri.mk (PC.of (by rw [sp_told, if_neg (by decide), if_pos rfl, hN.2.1]) h hc FrC.rf)
  · refine ev_tableIn 52 dX4_told_1 (by decide) (by decide) rfl (by decide) ?_
    refine ev_aload_n dX4_told_52 rfl ?_
    refine ev_getR dX4_told_53 fX4_10 ⟨_, rfl, rfl⟩ ?_
    refine ev_getI dX4_told_56 fX4_88 ⟨_, rfl, rfl⟩ ?_
    refine ev_ireturn dX4_told_59 rfl rfl rfl ?_
    exact Ri.mk (PC.of (by rw [sp_told, if_neg (by decide), if_neg (by decide), if_pos rfl, hN.2.2.1]) h hc FrC.rf)
  · refine ev_tableIn 60 dX4_told_1 (by decide) (by decide) rfl (by decide) ?_
    refine ev_aload_n dX4_told_60 rfl ?_
    refine ev_getR dX4_told_61 fX4_19 ⟨_, rfl, rfl⟩ ?_
    refine ev_getI dX4_told_64 fX4_55 ⟨_, rfl, rfl⟩ ?_
    refine ev_ireturn dX4_told_67 rfl rfl rfl ?_
    exact Ri.mk (PC.of (by rw [sp_told, if_neg (by decide), if_neg (by decide), if_neg (by decide), if_pos rfl, hN.2.2.2]) h hc FrC.rf)
  · refine ev_tableIn 68 dX4_told_1 (by decide) (by decide) rfl (by decide) ?_
    refine ev_aload_n dX4_told_68 rfl ?_
    refine ev_getR dX4_told_69 fX4_33 ⟨_, rfl, rfl⟩ ?_
    refine ev_getI dX4_told_72 fX4_182 ⟨_, rfl, rfl⟩ ?_
    refine ev_ireturn dX4_told_75 rfl rfl rfl ?_
    exact Ri.mk (PC.of (by rw [sp_told, if_neg (by decide), if_neg (by decide), if_neg (by decide), if_neg (by decide), if_pos rfl, hH.2.1]) h hc FrC.rf)
  · refine ev_tableOut 76 dX4_told_1 hsw (by decide) ?_
    refine ev_bipush (-2) dX4_told_76 (by decide) ?_
    refine ev_ireturn dX4_told_78 rfl rfl rfl ?_
    have hs0 : q ≠ 0 ∧ q ≠ 1 ∧ q ≠ 2 ∧ q ≠ 3 ∧ q ≠ 4 := by refine ⟨?_, ?_, ?_, ?_, ?_⟩ <;> rintro rfl <;> exact absurd hsw (by decide)
    exact Ri.mk (PC.of (by rw [sp_told, if_neg hs0.1, if_neg hs0.2.1, if_neg hs0.2.2.1, if_neg hs0.2.2.2.1, if_neg hs0.2.2.2.2]) h hc FrC.rf)
end CB5
