section MB3
variable {σ β : ai_M} {d L : Nat}
theorem mwish_loop {w : Nat} (hw : w < 4) {k R v p : Int32} {σ0 : ai_M} {Q : Option Value → ai_L → ai_M → Prop} (e8 : σ0 35 8 = nI w) (K : ∀ σ1 : ai_M, (∀ j, σ1 45 j = if 4 * w ≤ j ∧ j < 4 * w + 4 then -6 else σ0 45 j) → (∀ c, c ≠ 45 → σ1 c = σ0 c) → ev mX5_wish d 125 [some (.ref 35), some (.int k), some (.int R), some (.int v), some (.int p), some (.int (nI 4))] [] (LY L) σ1 0 0 Q) :
    ∀ n i, i + n = 4 → ∀ σ1 : ai_M, (∀ j, σ1 45 j = if 4 * w ≤ j ∧ j < 4 * w + i then -6 else σ0 45 j) → (∀ c, c ≠ 45 → σ1 c = σ0 c) → ev mX5_wish d 97 [some (.ref 35), some (.int k), some (.int R), some (.int v), some (.int p), some (.int (nI i))] [] (LY L) σ1 0 0 Q := by
  intro n
  induction n with
  | zero =>
    intro i hi σ1 h1 h2
    obtain rfl : i = 4 := by omega
    refine ev_iload dX5_wish_97 rfl ?_
    refine ev_iconst 4 dX5_wish_99 (by decide) ?_
    refine ev_icmp_ge 125 dX5_wish_100 (by decide) (fun c100 => ?_) (fun c100 => absurd (nI_le (a := 4) (b := 4) (by omega) (by decide)) c100)
    exact K σ1 h1 h2
  | succ n ih =>
    intro i hi σ1 h1 h2
    have e4 : (4 : Int32) * nI w + nI i = nI (4 * w + i) := by rw [show (4 : Int32) = nI 4 from rfl, pk_mul, nI_add]
    have ec : (nI (4 * w + i)).toNatClampNeg = 4 * w + i := clN (by omega)
    refine ev_iload dX5_wish_97 rfl ?_
    refine ev_iconst 4 dX5_wish_99 (by decide) ?_
    refine ev_icmp_ge 125 dX5_wish_100 (by decide) (fun c100 => absurd c100 (nI_ge (b := 4) (by omega) (by decide))) (fun c100 => ?_)
    refine ev_aload_n dX5_wish_103 rfl ?_
    refine ev_getR dX5_wish_104 fX5_41 ⟨_, rfl, rfl⟩ ?_
    refine ev_iconst 4 dX5_wish_107 (by decide) ?_
    refine ev_aload_n dX5_wish_108 rfl ?_
    refine ev_getI dX5_wish_109 fX5_74 ⟨_, rfl, rfl⟩ ?_
    rw [h2 35 (by decide), e8]
    refine ev_imul dX5_wish_112 ?_
    refine ev_iload dX5_wish_113 rfl ?_
    refine ev_iadd dX5_wish_115 ?_
    rw [e4]
    refine ev_bipush (-6) dX5_wish_116 (by decide) ?_
    refine ev_iastore dX5_wish_118 (by decide) rfl (vp_in_nI (by omega) (by decide)) ?_
    rw [ec]
    refine ev_iinc _ dX5_wish_119 rfl rfl (by decide) ?_
    rw [show nI i + Int32.ofInt 1 = nI (i + 1) from nI_1 i]
    refine ev_goto 97 dX5_wish_122 (by decide) ?_
    exact ih (i + 1) (by omega) _ (fillS h1) (fun c hc => by rw [ai_up, if_neg hc]; exact h2 c hc)
theorem mwish_end (hw : WF β) (h : RM σ β) (hlt : nW β < 4) {k R v p : Int32} {σ1 : ai_M} (z1 : inR p (β 35 0).toInt) (z2 : inR k 4 ∧ inn R 1 15 ∧ inn v 0 4) (a1 : ∀ j, σ1 45 j = if 4 * nW β ≤ j ∧ j < 4 * nW β + 4 then -6 else (ai_up (ai_up (ai_up (ai_up σ 41 (nW β) k) 42 (nW β) R) 43 (nW β) v) 44 (nW β) p) 45 j) (a2 : ∀ c, c ≠ 45 → σ1 c = (ai_up (ai_up (ai_up (ai_up σ 41 (nW β) k) 42 (nW β) R) 43 (nW β) v) 44 (nW β) p) c) : ev mX5_wish d 125 [some (.ref 35), some (.int k), some (.int R), some (.int v), some (.int p), some (.int (nI 4))] [] (LY L) σ1 0 0 (Ri (LY L) (PM (sp_wish β k R v p) σ)) := by
  obtain ⟨m0, m1, m2, m3, m4, mV, mK, mU, mW, mX, mHu, mHf⟩ := id h
  have ew : σ1 35 8 = nI (nW β) := by rw [a2 35 (by decide)]; exact m3.trans hw.1.2.2.2.2.2.2.2.1
  have e35 : σ1 35 = σ 35 := a2 35 (by decide)
  have e36 : σ1 36 = σ 36 := a2 36 (by decide)
  have e37 : σ1 37 = σ 37 := a2 37 (by decide)
  have e38 : σ1 38 = σ 38 := a2 38 (by decide)
  have e39 : σ1 39 = σ 39 := a2 39 (by decide)
  have e40 : σ1 40 = σ 40 := a2 40 (by decide)
  have e41 : σ1 41 = upd (σ 41) (nW β) k := a2 41 (by decide)
  have e42 : σ1 42 = upd (σ 42) (nW β) R := a2 42 (by decide)
  have e43 : σ1 43 = upd (σ 43) (nW β) v := a2 43 (by decide)
  have e44 : σ1 44 = upd (σ 44) (nW β) p := a2 44 (by decide)
  have e46 : σ1 46 = σ 46 := a2 46 (by decide)
  have e47 : σ1 47 = σ 47 := a2 47 (by decide)
  refine ev_aload_n dX5_wish_125 rfl ?_
  refine ev_dup dX5_wish_126 rfl ?_
  refine ev_getI dX5_wish_127 fX5_74 ⟨_, rfl, rfl⟩ ?_
  refine ev_iconst 1 dX5_wish_130 (by decide) ?_
  refine ev_iadd dX5_wish_131 ?_
  rw [ew, nI_1]
  refine ev_putI dX5_wish_132 fX5_74 ⟨_, rfl, rfl⟩ rfl rfl ?_
  refine ev_aload_n dX5_wish_135 rfl ?_
  refine ev_getI dX5_wish_136 fX5_74 ⟨_, rfl, rfl⟩ ?_
  refine ev_iconst 1 dX5_wish_139 (by decide) ?_
  refine ev_isub dX5_wish_140 ?_
  refine ev_ireturn dX5_wish_141 rfl rfl rfl ?_
  refine Ri.mk (PM.of (β' := ai_up (ai_set (ai_up (ai_up (ai_up (ai_up β 41 (nW β) k) 42 (nW β) R) 43 (nW β) v) 44 (nW β) p) 45 (fun j => if 4 * nW β ≤ j ∧ j < 4 * nW β + 4 then -6 else β 45 j)) 35 8 (nI (nW β + 1))) (by rw [sp_wish, if_neg (fun q => q z1), if_neg (fun q => q z2), if_neg (by omega)]; exact congrArg (fun z => (z, _)) (nI_pred _).symm) ?_ ?_)
  · refine ⟨by show σ1 35 0 = _; rw [e35]; exact m0, by show σ1 35 2 = _; rw [e35]; exact m1, by show σ1 35 4 = _; rw [e35]; exact m2, rfl, by show σ1 35 14 = _; rw [e35]; exact m4, fun i hi => by show σ1 36 i = _; rw [e36]; exact mV i hi, fun i hi => by show σ1 37 i = _; rw [e37]; exact mK i hi, fun i hi => ?_, fun i hi => ?_, fun j hj => ?_, fun i hi => by show σ1 46 i = _; rw [e46]; exact mHu i hi, fun i hi => by show σ1 47 i = _; rw [e47]; exact mHf i hi⟩
    · show σ1 38 i = _ ∧ σ1 39 i = _ ∧ σ1 40 i = _
      rw [e38, e39, e40]; exact mU i hi
    · show σ1 41 i = _ ∧ σ1 42 i = _ ∧ σ1 43 i = _ ∧ σ1 44 i = _
      rw [e41, e42, e43, e44]
      exact ⟨upd_eq (fun i hi => (mW i hi).1) _ _ i hi, upd_eq (fun i hi => (mW i hi).2.1) _ _ i hi, upd_eq (fun i hi => (mW i hi).2.2.1) _ _ i hi, upd_eq (fun i hi => (mW i hi).2.2.2) _ _ i hi⟩
    · show σ1 45 j = if 4 * nW β ≤ j ∧ j < 4 * nW β + 4 then -6 else β 45 j
      rw [a1 j]
      by_cases q : 4 * nW β ≤ j ∧ j < 4 * nW β + 4
      · rw [if_pos q, if_pos q]
      · rw [if_neg q, if_neg q]; exact mX j hj
  · refine FrM.up (fun c hc => ?_) (by decide)
    rw [a2 c (by omega), ai_up, if_neg (by omega), ai_up, if_neg (by omega), ai_up, if_neg (by omega), ai_up, if_neg (by omega)]
theorem tm_wish (hw : WF β) (h : RM σ β) (k R v p : Int32) : ev mX5_wish (d + 2) 0 [some (.ref 35), some (.int k), some (.int R), some (.int v), some (.int p), none] [] (LY L) σ 0 0 (Ri (LY L) (PM (sp_wish β k R v p) σ)) := by
  obtain ⟨m0, m1, m2, m3, m4, mV, mK, mU, mW, mX, mHu, mHf⟩ := id h
  have ew : σ 35 8 = nI (nW β) := m3.trans hw.1.2.2.2.2.2.2.2.1
  have hw4 := hw.1.2.2.2.2.2.2.2.2
  have hout : inR p (β 35 0).toInt → ¬ (inR k 4 ∧ inn R 1 15 ∧ inn v 0 4) → Ri (LY L) (PM (sp_wish β k R v p) σ) (some (.int (-2))) (LY L) σ := fun q1 q2 => Ri.mk (PM.of (by rw [sp_wish, if_neg (fun q => q q1), if_pos q2]) h FrM.rf)
  refine ev_aload_n dX5_wish_0 rfl ?_
  refine ev_iload dX5_wish_1 rfl ?_
  refine cVp1 dX5_wish_3 VX5_88 ⟨_, rfl⟩ rfl rfl (t_isFootB hw h _) ?_
  refine ev_if_ne 11 dX5_wish_6 (by decide) (fun c6 => ?_) (fun c6 => ?_)
  · rw [bI_n] at c6
    refine ev_iload_n dX5_wish_11 rfl ?_
    refine ev_iconst 0 dX5_wish_12 (by decide) ?_
    refine ev_iconst 3 dX5_wish_13 (by decide) ?_
    refine cSp3 dX5_wish_14 SX5_84 rfl rfl rfl rfl (t_in _ _ _) ?_
    refine ev_if_eq 39 dX5_wish_17 (by decide) (fun c17 => ?_) (fun c17 => ?_)
    · refine ev_bipush (-2) dX5_wish_39 (by decide) ?_
      refine ev_ireturn dX5_wish_41 rfl rfl rfl ?_
      first | exact hout c6 (fun q => by rw [bI_0, in03] at c17; exact c17 q.1) | exact hout c6 (fun q => by rw [bI_0] at c27; exact c27 q.2.1) | exact hout c6 (fun q => by rw [bI_0] at c36; exact c36 q.2.2)
    · rw [bI_n, in03] at c17
      refine ev_iload_n dX5_wish_20 rfl ?_
      refine ev_iconst 1 dX5_wish_21 (by decide) ?_
      refine ev_bipush 15 dX5_wish_22 (by decide) ?_
      refine cSp3 dX5_wish_24 SX5_84 rfl rfl rfl rfl (t_in _ _ _) ?_
      refine ev_if_eq 39 dX5_wish_27 (by decide) (fun c27 => ?_) (fun c27 => ?_)
      · refine ev_bipush (-2) dX5_wish_39 (by decide) ?_
        refine ev_ireturn dX5_wish_41 rfl rfl rfl ?_
        first | exact hout c6 (fun q => by rw [bI_0, in03] at c17; exact c17 q.1) | exact hout c6 (fun q => by rw [bI_0] at c27; exact c27 q.2.1) | exact hout c6 (fun q => by rw [bI_0] at c36; exact c36 q.2.2)
      · rw [bI_n] at c27
        refine ev_iload_n dX5_wish_30 rfl ?_
        refine ev_iconst 0 dX5_wish_31 (by decide) ?_
        refine ev_iconst 4 dX5_wish_32 (by decide) ?_
        refine cSp3 dX5_wish_33 SX5_84 rfl rfl rfl rfl (t_in _ _ _) ?_
        refine ev_if_ne 42 dX5_wish_36 (by decide) (fun c36 => ?_) (fun c36 => ?_)
        · rw [bI_n] at c36
          refine ev_aload_n dX5_wish_42 rfl ?_
          refine ev_getI dX5_wish_43 fX5_74 ⟨_, rfl, rfl⟩ ?_
          refine ev_iconst 4 dX5_wish_46 (by decide) ?_
          refine ev_icmp_ne 53 dX5_wish_47 (by decide) (fun c47 => ?_) (fun c47 => ?_)
          · have hlt : nW β < 4 := by rcases Nat.lt_or_ge (nW β) 4 with z | z; exact z; exact absurd (by rw [ew, show nW β = 4 by omega]; rfl) c47
            refine ev_aload_n dX5_wish_53 rfl ?_
            refine ev_getR dX5_wish_54 fX5_29 ⟨_, rfl, rfl⟩ ?_
            refine ev_aload_n dX5_wish_57 rfl ?_
            refine ev_getI dX5_wish_58 fX5_74 ⟨_, rfl, rfl⟩ ?_
            rw [ew]
            refine ev_iload_n dX5_wish_61 rfl ?_
            refine ev_iastore dX5_wish_62 (by decide) rfl (vp_in_nI hlt (by decide)) ?_
            rw [clN (by omega)]
            refine ev_aload_n dX5_wish_63 rfl ?_
            refine ev_getR dX5_wish_64 fX5_32 ⟨_, rfl, rfl⟩ ?_
            refine ev_aload_n dX5_wish_67 rfl ?_
            refine ev_getI dX5_wish_68 fX5_74 ⟨_, rfl, rfl⟩ ?_
            rw [show (ai_up σ 41 (nW β) k) 35 8 = nI (nW β) from ew]
            refine ev_iload_n dX5_wish_71 rfl ?_
            refine ev_iastore dX5_wish_72 (by decide) rfl (vp_in_nI hlt (by decide)) ?_
            rw [clN (by omega)]
            refine ev_aload_n dX5_wish_73 rfl ?_
            refine ev_getR dX5_wish_74 fX5_35 ⟨_, rfl, rfl⟩ ?_
            refine ev_aload_n dX5_wish_77 rfl ?_
            refine ev_getI dX5_wish_78 fX5_74 ⟨_, rfl, rfl⟩ ?_
            rw [show (ai_up (ai_up σ 41 (nW β) k) 42 (nW β) R) 35 8 = nI (nW β) from ew]
            refine ev_iload_n dX5_wish_81 rfl ?_
            refine ev_iastore dX5_wish_82 (by decide) rfl (vp_in_nI hlt (by decide)) ?_
            rw [clN (by omega)]
            refine ev_aload_n dX5_wish_83 rfl ?_
            refine ev_getR dX5_wish_84 fX5_38 ⟨_, rfl, rfl⟩ ?_
            refine ev_aload_n dX5_wish_87 rfl ?_
            refine ev_getI dX5_wish_88 fX5_74 ⟨_, rfl, rfl⟩ ?_
            rw [show (ai_up (ai_up (ai_up σ 41 (nW β) k) 42 (nW β) R) 43 (nW β) v) 35 8 = nI (nW β) from ew]
            refine ev_iload dX5_wish_91 rfl ?_
            refine ev_iastore dX5_wish_93 (by decide) rfl (vp_in_nI hlt (by decide)) ?_
            rw [clN (by omega)]
            refine ev_iconst 0 dX5_wish_94 (by decide) ?_
            refine ev_istore dX5_wish_95 (by decide) ?_
            refine mwish_loop (w := nW β) hlt (by exact ew) (fun σ1 a1 a2 => ?_) 4 0 rfl _ (fun j => by rw [if_neg (by omega)]) (fun _ _ => rfl)
            exact mwish_end hw h hlt c6 ⟨c17, c27, c36⟩ a1 a2
          · refine ev_bipush (-4) dX5_wish_50 (by decide) ?_
            refine ev_ireturn dX5_wish_52 rfl rfl rfl ?_
            exact Ri.mk (PM.of (by rw [sp_wish, if_neg (fun q => q c6), if_neg (fun q => q ⟨c17, c27, c36⟩), if_pos (by rw [ew] at c47; exact nI_inj (b := 4) (by omega) (by decide) c47)]) h FrM.rf)
        · refine ev_bipush (-2) dX5_wish_39 (by decide) ?_
          refine ev_ireturn dX5_wish_41 rfl rfl rfl ?_
          first | exact hout c6 (fun q => by rw [bI_0, in03] at c17; exact c17 q.1) | exact hout c6 (fun q => by rw [bI_0] at c27; exact c27 q.2.1) | exact hout c6 (fun q => by rw [bI_0] at c36; exact c36 q.2.2)
  · refine ev_iconst (-1) dX5_wish_9 (by decide) ?_
    refine ev_ireturn dX5_wish_10 rfl rfl rfl ?_
    rw [bI_0] at c6
    exact Ri.mk (PM.of (by rw [sp_wish, if_pos c6]) h FrM.rf)
theorem tm_wished (hw : WF β) (h : RM σ β) (w q : Int32) : ev mX5_wished (d + 2) 0 [some (.ref 35), some (.int w), some (.int q)] [] (LY L) σ 0 0 (Ri (LY L) (PM (sp_wished β w q) σ)) := by
  obtain ⟨m0, m1, m2, m3, m4, mV, mK, mU, mW, mX, mHu, mHf⟩ := id h
  have hww := hw.1.w
  have hw4 := hw.1.2.2.2.2.2.2.2.2
  refine ev_aload_n dX5_wished_0 rfl ?_
  refine ev_iload_n dX5_wished_1 rfl ?_
  refine cVp1 dX5_wished_2 VX5_95 ⟨_, rfl⟩ rfl rfl (t_isWishB hw h _) ?_
  refine ev_if_ne 10 dX5_wished_5 (by decide) (fun c5 => ?_) (fun c5 => ?_)
  · rw [bI_n] at c5
    have hlt : w.toNatClampNeg < 4 := by have := clampI c5.1; omega
    refine ev_iload_n dX5_wished_10 rfl ?_
    rcases sw4 q with rfl | rfl | rfl | rfl | hsw
    · refine ev_tableIn 40 dX5_wished_11 (by decide) (by decide) rfl (by decide) ?_
      refine ev_aload_n dX5_wished_40 rfl ?_
      refine ev_getR dX5_wished_41 fX5_29 ⟨_, rfl, rfl⟩ ?_
      refine ev_iload_n dX5_wished_44 rfl ?_
      refine ev_iaload dX5_wished_45 rfl (vin c5 (by omega)) ?_
      refine ev_ireturn dX5_wished_46 rfl rfl rfl ?_
      exact Ri.mk (PM.of (by rw [sp_wished, if_neg (fun z => z c5), if_pos rfl, (mW _ hlt).1]) h FrM.rf)
    · refine ev_tableIn 47 dX5_wished_11 (by decide) (by decide) rfl (by decide) ?_
      refine ev_aload_n dX5_wished_47 rfl ?_
      refine ev_getR dX5_wished_48 fX5_32 ⟨_, rfl, rfl⟩ ?_
      refine ev_iload_n dX5_wished_51 rfl ?_
      refine ev_iaload dX5_wished_52 rfl (vin c5 (by omega)) ?_
      refine ev_ireturn dX5_wished_53 rfl rfl rfl ?_
      exact Ri.mk (PM.of (by rw [sp_wished, if_neg (fun z => z c5), if_neg (by decide), if_pos rfl, (mW _ hlt).2.1]) h FrM.rf)
    · refine ev_tableIn 54 dX5_wished_11 (by decide) (by decide) rfl (by decide) ?_
      refine ev_aload_n dX5_wished_54 rfl ?_
      refine ev_getR dX5_wished_55 fX5_35 ⟨_, rfl, rfl⟩ ?_
      refine ev_iload_n dX5_wished_58 rfl ?_
      refine ev_iaload dX5_wished_59 rfl (vin c5 (by omega)) ?_
      refine ev_ireturn dX5_wished_60 rfl rfl rfl ?_
      exact Ri.mk (PM.of (by rw [sp_wished, if_neg (fun z => z c5), if_neg (by decide), if_neg (by decide), if_pos rfl, (mW _ hlt).2.2.1]) h FrM.rf)
    · refine ev_tableIn 61 dX5_wished_11 (by decide) (by decide) rfl (by decide) ?_
      refine ev_aload_n dX5_wished_61 rfl ?_
      refine ev_getR dX5_wished_62 fX5_38 ⟨_, rfl, rfl⟩ ?_
      refine ev_iload_n dX5_wished_65 rfl ?_
      refine ev_iaload dX5_wished_66 rfl (vin c5 (by omega)) ?_
      refine ev_ireturn dX5_wished_67 rfl rfl rfl ?_
      exact Ri.mk (PM.of (by rw [sp_wished, if_neg (fun z => z c5), if_neg (by decide), if_neg (by decide), if_neg (by decide), if_pos rfl, (mW _ hlt).2.2.2]) h FrM.rf)
    · refine ev_tableOut 68 dX5_wished_11 hsw (by decide) ?_
      refine ev_iload_n dX5_wished_68 rfl ?_
      refine ev_bipush 10 dX5_wished_69 (by decide) ?_
      refine ev_bipush 13 dX5_wished_71 (by decide) ?_
      refine cSp3 dX5_wished_73 SX5_84 rfl rfl rfl rfl (t_in _ _ _) ?_
      refine ev_if_eq 95 dX5_wished_76 (by decide) (fun c76 => ?_) (fun c76 => ?_)
      · refine ev_bipush (-2) dX5_wished_95 (by decide) ?_
        refine ev_ireturn dX5_wished_97 rfl rfl rfl ?_
        have hs0 : q ≠ 0 ∧ q ≠ 1 ∧ q ≠ 2 ∧ q ≠ 3 := by refine ⟨?_, ?_, ?_, ?_⟩ <;> rintro rfl <;> exact absurd hsw (by decide)
        first | exact Ri.mk (PM.of (by rw [sp_wished, if_neg (fun z => z c5), if_neg hs0.1, if_neg hs0.2.1, if_neg hs0.2.2.1, if_neg hs0.2.2.2, if_pos c76, e4.1, clN (by omega), mX _ (by omega)]) h FrM.rf) | exact Ri.mk (PM.of (by rw [sp_wished, if_neg (fun z => z c5), if_neg hs0.1, if_neg hs0.2.1, if_neg hs0.2.2.1, if_neg hs0.2.2.2, if_neg (bI_0.mp c76)]) h FrM.rf)
      · rw [bI_n] at c76
        have h1 : 10 ≤ q.toInt := by clear c5 hsw; simp only [inn, Int32.lt_iff_toInt_lt, Int32.le_iff_toInt_le, c0, c1n, c2n, c3n, c4, c10n, c13n, c14n, c15n, c16n, cm1n] at *; omega
        have h2 : q.toInt ≤ 13 := by clear c5 hsw; simp only [inn, Int32.lt_iff_toInt_lt, Int32.le_iff_toInt_le, c0, c1n, c2n, c3n, c4, c10n, c13n, c14n, c15n, c16n, cm1n] at *; omega
        have e4 := ixw (n := nW β) (by omega) (by rw [← hww]; exact c5) h1 h2
        rw [Int32.mul_comm] at e4
        refine ev_aload_n dX5_wished_79 rfl ?_
        refine ev_getR dX5_wished_80 fX5_41 ⟨_, rfl, rfl⟩ ?_
        refine ev_iconst 4 dX5_wished_83 (by decide) ?_
        refine ev_iload_n dX5_wished_84 rfl ?_
        refine ev_imul dX5_wished_85 ?_
        refine ev_iload_n dX5_wished_86 rfl ?_
        refine ev_iadd dX5_wished_87 ?_
        refine ev_bipush 10 dX5_wished_88 (by decide) ?_
        refine ev_isub dX5_wished_90 ?_
        refine ev_iaload dX5_wished_91 rfl (by rw [e4.1]; exact vp_in_nI (by omega) (by decide)) ?_
        refine ev_goto 97 dX5_wished_92 (by decide) ?_
        refine ev_ireturn dX5_wished_97 rfl rfl rfl ?_
        have hs0 : q ≠ 0 ∧ q ≠ 1 ∧ q ≠ 2 ∧ q ≠ 3 := by refine ⟨?_, ?_, ?_, ?_⟩ <;> rintro rfl <;> exact absurd hsw (by decide)
        first | exact Ri.mk (PM.of (by rw [sp_wished, if_neg (fun z => z c5), if_neg hs0.1, if_neg hs0.2.1, if_neg hs0.2.2.1, if_neg hs0.2.2.2, if_pos c76, e4.1, clN (by omega), mX _ (by omega)]) h FrM.rf) | exact Ri.mk (PM.of (by rw [sp_wished, if_neg (fun z => z c5), if_neg hs0.1, if_neg hs0.2.1, if_neg hs0.2.2.1, if_neg hs0.2.2.2, if_neg (bI_0.mp c76)]) h FrM.rf)
  · refine ev_iconst (-1) dX5_wished_8 (by decide) ?_
    refine ev_ireturn dX5_wished_9 rfl rfl rfl ?_
    rw [bI_0] at c5
    exact Ri.mk (PM.of (if_pos c5) h FrM.rf)
theorem tm_fix (hw : WF β) (h : RM σ β) (w r f : Int32) : ev mX5_fix (d + 2) 0 [some (.ref 35), some (.int w), some (.int r), some (.int f), none] [] (LY L) σ 0 0 (Ri (LY L) (PM (sp_fix β w r f) σ)) := by
  obtain ⟨m0, m1, m2, m3, m4, mV, mK, mU, mW, mX, mHu, mHf⟩ := id h
  have hww := hw.1.w
  have hw4 := hw.1.2.2.2.2.2.2.2.2
  have hno : ¬ (inR w (β 35 8).toInt ∧ (f = -1 ∨ inR f (β 35 0).toInt)) → Ri (LY L) (PM (sp_fix β w r f) σ) (some (.int (-1))) (LY L) σ := fun q => Ri.mk (PM.of (if_pos q) h FrM.rf)
  refine ev_aload_n dX5_fix_0 rfl ?_
  refine ev_iload_n dX5_fix_1 rfl ?_
  refine cVp1 dX5_fix_2 VX5_95 ⟨_, rfl⟩ rfl rfl (t_isWishB hw h _) ?_
  refine ev_if_eq 21 dX5_fix_5 (by decide) (fun c5 => ?_) (fun c5 => ?_)
  · refine ev_iconst (-1) dX5_fix_21 (by decide) ?_
    refine ev_ireturn dX5_fix_22 rfl rfl rfl ?_
    first | exact hno (fun z => by rw [bI_0] at c5; exact c5 z.1) | exact hno (fun z => by rw [bI_0] at c18; exact z.2.elim c10 c18)
  · rw [bI_n] at c5
    refine ev_iload_n dX5_fix_8 rfl ?_
    refine ev_iconst (-1) dX5_fix_9 (by decide) ?_
    refine ev_icmp_eq 23 dX5_fix_10 (by decide) (fun c10 => ?_) (fun c10 => ?_)
    · have q1 : inR w (β 35 8).toInt ∧ (f = -1 ∨ inR f (β 35 0).toInt) := ⟨c5, by first | exact Or.inl c10 | (rw [bI_n] at c18; exact Or.inr c18)⟩
      obtain ⟨w', hw', ew, ew'⟩ := inRn (k := nW β) (by rw [← hww]; exact c5)
      clear c5 hno
      refine ev_aload_n dX5_fix_23 rfl ?_
      refine ev_iload_n dX5_fix_24 rfl ?_
      refine ev_iload_n dX5_fix_25 rfl ?_
      refine cVp2 dX5_fix_26 VX5_98 ⟨_, rfl⟩ rfl rfl rfl (by rw [ew]; exact t_hasRoleB hw h hw' _) ?_
      refine ev_if_ne 35 dX5_fix_29 (by decide) (fun c29 => ?_) (fun c29 => ?_)
      · rw [bI_n] at c29
        obtain ⟨r', hr', er, er'⟩ := inR4 c29.1
        have e4 : 4 * w + r = nI (4 * w' + r') := by rw [ew, er, show (4 : Int32) = nI 4 from rfl, pk_mul, nI_add]
        have esp : sp_fix β w r f = (β 45 (4 * w' + r'), ai_up β 45 (4 * w' + r') (if f = -1 then -6 else f)) := by rw [sp_fix, if_neg (fun z => z q1), if_neg (fun z => z (by rw [ew']; exact c29)), ew', er']
        refine ev_aload_n dX5_fix_35 rfl ?_
        refine ev_getR dX5_fix_36 fX5_41 ⟨_, rfl, rfl⟩ ?_
        refine ev_iconst 4 dX5_fix_39 (by decide) ?_
        refine ev_iload_n dX5_fix_40 rfl ?_
        refine ev_imul dX5_fix_41 ?_
        refine ev_iload_n dX5_fix_42 rfl ?_
        refine ev_iadd dX5_fix_43 ?_
        rw [e4]
        refine ev_iaload dX5_fix_44 rfl (vp_in_nI (by omega) (by decide)) ?_
        rw [clN (by omega)]
        refine ev_istore dX5_fix_45 (by decide) ?_
        refine ev_aload_n dX5_fix_47 rfl ?_
        refine ev_getR dX5_fix_48 fX5_41 ⟨_, rfl, rfl⟩ ?_
        refine ev_iconst 4 dX5_fix_51 (by decide) ?_
        refine ev_iload_n dX5_fix_52 rfl ?_
        refine ev_imul dX5_fix_53 ?_
        refine ev_iload_n dX5_fix_54 rfl ?_
        refine ev_iadd dX5_fix_55 ?_
        rw [e4]
        refine ev_iload_n dX5_fix_56 rfl ?_
        refine ev_iconst (-1) dX5_fix_57 (by decide) ?_
        refine ev_icmp_ne 66 dX5_fix_58 (by decide) (fun c58 => ?_) (fun c58 => ?_)
        · refine ev_iload_n dX5_fix_66 rfl ?_
          refine ev_iastore dX5_fix_67 (by decide) rfl (vp_in_nI (by omega) (by decide)) ?_
          rw [clN (by omega)]
          refine ev_iload dX5_fix_68 rfl ?_
          refine ev_ireturn dX5_fix_70 rfl rfl rfl ?_
          refine Ri.mk (PM.of (β' := ai_up β 45 (4 * w' + r') (if f = -1 then -6 else f)) (by rw [esp, mX _ (by omega)]) ⟨m0, m1, m2, m3, m4, mV, mK, mU, mW, ?_, mHu, mHf⟩ (FrM.rf.up (by decide)))
          intro j hj
          have := upd_eq mX (4 * w' + r') (if f = -1 then -6 else f) j hj
          first | (rw [if_pos (show f = -1 from c58)] at this; show upd (σ 45) _ _ _ = upd (β 45) _ _ _; rw [if_pos (show f = -1 from c58)]; exact this) | (rw [if_neg c58] at this; show upd (σ 45) _ _ _ = upd (β 45) _ _ _; rw [if_neg c58]; exact this)
        · refine ev_bipush (-6) dX5_fix_61 (by decide) ?_
          refine ev_goto 67 dX5_fix_63 (by decide) ?_
          refine ev_iastore dX5_fix_67 (by decide) rfl (vp_in_nI (by omega) (by decide)) ?_
          rw [clN (by omega)]
          refine ev_iload dX5_fix_68 rfl ?_
          refine ev_ireturn dX5_fix_70 rfl rfl rfl ?_
          refine Ri.mk (PM.of (β' := ai_up β 45 (4 * w' + r') (if f = -1 then -6 else f)) (by rw [esp, mX _ (by omega)]) ⟨m0, m1, m2, m3, m4, mV, mK, mU, mW, ?_, mHu, mHf⟩ (FrM.rf.up (by decide)))
          intro j hj
          have := upd_eq mX (4 * w' + r') (if f = -1 then -6 else f) j hj
          first | (rw [if_pos (show f = -1 from c58)] at this; show upd (σ 45) _ _ _ = upd (β 45) _ _ _; rw [if_pos (show f = -1 from c58)]; exact this) | (rw [if_neg c58] at this; show upd (σ 45) _ _ _ = upd (β 45) _ _ _; rw [if_neg c58]; exact this)
      · refine ev_bipush (-2) dX5_fix_32 (by decide) ?_
        refine ev_ireturn dX5_fix_34 rfl rfl rfl ?_
        rw [bI_0] at c29
        exact Ri.mk (PM.of (by rw [sp_fix, if_neg (fun z => z q1), if_pos (by rw [ew']; exact c29)]) h FrM.rf)
    · refine ev_aload_n dX5_fix_13 rfl ?_
      refine ev_iload_n dX5_fix_14 rfl ?_
      refine cVp1 dX5_fix_15 VX5_88 ⟨_, rfl⟩ rfl rfl (t_isFootB hw h _) ?_
      refine ev_if_ne 23 dX5_fix_18 (by decide) (fun c18 => ?_) (fun c18 => ?_)
      · have q1 : inR w (β 35 8).toInt ∧ (f = -1 ∨ inR f (β 35 0).toInt) := ⟨c5, by first | exact Or.inl c10 | (rw [bI_n] at c18; exact Or.inr c18)⟩
        obtain ⟨w', hw', ew, ew'⟩ := inRn (k := nW β) (by rw [← hww]; exact c5)
        clear c5 hno
        refine ev_aload_n dX5_fix_23 rfl ?_
        refine ev_iload_n dX5_fix_24 rfl ?_
        refine ev_iload_n dX5_fix_25 rfl ?_
        refine cVp2 dX5_fix_26 VX5_98 ⟨_, rfl⟩ rfl rfl rfl (by rw [ew]; exact t_hasRoleB hw h hw' _) ?_
        refine ev_if_ne 35 dX5_fix_29 (by decide) (fun c29 => ?_) (fun c29 => ?_)
        · rw [bI_n] at c29
          obtain ⟨r', hr', er, er'⟩ := inR4 c29.1
          have e4 : 4 * w + r = nI (4 * w' + r') := by rw [ew, er, show (4 : Int32) = nI 4 from rfl, pk_mul, nI_add]
          have esp : sp_fix β w r f = (β 45 (4 * w' + r'), ai_up β 45 (4 * w' + r') (if f = -1 then -6 else f)) := by rw [sp_fix, if_neg (fun z => z q1), if_neg (fun z => z (by rw [ew']; exact c29)), ew', er']
          refine ev_aload_n dX5_fix_35 rfl ?_
          refine ev_getR dX5_fix_36 fX5_41 ⟨_, rfl, rfl⟩ ?_
          refine ev_iconst 4 dX5_fix_39 (by decide) ?_
          refine ev_iload_n dX5_fix_40 rfl ?_
          refine ev_imul dX5_fix_41 ?_
          refine ev_iload_n dX5_fix_42 rfl ?_
          refine ev_iadd dX5_fix_43 ?_
          rw [e4]
          refine ev_iaload dX5_fix_44 rfl (vp_in_nI (by omega) (by decide)) ?_
          rw [clN (by omega)]
          refine ev_istore dX5_fix_45 (by decide) ?_
          refine ev_aload_n dX5_fix_47 rfl ?_
          refine ev_getR dX5_fix_48 fX5_41 ⟨_, rfl, rfl⟩ ?_
          refine ev_iconst 4 dX5_fix_51 (by decide) ?_
          refine ev_iload_n dX5_fix_52 rfl ?_
          refine ev_imul dX5_fix_53 ?_
          refine ev_iload_n dX5_fix_54 rfl ?_
          refine ev_iadd dX5_fix_55 ?_
          rw [e4]
          refine ev_iload_n dX5_fix_56 rfl ?_
          refine ev_iconst (-1) dX5_fix_57 (by decide) ?_
          refine ev_icmp_ne 66 dX5_fix_58 (by decide) (fun c58 => ?_) (fun c58 => ?_)
          · refine ev_iload_n dX5_fix_66 rfl ?_
            refine ev_iastore dX5_fix_67 (by decide) rfl (vp_in_nI (by omega) (by decide)) ?_
            rw [clN (by omega)]
            refine ev_iload dX5_fix_68 rfl ?_
            refine ev_ireturn dX5_fix_70 rfl rfl rfl ?_
            refine Ri.mk (PM.of (β' := ai_up β 45 (4 * w' + r') (if f = -1 then -6 else f)) (by rw [esp, mX _ (by omega)]) ⟨m0, m1, m2, m3, m4, mV, mK, mU, mW, ?_, mHu, mHf⟩ (FrM.rf.up (by decide)))
            intro j hj
            have := upd_eq mX (4 * w' + r') (if f = -1 then -6 else f) j hj
            first | (rw [if_pos (show f = -1 from c58)] at this; show upd (σ 45) _ _ _ = upd (β 45) _ _ _; rw [if_pos (show f = -1 from c58)]; exact this) | (rw [if_neg c58] at this; show upd (σ 45) _ _ _ = upd (β 45) _ _ _; rw [if_neg c58]; exact this)
          · refine ev_bipush (-6) dX5_fix_61 (by decide) ?_
            refine ev_goto 67 dX5_fix_63 (by decide) ?_
            refine ev_iastore dX5_fix_67 (by decide) rfl (vp_in_nI (by omega) (by decide)) ?_
            rw [clN (by omega)]
            refine ev_iload dX5_fix_68 rfl ?_
            refine ev_ireturn dX5_fix_70 rfl rfl rfl ?_
            refine Ri.mk (PM.of (β' := ai_up β 45 (4 * w' + r') (if f = -1 then -6 else f)) (by rw [esp, mX _ (by omega)]) ⟨m0, m1, m2, m3, m4, mV, mK, mU, mW, ?_, mHu, mHf⟩ (FrM.rf.up (by decide)))
            intro j hj
            have := upd_eq mX (4 * w' + r') (if f = -1 then -6 else f) j hj
            first | (rw [if_pos (show f = -1 from c58)] at this; show upd (σ 45) _ _ _ = upd (β 45) _ _ _; rw [if_pos (show f = -1 from c58)]; exact this) | (rw [if_neg c58] at this; show upd (σ 45) _ _ _ = upd (β 45) _ _ _; rw [if_neg c58]; exact this)
        · refine ev_bipush (-2) dX5_fix_32 (by decide) ?_
          refine ev_ireturn dX5_fix_34 rfl rfl rfl ?_
          rw [bI_0] at c29
          exact Ri.mk (PM.of (by rw [sp_fix, if_neg (fun z => z q1), if_pos (by rw [ew']; exact c29)]) h FrM.rf)
      · refine ev_iconst (-1) dX5_fix_21 (by decide) ?_
        refine ev_ireturn dX5_fix_22 rfl rfl rfl ?_
        first | exact hno (fun z => by rw [bI_0] at c5; exact c5 z.1) | exact hno (fun z => by rw [bI_0] at c18; exact z.2.elim c10 c18)
theorem tm_drop (hw : WF β) (h : RM σ β) : ev mX5_drop d 0 [some (.ref 35)] [] (LY L) σ 0 0 (Ri (LY L) (PM (sp_drop β) σ)) := by
  obtain ⟨m0, m1, m2, m3, m4, mV, mK, mU, mW, mX, mHu, mHf⟩ := id h
  have ew : σ 35 8 = nI (nW β) := m3.trans hw.1.2.2.2.2.2.2.2.1
  have hw4 := hw.1.2.2.2.2.2.2.2.2
  refine ev_aload_n dX5_drop_0 rfl ?_
  refine ev_getI dX5_drop_1 fX5_74 ⟨_, rfl, rfl⟩ ?_
  refine ev_if_ne 9 dX5_drop_4 (by decide) (fun c4 => ?_) (fun c4 => ?_)
  · have hpos : 0 < nW β := by rcases Nat.eq_zero_or_pos (nW β) with z | z; exact absurd (by rw [ew, z]; rfl) c4; exact z
    refine ev_aload_n dX5_drop_9 rfl ?_
    refine ev_dup dX5_drop_10 rfl ?_
    refine ev_getI dX5_drop_11 fX5_74 ⟨_, rfl, rfl⟩ ?_
    refine ev_iconst 1 dX5_drop_14 (by decide) ?_
    refine ev_isub dX5_drop_15 ?_
    rw [ew, show (1 : Int32) = nI 1 from rfl, pk_sub (by omega)]
    refine ev_putI dX5_drop_16 fX5_74 ⟨_, rfl, rfl⟩ rfl rfl ?_
    refine ev_aload_n dX5_drop_19 rfl ?_
    refine ev_getI dX5_drop_20 fX5_74 ⟨_, rfl, rfl⟩ ?_
    refine ev_ireturn dX5_drop_23 rfl rfl rfl ?_
    exact Ri.mk (PM.of (β' := ai_up β 35 8 (nI (nW β - 1))) (by rw [sp_drop, if_neg (by omega)]; rfl) ⟨m0, m1, m2, rfl, m4, mV, mK, mU, mW, mX, mHu, mHf⟩ (FrM.rf.up (by decide)))
  · refine ev_iconst (-1) dX5_drop_7 (by decide) ?_
    refine ev_ireturn dX5_drop_8 rfl rfl rfl ?_
    exact Ri.mk (PM.of (by rw [sp_drop, if_pos (by rw [ew] at c4; exact nI_inj (b := 0) (by omega) (by decide) c4)]) h FrM.rf)
theorem tm_held (hw : WF β) (h : RM σ β) (w r : Int32) : ev mX5_held (d + 1) 0 [some (.ref 35), some (.int w), some (.int r)] [] (LY L) σ 0 0 (Ri (LY L) (PM (sp_held β w r) σ)) := by
  obtain ⟨m0, m1, m2, m3, m4, mV, mK, mU, mW, mX, mHu, mHf⟩ := id h
  refine ev_iload_n dX5_held_0 rfl ?_
  refine ev_iconst 0 dX5_held_1 (by decide) ?_
  refine ev_iconst 3 dX5_held_2 (by decide) ?_
  refine cSp3 dX5_held_3 SX5_84 rfl rfl rfl rfl (t_in _ _ _) ?_
  refine ev_if_ne 11 dX5_held_6 (by decide) (fun c6 => ?_) (fun c6 => ?_)
  · rw [bI_n, in03] at c6
    obtain ⟨w', hw', ew, ew'⟩ := inR4 c6
    refine ev_iload_n dX5_held_11 rfl ?_
    refine ev_iconst (-1) dX5_held_12 (by decide) ?_
    refine ev_iconst 3 dX5_held_13 (by decide) ?_
    refine cSp3 dX5_held_14 SX5_84 rfl rfl rfl rfl (t_in _ _ _) ?_
    refine ev_if_ne 25 dX5_held_17 (by decide) (fun c17 => ?_) (fun c17 => ?_)
    · rw [bI_n] at c17
      refine ev_iload_n dX5_held_25 rfl ?_
      refine ev_iconst (-1) dX5_held_26 (by decide) ?_
      refine ev_icmp_ne 39 dX5_held_27 (by decide) (fun c27 => ?_) (fun c27 => ?_)
      · have q2 : inR r 4 := by have c27' : ¬ r.toInt = -1 := (fun z => c27 (Int32.toInt_inj.mp z)); clear c6 c27; simp only [inn, Int32.lt_iff_toInt_lt, Int32.le_iff_toInt_le, c0, c1n, c2n, c3n, c4, c10n, c13n, c14n, c15n, c16n, cm1n] at *; omega
        obtain ⟨r', hr', er, er'⟩ := inR4 q2
        have e4 : 4 * w + r = nI (4 * w' + r') := by rw [ew, er, show (4 : Int32) = nI 4 from rfl, pk_mul, nI_add]
        refine ev_aload_n dX5_held_39 rfl ?_
        refine ev_getR dX5_held_40 fX5_47 ⟨_, rfl, rfl⟩ ?_
        refine ev_iconst 4 dX5_held_43 (by decide) ?_
        refine ev_iload_n dX5_held_44 rfl ?_
        refine ev_imul dX5_held_45 ?_
        refine ev_iload_n dX5_held_46 rfl ?_
        refine ev_iadd dX5_held_47 ?_
        rw [e4]
        refine ev_iaload dX5_held_48 rfl (vp_in_nI (by omega) (by decide)) ?_
        refine ev_ireturn dX5_held_49 rfl rfl rfl ?_
        first | exact Ri.mk (PM.of (by rw [sp_held, if_neg (fun z => z c6), if_pos (bI_0.mp c17)]) h FrM.rf) | exact Ri.mk (PM.of (by rw [sp_held, if_neg (fun z => z c6), if_neg (fun z => z c17), if_pos (show r = -1 from c27), mHu _ (by omega)]) h FrM.rf) | exact Ri.mk (PM.of (by rw [sp_held, if_neg (fun z => z c6), if_neg (fun z => z c17), if_neg c27, ew', er', clN (by omega), mHf _ (by omega)]) h FrM.rf)
      · refine ev_aload_n dX5_held_30 rfl ?_
        refine ev_getR dX5_held_31 fX5_44 ⟨_, rfl, rfl⟩ ?_
        refine ev_iload_n dX5_held_34 rfl ?_
        refine ev_iaload dX5_held_35 rfl (vin c6 (by decide)) ?_
        refine ev_goto 49 dX5_held_36 (by decide) ?_
        refine ev_ireturn dX5_held_49 rfl rfl rfl ?_
        first | exact Ri.mk (PM.of (by rw [sp_held, if_neg (fun z => z c6), if_pos (bI_0.mp c17)]) h FrM.rf) | exact Ri.mk (PM.of (by rw [sp_held, if_neg (fun z => z c6), if_neg (fun z => z c17), if_pos (show r = -1 from c27), mHu _ (by omega)]) h FrM.rf) | exact Ri.mk (PM.of (by rw [sp_held, if_neg (fun z => z c6), if_neg (fun z => z c17), if_neg c27, ew', er', clN (by omega), mHf _ (by omega)]) h FrM.rf)
    · refine ev_bipush (-2) dX5_held_20 (by decide) ?_
      refine ev_goto 49 dX5_held_22 (by decide) ?_
      refine ev_ireturn dX5_held_49 rfl rfl rfl ?_
      first | exact Ri.mk (PM.of (by rw [sp_held, if_neg (fun z => z c6), if_pos (bI_0.mp c17)]) h FrM.rf) | exact Ri.mk (PM.of (by rw [sp_held, if_neg (fun z => z c6), if_neg (fun z => z c17), if_pos (show r = -1 from c27), mHu _ (by omega)]) h FrM.rf) | exact Ri.mk (PM.of (by rw [sp_held, if_neg (fun z => z c6), if_neg (fun z => z c17), if_neg c27, ew', er', clN (by omega), mHf _ (by omega)]) h FrM.rf)
  · refine ev_iconst (-1) dX5_held_9 (by decide) ?_
    refine ev_ireturn dX5_held_10 rfl rfl rfl ?_
    rw [bI_0, in03] at c6
    exact Ri.mk (PM.of (by rw [sp_held, if_pos c6]) h FrM.rf)
end MB3
