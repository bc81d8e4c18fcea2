theorem bI_congr {p q : Prop} [Decidable p] [Decidable q] (h : p ↔ q) : bI p = bI q := by
  unfold bI
  by_cases hp : p
  · rw [if_pos hp, if_pos (h.mp hp)]
  · rw [if_neg hp, if_neg (fun z => hp (h.mpr z))]
theorem wants_iff {R : Nat} (hR : R < 2 ^ 31) {x : Int32} : (inR x 4 ∧ ¬ (nI R >>> (x &&& 31)) &&& 1 = 0) ↔ (inR x 4 ∧ R.testBit x.toNatClampNeg = true) := by
  constructor
  · rintro ⟨h, h2⟩
    refine ⟨h, ?_⟩
    rw [nnI h.1, bit_0 hR (by have := clampI h.1; omega)] at h2
    simpa using h2
  · rintro ⟨h, h2⟩
    refine ⟨h, ?_⟩
    rw [nnI h.1, bit_0 hR (by have := clampI h.1; omega), h2]
    decide
section CB4
variable {σ β : ai_M} {d L : Nat} {Bst : BS}
theorem rolN (hw : WF β) {w : Nat} (h : w < nW β) : β 42 w = nI (β 42 w).toNatClampNeg ∧ (β 42 w).toNatClampNeg ≤ 15 ∧ 1 ≤ (β 42 w).toNatClampNeg := by
  obtain ⟨⟨R, h1, h2, h3⟩, -⟩ := hw.2.2.1 w h
  have e : (β 42 w).toNatClampNeg = R := by rw [h3]; exact clN (by omega)
  rw [e]
  exact ⟨h3, h2, h1⟩
theorem t_wantsB (hw : WF β) (hW : rcW σ β) {w : Nat} (h : w < nW β) (x : Int32) : ev mX0_wants (d + 1) 0 [some (.ref 8), some (.int (nI w)), some (.int x)] [] (LY L) σ 0 0 (Rp (LY L) σ (bI (inR x 4 ∧ (β 42 w).toNatClampNeg.testBit x.toNatClampNeg = true))) := by
  have h4 := hw.1.2.2.2.2.2.2.2.2
  have := t_wants (σ := σ) (d := d) (L := L) (w := nI w) (x := x) (vp_in_nI (by omega) (by decide))
  rw [clN (by omega), (hW w h).2.1] at this
  obtain ⟨r1, r2, -⟩ := rolN hw h
  have e : bI (inR x 4 ∧ ¬ (β 42 w >>> (x &&& 31)) &&& 1 = 0) = bI (inR x 4 ∧ (β 42 w).toNatClampNeg.testBit x.toNatClampNeg = true) := by
    refine bI_congr ?_
    rw [r1, wants_iff (by omega), ← r1]
  rw [e] at this
  exact this
theorem ixw {w q : Int32} {n : Nat} (hn : n ≤ 4) (h : inR w n) (h1 : 10 ≤ q.toInt) (h2 : q.toInt ≤ 13) : w * 4 + q - 10 = nI (4 * w.toNatClampNeg + (q.toNatClampNeg - 10)) ∧ w.toNatClampNeg < n ∧ q.toNatClampNeg - 10 < 4 := by
  have a1 := clampI h.1
  have a2 := clampI (x := q) (by omega)
  refine ⟨?_, by omega, by omega⟩
  rw [nnI h.1, nnI (x := q) (by omega), clN (by omega), clN (by omega), show (4 : Int32) = nI 4 from rfl, show (10 : Int32) = nI 10 from rfl, pk_mul, nI_add, pk_sub (by omega)]
  congr 1
  omega
theorem tc_wished (hw : WF β) (h : RB σ β) (hc : rcC Bst σ β) (w q : Int32) : ev mX4_wished (d + 1) 0 [some (.ref 2), some (.int w), some (.int q)] [] (LY L) σ 0 0 (Ri (LY L) (PC Bst (sp_wished β w q) σ)) := by
  obtain ⟨hN, hV, hK, hU, hA, hW, hX, hH⟩ := id h
  have e0 : (σ 8 0).toInt = (β 35 8).toInt := by rw [hN.2.2.2]
  have hww := hw.1.w
  have hw4 := hw.1.2.2.2.2.2.2.2.2
  refine ev_aload_n dX4_wished_0 rfl ?_
  refine ev_getR dX4_wished_1 fX4_19 ⟨_, rfl, rfl⟩ ?_
  refine ev_iload_n dX4_wished_4 rfl ?_
  refine cVp1 dX4_wished_5 VX4_109 ⟨_, rfl⟩ rfl rfl (t_hasWish _) ?_
  refine ev_if_ne 13 dX4_wished_8 (by decide) (fun c8 => ?_) (fun c8 => ?_)
  · rw [bI_n, e0] at c8
    have hlt : w.toNatClampNeg < nW β := by have := clampI c8.1; omega
    refine ev_iload_n dX4_wished_13 rfl ?_
    rcases sw4 q with rfl | rfl | rfl | rfl | hsw
    · refine ev_tableIn 44 dX4_wished_14 (by decide) (by decide) rfl (by decide) ?_
      refine ev_aload_n dX4_wished_44 rfl ?_
      refine ev_getR dX4_wished_45 fX4_19 ⟨_, rfl, rfl⟩ ?_
      refine ev_getR dX4_wished_48 fX4_112 ⟨_, rfl, rfl⟩ ?_
      refine ev_iload_n dX4_wished_51 rfl ?_
      refine ev_iaload dX4_wished_52 rfl (vin c8 (by omega)) ?_
      refine ev_ireturn dX4_wished_53 rfl rfl rfl ?_
      exact Ri.mk (PC.of (by rw [sp_wished, if_neg (fun z => z c8), if_pos rfl, (hW _ hlt).1]) h hc FrC.rf)
    · refine ev_tableIn 54 dX4_wished_14 (by decide) (by decide) rfl (by decide) ?_
      refine ev_aload_n dX4_wished_54 rfl ?_
      refine ev_getR dX4_wished_55 fX4_19 ⟨_, rfl, rfl⟩ ?_
      refine ev_getR dX4_wished_58 fX4_113 ⟨_, rfl, rfl⟩ ?_
      refine ev_iload_n dX4_wished_61 rfl ?_
      refine ev_iaload dX4_wished_62 rfl (vin c8 (by omega)) ?_
      refine ev_ireturn dX4_wished_63 rfl rfl rfl ?_
      exact Ri.mk (PC.of (by rw [sp_wished, if_neg (fun z => z c8), if_neg (by decide), if_pos rfl, (hW _ hlt).2.1]) h hc FrC.rf)
    · refine ev_tableIn 64 dX4_wished_14 (by decide) (by decide) rfl (by decide) ?_
      refine ev_aload_n dX4_wished_64 rfl ?_
      refine ev_getR dX4_wished_65 fX4_19 ⟨_, rfl, rfl⟩ ?_
      refine ev_getR dX4_wished_68 fX4_116 ⟨_, rfl, rfl⟩ ?_
      refine ev_iload_n dX4_wished_71 rfl ?_
      refine ev_iaload dX4_wished_72 rfl (vin c8 (by omega)) ?_
      refine ev_ireturn dX4_wished_73 rfl rfl rfl ?_
      exact Ri.mk (PC.of (by rw [sp_wished, if_neg (fun z => z c8), if_neg (by decide), if_neg (by decide), if_pos rfl, (hW _ hlt).2.2.1]) h hc FrC.rf)
    · refine ev_tableIn 74 dX4_wished_14 (by decide) (by decide) rfl (by decide) ?_
      refine ev_aload_n dX4_wished_74 rfl ?_
      refine ev_getR dX4_wished_75 fX4_19 ⟨_, rfl, rfl⟩ ?_
      refine ev_getR dX4_wished_78 fX4_117 ⟨_, rfl, rfl⟩ ?_
      refine ev_iload_n dX4_wished_81 rfl ?_
      refine ev_iaload dX4_wished_82 rfl (vin c8 (by omega)) ?_
      refine ev_ireturn dX4_wished_83 rfl rfl rfl ?_
      exact Ri.mk (PC.of (by rw [sp_wished, if_neg (fun z => z c8), if_neg (by decide), if_neg (by decide), if_neg (by decide), if_pos rfl, (hW _ hlt).2.2.2]) h hc FrC.rf)
    · refine ev_tableOut 84 dX4_wished_14 hsw (by decide) ?_
      refine ev_iload_n dX4_wished_84 rfl ?_
      refine ev_bipush 10 dX4_wished_85 (by decide) ?_
      refine ev_icmp_lt 115 dX4_wished_87 (by decide) (fun c87 => ?_) (fun c87 => ?_)
      · refine ev_bipush (-2) dX4_wished_115 (by decide) ?_
        refine ev_ireturn dX4_wished_117 rfl rfl rfl ?_
        have hs0 : q ≠ 0 ∧ q ≠ 1 ∧ q ≠ 2 ∧ q ≠ 3 := by refine ⟨?_, ?_, ?_, ?_⟩ <;> rintro rfl <;> exact absurd hsw (by decide)
        first | exact Ri.mk (PC.of (by rw [sp_wished, if_neg (fun z => z c8), if_neg hs0.1, if_neg hs0.2.1, if_neg hs0.2.2.1, if_neg hs0.2.2.2, if_pos hq, e4.1, clN (by omega), hX _ (by omega)]) h hc FrC.rf) | exact Ri.mk (PC.of (by rw [sp_wished, if_neg (fun z => z c8), if_neg hs0.1, if_neg hs0.2.1, if_neg hs0.2.2.1, if_neg hs0.2.2.2, if_neg (fun z => by clear c8 hsw; simp only [inn, Int32.lt_iff_toInt_lt, Int32.le_iff_toInt_le, c0, c1n, c2n, c3n, c4, c10n, c13n, c14n, c15n, c16n, cm1n] at *; omega)]) h hc FrC.rf)
      · refine ev_iload_n dX4_wished_90 rfl ?_
        refine ev_bipush 14 dX4_wished_91 (by decide) ?_
        refine ev_icmp_ge 115 dX4_wished_93 (by decide) (fun c93 => ?_) (fun c93 => ?_)
        · refine ev_bipush (-2) dX4_wished_115 (by decide) ?_
          refine ev_ireturn dX4_wished_117 rfl rfl rfl ?_
          have hs0 : q ≠ 0 ∧ q ≠ 1 ∧ q ≠ 2 ∧ q ≠ 3 := by refine ⟨?_, ?_, ?_, ?_⟩ <;> rintro rfl <;> exact absurd hsw (by decide)
          first | exact Ri.mk (PC.of (by rw [sp_wished, if_neg (fun z => z c8), if_neg hs0.1, if_neg hs0.2.1, if_neg hs0.2.2.1, if_neg hs0.2.2.2, if_pos hq, e4.1, clN (by omega), hX _ (by omega)]) h hc FrC.rf) | exact Ri.mk (PC.of (by rw [sp_wished, if_neg (fun z => z c8), if_neg hs0.1, if_neg hs0.2.1, if_neg hs0.2.2.1, if_neg hs0.2.2.2, if_neg (fun z => by clear c8 hsw; simp only [inn, Int32.lt_iff_toInt_lt, Int32.le_iff_toInt_le, c0, c1n, c2n, c3n, c4, c10n, c13n, c14n, c15n, c16n, cm1n] at *; omega)]) h hc FrC.rf)
        · have hq : inn q 10 13 := by clear c8 hsw; simp only [inn, Int32.lt_iff_toInt_lt, Int32.le_iff_toInt_le, c0, c1n, c2n, c3n, c4, c10n, c13n, c14n, c15n, c16n, cm1n] at *; omega
          have h1 : 10 ≤ q.toInt := by clear c8 hsw hq; simp only [inn, Int32.lt_iff_toInt_lt, Int32.le_iff_toInt_le, c0, c1n, c2n, c3n, c4, c10n, c13n, c14n, c15n, c16n, cm1n] at *; omega
          have h2 : q.toInt ≤ 13 := by clear c8 hsw hq; simp only [inn, Int32.lt_iff_toInt_lt, Int32.le_iff_toInt_le, c0, c1n, c2n, c3n, c4, c10n, c13n, c14n, c15n, c16n, cm1n] at *; omega
          have e4 := ixw (n := nW β) (by omega) (by rw [← hww]; exact c8) h1 h2
          refine ev_aload_n dX4_wished_96 rfl ?_
          refine ev_getR dX4_wished_97 fX4_19 ⟨_, rfl, rfl⟩ ?_
          refine ev_getR dX4_wished_100 fX4_120 ⟨_, rfl, rfl⟩ ?_
          refine ev_iload_n dX4_wished_103 rfl ?_
          refine ev_iconst 4 dX4_wished_104 (by decide) ?_
          refine ev_imul dX4_wished_105 ?_
          refine ev_iload_n dX4_wished_106 rfl ?_
          refine ev_iadd dX4_wished_107 ?_
          refine ev_bipush 10 dX4_wished_108 (by decide) ?_
          refine ev_isub dX4_wished_110 ?_
          refine ev_iaload dX4_wished_111 rfl (by rw [e4.1]; exact vp_in_nI (by omega) (by decide)) ?_
          refine ev_goto 117 dX4_wished_112 (by decide) ?_
          refine ev_ireturn dX4_wished_117 rfl rfl rfl ?_
          have hs0 : q ≠ 0 ∧ q ≠ 1 ∧ q ≠ 2 ∧ q ≠ 3 := by refine ⟨?_, ?_, ?_, ?_⟩ <;> rintro rfl <;> exact absurd hsw (by decide)
          first | exact Ri.mk (PC.of (by rw [sp_wished, if_neg (fun z => z c8), if_neg hs0.1, if_neg hs0.2.1, if_neg hs0.2.2.1, if_neg hs0.2.2.2, if_pos hq, e4.1, clN (by omega), hX _ (by omega)]) h hc FrC.rf) | exact Ri.mk (PC.of (by rw [sp_wished, if_neg (fun z => z c8), if_neg hs0.1, if_neg hs0.2.1, if_neg hs0.2.2.1, if_neg hs0.2.2.2, if_neg (fun z => by clear c8 hsw; simp only [inn, Int32.lt_iff_toInt_lt, Int32.le_iff_toInt_le, c0, c1n, c2n, c3n, c4, c10n, c13n, c14n, c15n, c16n, cm1n] at *; omega)]) h hc FrC.rf)
  · refine ev_iconst (-1) dX4_wished_11 (by decide) ?_
    refine ev_ireturn dX4_wished_12 rfl rfl rfl ?_
    rw [bI_0, e0] at c8
    exact Ri.mk (PC.of (if_pos c8) h hc FrC.rf)
end CB4
