/-! the hand takes a giving -/
theorem t15 {w : Nat} (h : w < 4) : mS 15 w = true := by
  have : ∀ w, w < 4 → (15 : Nat).testBit w = true := by decide
  exact this w h
theorem cnt_lt : ∀ (n h : Nat), h ≤ n → cnt (fun w => decide (w < h)) n = h
  | 0, h, q => by obtain rfl : h = 0 := by omega
                  rfl
  | n + 1, h, q => by
    unfold cnt
    rcases Nat.lt_or_ge n h with z | z
    · obtain rfl : h = n + 1 := by omega
      have e : cnt (fun w => decide (w < n + 1)) n = cnt (fun w => decide (w < n)) n := cnt_cong (fun i hi => by simp only [decide_eq_decide]; omega)
      rw [e, cnt_lt n n (Nat.le_refl n), if_pos (by simp)]; omega
    · rw [cnt_lt n h z, if_neg (by simp; omega)]; omega
section TK
variable {β : ai_M} {y : List Nat}
theorem uOf_at (hw : WF β) (hy : y ∈ gvA β allS) {w : Nat} (hlt : w < nW β) : uOf (plA β) y w = nI (y.getD (lnU β (mS 15) w) 0) := by
  have h4 := hw.1.2.2.2.2.2.2.2.2
  have hl := (gv_len hw hy).1
  have hp := len_u (β := β) (S := mS 15) hlt (t15 (by omega))
  rw [← pls15 hw] at hl
  rw [← plM15 hw]
  unfold uOf
  exact uR_at (pl_unit hlt (t15 (by omega))) _ (by omega)
theorem uOf_no (hw : WF β) {w : Nat} (hlt : nW β ≤ w) : uOf (plA β) y w = -6 := by
  rw [← plM15 hw]
  unfold uOf
  exact uR_no (fun p e => by have := (pl_inv e).1; omega) _
theorem fOf_at (hw : WF β) (hy : y ∈ gvA β allS) {w r : Nat} (hlt : w < nW β) (hr : r < 4) (hrol : rol β w r = true) : fOf (plA β) y (4 * w + r) = nI (y.getD (lnR β (mS 15) w r) 0) := by
  have h4 := hw.1.2.2.2.2.2.2.2.2
  have hl := (gv_len hw hy).1
  have hp := len_r (β := β) (S := mS 15) hlt (t15 (by omega)) hr hrol
  rw [← pls15 hw] at hl
  rw [← plM15 hw]
  unfold fOf
  exact fR_at (pl_role hlt (t15 (by omega)) hr hrol) hr _ (by omega)
theorem fOf_no (hw : WF β) {k : Nat} (h : ∀ w r, w < nW β → r < 4 → rol β w r = true → k ≠ 4 * w + r) : fOf (plA β) y k = -6 := by
  rw [← plM15 hw]
  unfold fOf
  refine fR_no (fun p w r e => ?_) _
  obtain ⟨h1, -, h2⟩ := pl_inv e
  rcases h2 with ⟨h2, -⟩ | ⟨r', h2, h3, h4, -⟩
  · cases h2
  · cases h2; exact h w r h1 h3 h4
theorem gv_ok15 (hw : WF β) (hy : y ∈ gvA β allS) : okG β (mS 15) (fun w => y.getD (lnU β (mS 15) w) 0) (fun w r => y.getD (lnR β (mS 15) w r) 0) := by
  rw [← gvA15 hw] at hy
  exact VG_ok (gv_iff.mp hy)
theorem hN_tk (hw : WF β) (hy : y ∈ gvA β allS) : hN (tkH β y) = nW β := by
  have h4 := hw.1.2.2.2.2.2.2.2.2
  have h6 := hw.1.2.2.2.2.1
  have hok := gv_ok15 hw hy
  have e : hN (tkH β y) = cnt (fun w => decide (w < nW β)) 4 := cnt_cong (fun w hw4 => by
    show decide (uOf (plA β) y w ≠ -6) = _
    by_cases q : w < nW β
    · have hlt : y.getD (lnU β (mS 15) w) 0 < nU β := (hok.1 w q (t15 hw4)).1
      rw [uOf_at hw hy q, decide_eq_true q, decide_eq_true]
      exact nI_ne6 (by omega)
    · rw [uOf_no hw (by omega)]; simp [q])
  rw [e, cnt_lt _ _ h4]
theorem fOf_cases (hw : WF β) (hy : y ∈ gvA β allS) (k : Nat) : fOf (plA β) y k = -6 ∨ ∃ w r, w < nW β ∧ r < 4 ∧ rol β w r = true ∧ k = 4 * w + r ∧ y.getD (lnR β (mS 15) w r) 0 < nF β ∧ fOf (plA β) y k = nI (y.getD (lnR β (mS 15) w r) 0) := by
  have h4 := hw.1.2.2.2.2.2.2.2.2
  by_cases q : ∃ w r, w < nW β ∧ r < 4 ∧ rol β w r = true ∧ k = 4 * w + r
  · obtain ⟨w, r, q1, q2, q3, rfl⟩ := q
    exact Or.inr ⟨w, r, q1, q2, q3, rfl, ((gv_ok15 hw hy).2.1 w r q1 (t15 (by omega)) q2 q3).1, fOf_at hw hy q1 q2 q3⟩
  · exact Or.inl (fOf_no hw (fun w r q1 q2 q3 e => q ⟨w, r, q1, q2, q3, e⟩))
theorem wf_take (hw : WF β) (hy : y ∈ gvA β allS) : WF (tkH β y) := by
  obtain ⟨hN, hU, hW, hX, hH⟩ := id hw
  have h4 := hw.1.2.2.2.2.2.2.2.2
  have h6 := hw.1.2.2.2.2.1
  have h16 := hw.1.2.2.1
  have hok := gv_ok15 hw hy
  refine ⟨hN, hU, hW, hX, nW β, h4, fun w q => ?_, fun w q1 q2 => uOf_no hw q1, fun w v q1 q2 e => ?_, fun k q => ?_, fun k q1 q2 => ?_, fun j k q1 q2 e hne => ?_, Or.inr rfl⟩
  · exact ⟨_, (hok.1 w q (t15 (by omega))).1, uOf_at hw hy q⟩
  · have e' : uOf (plA β) y w = uOf (plA β) y v := e
    rw [uOf_at hw hy q1, uOf_at hw hy q2] at e'
    have z1 := (hok.1 w q1 (t15 (by omega))).1
    have z2 := (hok.1 v q2 (t15 (by omega))).1
    exact hok.2.2.1 w v q1 (t15 (by omega)) q2 (t15 (by omega)) (nI_inj (by omega) (by omega) e')
  · rcases fOf_cases hw hy k with h | ⟨w, r, a1, a2, a3, a4, a5, a6⟩
    · exact Or.inl h
    · exact Or.inr ⟨_, a5, a6⟩
  · exact fOf_no hw (fun w r a1 a2 a3 e => by omega)
  · have e' : fOf (plA β) y j = fOf (plA β) y k := e
    have hne' : fOf (plA β) y j ≠ -6 := hne
    rcases fOf_cases hw hy j with h | ⟨w, r, a1, a2, a3, a4, a5, a6⟩
    · exact absurd h hne'
    · rcases fOf_cases hw hy k with h | ⟨w', r', b1, b2, b3, b4, b5, b6⟩
      · rw [e'] at hne'; exact absurd h hne'
      · rw [a6, b6] at e'
        have e2 : y.getD (lnR β (mS 15) w r) 0 = y.getD (lnR β (mS 15) w' r') 0 := nI_inj (by omega) (by omega) e'
        obtain ⟨rfl, rfl⟩ := hok.2.2.2 w r w' r' a1 (t15 (by omega)) a2 a3 b1 (t15 (by omega)) b2 b3 e2
        omega
theorem same_tk : sameB β (tkH β y) := ⟨rfl, rfl, rfl, rfl, rfl, rfl, rfl, rfl, rfl, fun _ _ => ⟨rfl, rfl, rfl, rfl⟩, fun _ _ => rfl⟩
theorem RB_take {σ σ' : ai_M} (hw : WF β) (h : RB σ β) (hy : y ∈ gvA β allS) (k1 : σ' 29 0 = 1) (k2 : σ' 29 1 = nI (nW β)) (k3 : ∀ i, i < 4 → σ' 30 i = uOf (plA β) y i) (k4 : ∀ k, k < 16 → σ' 31 k = fOf (plA β) y k) (e : ∀ c, 3 ≤ c → c ≤ 13 → σ' c = σ c) : RB σ' (tkH β y) := by
  obtain ⟨hN, hV, hK, hU, hA, hW, hX, hH⟩ := h
  refine ⟨?_, ?_, ?_, ?_, ?_, ?_, ?_, k1, by rw [hN_tk hw hy]; exact k2, k3, k4⟩
  · unfold rcN; rw [e 3 (by decide) (by decide), e 8 (by decide) (by decide)]; exact hN
  · unfold rcV; rw [e 4 (by decide) (by decide)]; exact hV
  · unfold rcK; rw [e 5 (by decide) (by decide)]; exact hK
  · unfold rcU; rw [e 6 (by decide) (by decide)]; exact hU
  · unfold rcA; rw [e 7 (by decide) (by decide)]; exact hA
  · unfold rcW; rw [e 9 (by decide) (by decide), e 10 (by decide) (by decide), e 11 (by decide) (by decide), e 12 (by decide) (by decide)]; exact hW
  · unfold rcX; rw [e 13 (by decide) (by decide)]; exact hX
theorem hN_h (hw : WF β) : ∀ w, w < 4 → (w < hN β ↔ ¬ β 46 w = -6) := by
  obtain ⟨h, h4, a1, a2, -⟩ := hw.2.2.2.2
  have h6 := hw.1.2.2.2.2.1
  have key : ∀ w, w < 4 → (w < h ↔ ¬ β 46 w = -6) := fun w q => by
    constructor
    · intro z
      obtain ⟨u, u1, u2⟩ := a1 w z
      rw [u2]; exact nI_ne6 (by omega)
    · intro z
      rcases Nat.lt_or_ge w h with y | y
      · exact y
      · exact absurd (a2 w y q) z
  have e : hN β = h := by
    have : hN β = cnt (fun w => decide (w < h)) 4 := cnt_cong (fun w q => by
      have := key w q
      simp only [decide_eq_decide]
      exact this.symm)
    rw [this, cnt_lt _ _ h4]
  intro w q
  rw [e]; exact key w q
theorem hN_le (β : ai_M) : hN β ≤ 4 := cnt_le _ 4
end TK
section CC
variable {σ β : ai_M} {d L : Nat}
theorem tc_given (hw : WF β) (h : RB σ β) (hc : rcC Bst σ β) (w r : Int32) : ev mX4_given (d + 30) 0 [some (.ref 2), some (.int w), some (.int r)] [] (LY L) σ 0 0 (Ri (LY L) (PC Bst (sp_given β w r) σ)) := by
  obtain ⟨hN, hV, hK, hU, hA, hW, hX, hH⟩ := id h
  have e0 : (σ 8 0).toInt = (β 35 8).toInt := by rw [hN.2.2.2]
  have hww := hw.1.w
  have hw4 := hw.1.2.2.2.2.2.2.2.2
  by_cases hz : inR w (β 35 8).toInt
  · obtain ⟨w', hw', ew, ew'⟩ := inRn (k := nW β) (by rw [← hww]; exact hz)
    have key : (r = -1 ∨ (inR r 4 ∧ (β 42 w').toNatClampNeg.testBit r.toNatClampNeg = true)) → ev mX4_given (d + 30) 33 [some (.ref 2), some (.int w), some (.int r)] [] (LY L) σ 0 0 (Ri (LY L) (PC Bst (sp_given β w r) σ)) := by
      intro hq
      have hq' : r = -1 ∨ (inR r 4 ∧ (β 42 w.toNatClampNeg).toNatClampNeg.testBit r.toNatClampNeg = true) := by rw [ew']; exact hq
      refine ev_aload_n dX4_given_33 rfl ?_
      refine cVv0 dX4_given_34 VX4_127 ⟨_, rfl⟩ rfl (t_learn (d := d) hw h hc) ?_
      rintro σ1 ⟨h1, h2, h3⟩
      have hB := h2.2.1
      unfold Bst at hB
      by_cases hr : r = -1
      · refine ev_iload_n dX4_given_37 rfl ?_
        refine ev_iconst (-1) dX4_given_38 (by decide) ?_
        refine ev_icmp_ne 53 dX4_given_39 (by decide) (fun c39 => absurd hr c39) (fun c39 => ?_)
        refine ev_aload_n dX4_given_42 rfl ?_
        refine ev_getR dX4_given_43 fX4_37 ⟨_, rfl, rfl⟩ ?_
        refine ev_iload_n dX4_given_46 rfl ?_
        refine cVp1 dX4_given_47 VX4_130 ⟨_, rfl⟩ rfl rfl (t_unitOf (g := 32) (u := 33) (f := 34) rfl rfl (by rw [ew]; exact vp_in_nI (by omega) (by decide))) ?_
        rw [ew']
        refine ev_goto 62 dX4_given_50 (by decide) ?_
        refine ev_ireturn dX4_given_62 rfl rfl rfl ?_
        refine Ri.mk (PC.of ?_ h1 h2.c h3)
        rw [sp_given, if_neg (fun q => q hz), if_neg (fun q => q hq'), ew']
        cases hb : bestB β false with | none => (rw [hb] at hB; show (_, β) = _; rw [hB.2.1 w' (by omega)]) | some y => (rw [hb] at hB; show ((if r = -1 then uOf (plA β) y w' else fOf (plA β) y (4 * w' + r.toNatClampNeg)), β) = _; rw [if_pos hr, hB.2.1 w' (by omega)])
      · obtain ⟨r', hr', er, er'⟩ := inR4 (hq.resolve_left hr).1
        refine ev_iload_n dX4_given_37 rfl ?_
        refine ev_iconst (-1) dX4_given_38 (by decide) ?_
        refine ev_icmp_ne 53 dX4_given_39 (by decide) (fun c39 => ?_) (fun c39 => absurd c39 hr)
        refine ev_aload_n dX4_given_53 rfl ?_
        refine ev_getR dX4_given_54 fX4_37 ⟨_, rfl, rfl⟩ ?_
        refine ev_iload_n dX4_given_57 rfl ?_
        refine ev_iload_n dX4_given_58 rfl ?_
        refine cVp2 dX4_given_59 VX4_133 ⟨_, rfl⟩ rfl rfl rfl (by rw [ew, er]; exact t_footOf (g := 32) (u := 33) (f := 34) rfl rfl (by omega) hr') ?_
        refine ev_ireturn dX4_given_62 rfl rfl rfl ?_
        refine Ri.mk (PC.of ?_ h1 h2.c h3)
        rw [sp_given, if_neg (fun q => q hz), if_neg (fun q => q hq'), ew', er']
        cases hb : bestB β false with | none => (rw [hb] at hB; show (_, β) = _; rw [hB.2.2 (4 * w' + r') (by omega)]) | some y => (rw [hb] at hB; show ((if r = -1 then uOf (plA β) y w' else fOf (plA β) y (4 * w' + r')), β) = _; rw [if_neg hr, hB.2.2 (4 * w' + r') (by omega)])
    refine ev_aload_n dX4_given_0 rfl ?_
    refine ev_getR dX4_given_1 fX4_19 ⟨_, rfl, rfl⟩ ?_
    refine ev_iload_n dX4_given_4 rfl ?_
    refine cVp1 dX4_given_5 VX4_109 ⟨_, rfl⟩ rfl rfl (t_hasWish _) ?_
    refine ev_if_ne 13 dX4_given_8 (by decide) (fun c8 => ?_) (fun c8 => absurd hz (by rw [bI_0, e0] at c8; exact c8))
    refine ev_iload_n dX4_given_13 rfl ?_
    refine ev_iconst (-1) dX4_given_14 (by decide) ?_
    refine ev_icmp_eq 33 dX4_given_15 (by decide) (fun c15 => ?_) (fun c15 => ?_)
    · first | exact key (Or.inl c15) | exact key (Or.inr (bI_n.mp c27))
    · refine ev_aload_n dX4_given_18 rfl ?_
      refine ev_getR dX4_given_19 fX4_19 ⟨_, rfl, rfl⟩ ?_
      refine ev_iload_n dX4_given_22 rfl ?_
      refine ev_iload_n dX4_given_23 rfl ?_
      refine cVp2 dX4_given_24 VX4_123 ⟨_, rfl⟩ rfl rfl rfl (by rw [ew]; exact t_wantsB hw hW hw' _) ?_
      refine ev_if_ne 33 dX4_given_27 (by decide) (fun c27 => ?_) (fun c27 => ?_)
      · first | exact key (Or.inl c15) | exact key (Or.inr (bI_n.mp c27))
      · refine ev_bipush (-2) dX4_given_30 (by decide) ?_
        refine ev_ireturn dX4_given_32 rfl rfl rfl ?_
        rw [bI_0] at c27
        exact Ri.mk (PC.of (by rw [sp_given, if_neg (fun q => q hz), if_pos (fun q => q.elim c15 (by rw [ew']; exact c27))]) h hc FrC.rf)
  · refine ev_aload_n dX4_given_0 rfl ?_
    refine ev_getR dX4_given_1 fX4_19 ⟨_, rfl, rfl⟩ ?_
    refine ev_iload_n dX4_given_4 rfl ?_
    refine cVp1 dX4_given_5 VX4_109 ⟨_, rfl⟩ rfl rfl (t_hasWish _) ?_
    refine ev_if_ne 13 dX4_given_8 (by decide) (fun c8 => absurd (by rw [bI_n, e0] at c8; exact c8) hz) (fun c8 => ?_)
    refine ev_iconst (-1) dX4_given_11 (by decide) ?_
    refine ev_ireturn dX4_given_12 rfl rfl rfl ?_
    exact Ri.mk (PC.of (by rw [sp_given, if_pos hz]) h hc FrC.rf)
theorem tc_hold (hw : WF β) (h : RB σ β) (hc : rcC Bst σ β) : ev mX4_hold (d + 30) 0 [some (.ref 2)] [] (LY L) σ 0 0 (Ri (LY L) (PC Bst (sp_hold β) σ)) := by
  refine ev_aload_n dX4_hold_0 rfl ?_
  refine cVv0 dX4_hold_1 VX4_127 ⟨_, rfl⟩ rfl (t_learn (d := d) hw h hc) ?_
  rintro σ1 ⟨h1, h2, h3⟩
  have hB := h2.2.1
  unfold Bst at hB
  cases hb : bestB β false with
  | none =>
    rw [hb] at hB
    refine ev_aload_n dX4_hold_4 rfl ?_
    refine ev_getI dX4_hold_5 fX4_40 ⟨_, rfl, rfl⟩ ?_
    rw [hB.1]
    refine ev_bipush (-6) dX4_hold_8 (by decide) ?_
    refine ev_icmp_ne 16 dX4_hold_10 (by decide) (fun c10 => absurd rfl c10) (fun c10 => ?_)
    refine ev_bipush (-3) dX4_hold_13 (by decide) ?_
    refine ev_ireturn dX4_hold_15 rfl rfl rfl ?_
    exact Ri.mk (PC.of (by rw [sp_hold, hb]) h1 h2.c h3)
  | some y =>
    rw [hb] at hB
    have hy := best_mem hb
    have hcs := cs_top hw hy
    have hne : ¬ σ1 2 5 = -6 := by rw [hB.1]; exact nI_ne6 (by omega)
    obtain ⟨q1, q2⟩ := h2.2.2.resolve_left hne
    refine ev_aload_n dX4_hold_4 rfl ?_
    refine ev_getI dX4_hold_5 fX4_40 ⟨_, rfl, rfl⟩ ?_
    refine ev_bipush (-6) dX4_hold_8 (by decide) ?_
    refine ev_icmp_ne 16 dX4_hold_10 (by decide) (fun c10 => ?_) (fun c10 => absurd c10 hne)
    refine ev_aload_n dX4_hold_16 rfl ?_
    refine ev_getR dX4_hold_17 fX4_33 ⟨_, rfl, rfl⟩ ?_
    refine ev_aload_n dX4_hold_20 rfl ?_
    refine ev_getR dX4_hold_21 fX4_37 ⟨_, rfl, rfl⟩ ?_
    refine cVv1 dX4_hold_24 VX4_159 ⟨_, rfl⟩ rfl rfl (t_copy (g := 29) (u := 30) (f := 31) (g2 := 32) (u2 := 33) (f2 := 34) rfl rfl rfl rfl rfl rfl (by decide) (by decide) (by decide) (by decide) (by decide) (by decide) (by decide) (by decide) (by decide) (by decide) (by decide) (Or.inr q1)) ?_
    rintro σ2 ⟨k1, k2, k3, k4, k5⟩
    refine ev_iconst 1 dX4_hold_27 (by decide) ?_
    refine ev_ireturn dX4_hold_28 rfl rfl rfl ?_
    refine Ri.mk (PC.of (β' := tkH β y) (by rw [sp_hold, hb]) (RB_take hw h1 hy (k1.trans q1) (by rw [k2, q2]; exact hw.1.2.2.2.2.2.2.2.1) (fun i z => (k3 i z).trans (hB.2.1 i z)) (fun k z => (k4 k z).trans (hB.2.2 k z)) (fun c z1 z2 => k5 c (by omega) (by omega) (by omega))) ?_ (fun c z => (k5 c (by omega) (by omega) (by omega)).trans (h3 c z)))
    exact (h2.c.keep (fun c z => k5 c (by omega) (by omega) (by omega))).same hw same_tk
theorem t_cmp (hz : σ 29 0 = 0 ∨ σ 29 0 = 1) : ev mX3_compareWith (d + 2) 0 [some (.ref 14), some (.ref 29)] [] (LY L) σ 0 0 (Rv (LY L) (cpP 21 22 23 29 30 31 σ)) := by
  refine ev_aload_n dX3_compareWith_0 rfl ?_
  refine ev_getR dX3_compareWith_1 fX3_21 ⟨_, rfl, rfl⟩ ?_
  refine ev_aload_n dX3_compareWith_4 rfl ?_
  refine cVv1 dX3_compareWith_5 VX3_95 ⟨_, rfl⟩ rfl rfl (t_copy (g := 21) (u := 22) (f := 23) (g2 := 29) (u2 := 30) (f2 := 31) rfl rfl rfl rfl rfl rfl (by decide) (by decide) (by decide) (by decide) (by decide) (by decide) (by decide) (by decide) (by decide) (by decide) (by decide) hz) ?_
  intro σ1 h1
  refine ev_ret dX3_compareWith_8 rfl rfl ?_
  exact Rv.mk h1
theorem tc_change (hw : WF β) (h : RB σ β) (hc : rcC Bst σ β) : ev mX4_change (d + 30) 0 [some (.ref 2), none] [] (LY L) σ 0 0 (Ri (LY L) (PC Bst (sp_change β) σ)) := by
  obtain ⟨hN', hV, hK, hU, hA, hW, hX, hH⟩ := id h
  by_cases hz : β 35 14 = 0
  · refine ev_aload_n dX4_change_0 rfl ?_
    refine ev_getR dX4_change_1 fX4_33 ⟨_, rfl, rfl⟩ ?_
    refine ev_getI dX4_change_4 fX4_163 ⟨_, rfl, rfl⟩ ?_
    rw [hH.1]
    refine ev_if_ne 13 dX4_change_7 (by decide) (fun c7 => absurd hz c7) (fun c7 => ?_)
    refine ev_bipush (-3) dX4_change_10 (by decide) ?_
    refine ev_ireturn dX4_change_12 rfl rfl rfl ?_
    exact Ri.mk (PC.of (by rw [sp_change, if_pos hz]) h hc FrC.rf)
  · have h1 : β 35 14 = 1 := by
      obtain ⟨_, _, _, _, _, _, _, _, q⟩ := hw.2.2.2.2
      exact q.resolve_left (fun q => hz q.1)
    refine ev_aload_n dX4_change_0 rfl ?_
    refine ev_getR dX4_change_1 fX4_33 ⟨_, rfl, rfl⟩ ?_
    refine ev_getI dX4_change_4 fX4_163 ⟨_, rfl, rfl⟩ ?_
    rw [hH.1]
    refine ev_if_ne 13 dX4_change_7 (by decide) (fun _ => ?_) (fun c7 => absurd c7 hz)
    refine ev_aload_n dX4_change_13 rfl ?_
    refine ev_getR dX4_change_14 fX4_26 ⟨_, rfl, rfl⟩ ?_
    refine ev_aload_n dX4_change_17 rfl ?_
    refine ev_getR dX4_change_18 fX4_10 ⟨_, rfl, rfl⟩ ?_
    refine ev_aload_n dX4_change_21 rfl ?_
    refine ev_getR dX4_change_22 fX4_19 ⟨_, rfl, rfl⟩ ?_
    refine ev_bipush 15 dX4_change_25 (by decide) ?_
    refine cVv3 dX4_change_27 VX4_147 ⟨_, rfl⟩ rfl rfl rfl rfl (t_aim (d := d + 26) (m := 15) hw h (by decide)) ?_
    rintro σ1 ⟨a1, a2, a3, a4, a5⟩
    have hH1 : rcH σ1 β := by unfold rcH; rw [a5 29 (by decide) (by omega), a5 30 (by decide) (by omega), a5 31 (by decide) (by omega)]; exact hH
    refine ev_aload_n dX4_change_30 rfl ?_
    refine ev_getR dX4_change_31 fX4_26 ⟨_, rfl, rfl⟩ ?_
    refine ev_aload_n dX4_change_34 rfl ?_
    refine ev_getR dX4_change_35 fX4_33 ⟨_, rfl, rfl⟩ ?_
    refine cVv1 dX4_change_38 VX4_166 ⟨_, rfl⟩ rfl rfl (t_cmp (d := d + 27) (Or.inr (hH1.1.trans h1))) ?_
    rintro σ2 ⟨k1, k2, k3, k4, k5⟩
    have k14 := k5 14 (by decide) (by decide) (by decide)
    have hN4 := hN_le β
    have hkp : KP σ2 β true := Or.inr ⟨rfl, fun w q => ⟨by rw [k2, hH1.2.1, nI_ltI (by omega) (by omega)]; exact hN_h hw w q, (k3 w q).trans (hH1.2.2.1 w q)⟩, fun k q => (k4 k q).trans (hH1.2.2.2 k q)⟩
    refine ev_aload_n dX4_change_41 rfl ?_
    refine ev_getR dX4_change_42 fX4_26 ⟨_, rfl, rfl⟩ ?_
    refine cVi0 dX4_change_45 VX4_155 ⟨_, rfl⟩ rfl (t_findLeast (d := d + 1) (m := 15) (mv := true) hw (a1.same (fun k _ => by rw [k14]) (fun c q1 q2 => k5 c (by omega) (by omega) (by omega))) hkp (by rw [k14]; exact a3) (by rw [k14]; exact a4)) ?_
    rintro r σ3 ⟨b1, b2, b3⟩
    have fr : ∀ c, c ≠ 14 → (c < 15 ∨ 28 < c) → σ3 c = σ c := fun c q1 q2 => by rw [b3 c q1 (by omega) (by omega) (by omega), k5 c (by omega) (by omega) (by omega)]; exact a5 c q1 (by omega)
    rw [bsO15 hw] at b1 b2
    cases hb : bestB β true with
    | none =>
      rw [hb] at b2
      have b2' : r = -6 := b2
      subst b2'
      refine ev_istore_n dX4_change_48 (by decide) ?_
      refine ev_iload_n dX4_change_49 rfl ?_
      refine ev_bipush (-6) dX4_change_50 (by decide) ?_
      refine ev_icmp_ne 58 dX4_change_52 (by decide) (fun c52 => absurd rfl c52) (fun c52 => ?_)
      refine ev_bipush (-3) dX4_change_55 (by decide) ?_
      refine ev_ireturn dX4_change_57 rfl rfl rfl ?_
      exact Ri.mk (PC.of (by rw [sp_change, if_neg hz, hb]) (h.keep (fun c q => fr c (by omega) (by omega))) (hc.keep (fun c q => fr c (by omega) (by omega))) (fun c q => fr c (by omega) (by omega)))
    | some y =>
      have hy := best_mem hb
      have hcs := cs_top hw hy
      have hmv := mvP_top (β := β) true (pls β allS) y
      have hl := (gv_len hw hy).2
      rw [hb] at b1 b2
      have b2' : r = nI (wtP β true (pls β allS) y) := by rw [b2, plM15 hw]; rfl
      have ewt : wtP β true (pls β allS) y = 1000 * mvP β true (pls β allS) y + csP β (pls β allS) y := rfl
      subst b2'
      obtain ⟨-, f1, f2, f3, f4, f5⟩ := b1
      rw [plM15 hw] at f4 f5
      have ed : nI (wtP β true (pls β allS) y) / 1000 = nI (mvP β true (pls β allS) y) := by
        rw [show (1000 : Int32) = nI 1000 from rfl, pk_div (by omega) (by decide) (by decide)]
        congr 1
        omega
      refine ev_istore_n dX4_change_48 (by decide) ?_
      refine ev_iload_n dX4_change_49 rfl ?_
      refine ev_bipush (-6) dX4_change_50 (by decide) ?_
      refine ev_icmp_ne 58 dX4_change_52 (by decide) (fun c52 => ?_) (fun c52 => absurd c52 (nI_ne6 (by omega)))
      refine ev_aload_n dX4_change_58 rfl ?_
      refine ev_getR dX4_change_59 fX4_33 ⟨_, rfl, rfl⟩ ?_
      refine ev_aload_n dX4_change_62 rfl ?_
      refine ev_getR dX4_change_63 fX4_26 ⟨_, rfl, rfl⟩ ?_
      refine ev_getR dX4_change_66 fX4_169 ⟨_, rfl, rfl⟩ ?_
      refine cVv1 dX4_change_69 VX4_159 ⟨_, rfl⟩ rfl rfl (t_copy (g := 29) (u := 30) (f := 31) (g2 := 15) (u2 := 16) (f2 := 17) rfl rfl rfl rfl rfl rfl (by decide) (by decide) (by decide) (by decide) (by decide) (by decide) (by decide) (by decide) (by decide) (by decide) (by decide) (Or.inr f2)) ?_
      rintro σ4 ⟨g1, g2, g3, g4, g5⟩
      refine ev_iload_n dX4_change_72 rfl ?_
      refine ev_sipush 1000 dX4_change_73 (by decide) ?_
      refine ev_idiv dX4_change_76 (by decide) ?_
      rw [ed]
      refine ev_ireturn dX4_change_77 rfl rfl rfl ?_
      refine Ri.mk (PC.of (β' := tkH β y) (by rw [sp_change, if_neg hz, hb]) (RB_take hw h hy (g1.trans f2) (g2.trans f3) (fun i z => (g3 i z).trans (f4 i z)) (fun k z => (g4 k z).trans (f5 k z)) (fun c z1 z2 => by rw [g5 c (by omega) (by omega) (by omega)]; exact fr c (by omega) (by omega))) ?_ (fun c z => by rw [g5 c (by omega) (by omega) (by omega)]; exact fr c (by omega) (by omega)))
      exact (hc.keep (fun c z => by rw [g5 c (by omega) (by omega) (by omega)]; exact fr c (by omega) (by omega))).same hw same_tk
theorem tc_many (hw : WF β) (h : RB σ β) (hc : rcC Bst σ β) : ev mX4_many (d + 30) 0 [some (.ref 2)] [] (LY L) σ 0 0 (Ri (LY L) (PC Bst (sp_many β) σ)) := by
  refine ev_aload_n dX4_many_0 rfl ?_
  refine ev_getR dX4_many_1 fX4_26 ⟨_, rfl, rfl⟩ ?_
  refine ev_aload_n dX4_many_4 rfl ?_
  refine ev_getR dX4_many_5 fX4_10 ⟨_, rfl, rfl⟩ ?_
  refine ev_aload_n dX4_many_8 rfl ?_
  refine ev_getR dX4_many_9 fX4_19 ⟨_, rfl, rfl⟩ ?_
  refine ev_bipush 15 dX4_many_12 (by decide) ?_
  refine cVv3 dX4_many_14 VX4_147 ⟨_, rfl⟩ rfl rfl rfl rfl (t_aim (d := d + 26) (m := 15) hw h (by decide)) ?_
  rintro σ1 ⟨a1, a2, a3, a4, a5⟩
  refine ev_aload_n dX4_many_17 rfl ?_
  refine ev_getR dX4_many_18 fX4_26 ⟨_, rfl, rfl⟩ ?_
  refine ev_ldc 100000 dX4_many_21 kX4_151 ?_
  refine cVi1 dX4_many_23 VX4_152 ⟨_, rfl⟩ rfl rfl (t_countUpTo (d := d + 1) (m := 15) (mv := false) (l := 100000) hw a1 (Or.inl ⟨rfl, a2⟩) a3 a4 (Nat.le_refl _) (by decide)) ?_
  rintro r σ2 ⟨rfl, b2⟩
  have fr : ∀ c, c ≠ 14 → (c < 15 ∨ 28 < c) → σ2 c = σ c := fun c q1 q2 => by rw [b2 c q1 (by omega) (by omega) (by omega)]; exact a5 c q1 (by omega)
  refine ev_ireturn dX4_many_26 rfl rfl rfl ?_
  exact Ri.mk (PC.of (by rw [sp_many, gvA15 hw]) (h.keep (fun c q => fr c (by omega) (by omega))) (hc.keep (fun c q => fr c (by omega) (by omega))) (fun c q => fr c (by omega) (by omega)))
theorem RB_back {n : Nat} (h : RB σ β) (hn : n ≤ nW β) (h4 : n ≤ 4) : RB (ai_up σ 8 0 (nI n)) (ai_up β 35 8 (nI n)) := by
  obtain ⟨hN, hV, hK, hU, hA, hW, hX, hH⟩ := h
  have en : nW (ai_up β 35 8 (nI n)) = n := clN (by omega)
  exact ⟨⟨hN.1, hN.2.1, hN.2.2.1, rfl⟩, hV, hK, hU, hA, fun i hi => hW i (by rw [en] at hi; omega), fun k hk => hX k (by rw [en] at hk; omega), hH⟩
theorem same_trial (hw : WF β) {k R v p : Int32} (z1 : inR p (β 35 0).toInt) (z2 : inR k 4 ∧ inn R 1 15 ∧ inn v 0 4) (z3 : nW β ≠ 4) : sameB β (ai_up (sp_wish β k R v p).2 35 8 (nI (nW β))) := by
  rw [sp_wish, if_neg (fun q => q z1), if_neg (fun q => q z2), if_neg z3]
  refine ⟨rfl, rfl, rfl, hw.1.2.2.2.2.2.2.2.1.symm, rfl, rfl, rfl, rfl, rfl, fun w q => ⟨?_, ?_, ?_, ?_⟩, fun j q => ?_⟩
  · show upd (β 41) (nW β) k w = _; rw [upd, if_neg (by omega)]
  · show upd (β 42) (nW β) R w = _; rw [upd, if_neg (by omega)]
  · show upd (β 43) (nW β) v w = _; rw [upd, if_neg (by omega)]
  · show upd (β 44) (nW β) p w = _; rw [upd, if_neg (by omega)]
  · show (if 4 * nW β ≤ j ∧ j < 4 * nW β + 4 then -6 else β 45 j) = _
    rw [if_neg (by omega)]
theorem tc_trial (hw : WF β) (h : RB σ β) (hc : rcC Bst σ β) (k R v p : Int32) : ev mX4_trial (d + 30) 0 [some (.ref 2), some (.int k), some (.int R), some (.int v), some (.int p), none, none] [] (LY L) σ 0 0 (Ri (LY L) (PC Bst (sp_trial β k R v p) σ)) := by
  obtain ⟨hN, hV, hK, hU, hA, hW, hX, hH⟩ := id h
  have ew : σ 8 0 = nI (nW β) := hN.2.2.2.trans hw.1.2.2.2.2.2.2.2.1
  have hw4 := hw.1.2.2.2.2.2.2.2.2
  rcases wish_cases β k R v p with ⟨z0, z1, z2, z3⟩ | ⟨z0, -⟩
  · have hlt : nW β < 4 := by omega
    have en : nW (sp_wish β k R v p).2 = nW β + 1 := by rw [sp_wish, if_neg (fun q => q z1), if_neg (fun q => q z2), if_neg z3]; exact clN (by omega)
    have hw2 := wf_wish hw k R v p
    refine ev_aload_n dX4_trial_0 rfl ?_
    refine ev_iload_n dX4_trial_1 rfl ?_
    refine ev_iload_n dX4_trial_2 rfl ?_
    refine ev_iload_n dX4_trial_3 rfl ?_
    refine ev_iload dX4_trial_4 rfl ?_
    refine cVp4 dX4_trial_6 VX4_102 ⟨_, rfl⟩ rfl rfl rfl rfl rfl (t_refusal (d := d + 28) hw hN _ _ _ _) ?_
    rw [z0]
    refine ev_istore dX4_trial_9 (by decide) ?_
    refine ev_iload dX4_trial_11 rfl ?_
    refine ev_if_eq 19 dX4_trial_13 (by decide) (fun _ => ?_) (fun c13 => absurd rfl c13)
    refine ev_aload_n dX4_trial_19 rfl ?_
    refine ev_getR dX4_trial_20 fX4_19 ⟨_, rfl, rfl⟩ ?_
    refine ev_iload_n dX4_trial_23 rfl ?_
    refine ev_iload_n dX4_trial_24 rfl ?_
    refine ev_iload_n dX4_trial_25 rfl ?_
    refine ev_iload dX4_trial_26 rfl ?_
    refine cVi4 dX4_trial_28 VX4_106 ⟨_, rfl⟩ rfl rfl rfl rfl rfl (t_add (d := d + 29) hlt ew k R v p) ?_
    rintro x σ1 ⟨rfl, a0, a1, a2, a3, a4, a5, a6⟩
    have h1 : RB σ1 (sp_wish β k R v p).2 := by
      have := wish_RB (σ' := ai_set σ1 2 (upd (σ 2) 6 0)) h hlt z1 z2 a0 a1 a2 a3 a4 a5 (fun c q => by
        by_cases z : c = 2
        · subst z; rfl
        · rw [ai_set, if_neg z, ai_up, if_neg z]; exact a6 c q)
      exact this.keep (fun c q => by rw [ai_set, if_neg (by omega)])
    refine ev_pop dX4_trial_31 rfl ?_
    refine ev_aload_n dX4_trial_32 rfl ?_
    refine ev_getR dX4_trial_33 fX4_26 ⟨_, rfl, rfl⟩ ?_
    refine ev_aload_n dX4_trial_36 rfl ?_
    refine ev_getR dX4_trial_37 fX4_10 ⟨_, rfl, rfl⟩ ?_
    refine ev_aload_n dX4_trial_40 rfl ?_
    refine ev_getR dX4_trial_41 fX4_19 ⟨_, rfl, rfl⟩ ?_
    refine ev_bipush 15 dX4_trial_44 (by decide) ?_
    refine cVv3 dX4_trial_46 VX4_147 ⟨_, rfl⟩ rfl rfl rfl rfl (t_aim (d := d + 26) (m := 15) hw2 h1 (by decide)) ?_
    rintro σ2 ⟨b1, b2, b3, b4, b5⟩
    refine ev_aload_n dX4_trial_49 rfl ?_
    refine ev_getR dX4_trial_50 fX4_26 ⟨_, rfl, rfl⟩ ?_
    refine cVi0 dX4_trial_53 VX4_155 ⟨_, rfl⟩ rfl (t_findLeast (d := d + 1) (m := 15) (mv := false) hw2 b1 (Or.inl ⟨rfl, b2⟩) b3 b4) ?_
    rintro r σ3 ⟨-, e2, g3⟩
    have fr : ∀ c, c ≠ 14 → (c < 15 ∨ 28 < c) → σ3 c = σ1 c := fun c q1 q2 => by rw [g3 c q1 (by omega) (by omega) (by omega)]; exact b5 c q1 (by omega)
    have e8 : σ3 8 0 = nI (nW β + 1) := by rw [fr 8 (by decide) (by omega)]; exact a0
    have er : r = bsB (sp_wish β k R v p).2 := by
      rw [e2, bsO15 hw2, plM15 hw2]
      unfold bsB anO
      cases hb : bestB (sp_wish β k R v p).2 false with
      | none => rfl
      | some y => show nI (wtP _ _ _ _) = _; rw [wtF]
    refine ev_istore dX4_trial_56 (by decide) ?_
    refine ev_aload_n dX4_trial_58 rfl ?_
    refine ev_getR dX4_trial_59 fX4_19 ⟨_, rfl, rfl⟩ ?_
    refine ev_dup dX4_trial_62 rfl ?_
    refine ev_getI dX4_trial_63 fX4_55 ⟨_, rfl, rfl⟩ ?_
    refine ev_iconst 1 dX4_trial_66 (by decide) ?_
    refine ev_isub dX4_trial_67 ?_
    rw [e8, nI_pred]
    refine ev_putI dX4_trial_68 fX4_55 ⟨_, rfl, rfl⟩ rfl rfl ?_
    refine ev_iload dX4_trial_71 rfl ?_
    refine ev_ireturn dX4_trial_73 rfl rfl rfl ?_
    refine Ri.mk (PC.of (β' := ai_up (sp_wish β k R v p).2 35 8 (nI (nW β))) (by rw [sp_trial, if_neg (fun q => q z0), er]) (RB_back (h1.keep (fun c q => fr c (by omega) (by omega))) (by omega) hw4) ?_ (fun c q => ?_))
    · refine (hc.keep (fun c q => ?_)).same hw (same_trial hw z1 z2 z3)
      rw [ai_up, if_neg (by omega), fr c (by omega) (by omega)]; exact a6 c (by omega)
    · rw [ai_up, if_neg (by omega), fr c (by omega) (by omega)]; exact a6 c (by omega)
  · refine ev_aload_n dX4_trial_0 rfl ?_
    refine ev_iload_n dX4_trial_1 rfl ?_
    refine ev_iload_n dX4_trial_2 rfl ?_
    refine ev_iload_n dX4_trial_3 rfl ?_
    refine ev_iload dX4_trial_4 rfl ?_
    refine cVp4 dX4_trial_6 VX4_102 ⟨_, rfl⟩ rfl rfl rfl rfl rfl (t_refusal (d := d + 28) hw hN _ _ _ _) ?_
    refine ev_istore dX4_trial_9 (by decide) ?_
    refine ev_iload dX4_trial_11 rfl ?_
    refine ev_if_eq 19 dX4_trial_13 (by decide) (fun c13 => absurd c13 z0) (fun c13 => ?_)
    refine ev_iload dX4_trial_16 rfl ?_
    refine ev_ireturn dX4_trial_18 rfl rfl rfl ?_
    exact Ri.mk (PC.of (by rw [sp_trial, if_pos z0]) h hc FrC.rf)
end CC
