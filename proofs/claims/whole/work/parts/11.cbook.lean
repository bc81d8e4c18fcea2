theorem vin {x : Int32} {k : Int} {m : Nat} (h : inR x k) (hk : k ≤ m) : vp_in x m := vp_in_iff.mpr ⟨h.1, by omega⟩
theorem nnI {x : Int32} (h : 0 ≤ x.toInt) : x = nI x.toNatClampNeg := by
  apply Int32.toInt_inj.mp
  have h1 : (x.toNatClampNeg : Int) = x.toInt := by show ((x.toInt.toNat : Nat) : Int) = _; omega
  have h2 := Int32.toInt_lt x
  rw [nI_toInt (by omega), h1]
theorem clampI {x : Int32} (h : 0 ≤ x.toInt) : (x.toNatClampNeg : Int) = x.toInt := by show ((x.toInt.toNat : Nat) : Int) = _; omega
theorem wfN.f {β : ai_M} (h : wfN β) : (β 35 0).toInt = nF β := by
  have := nI_toInt (n := nF β) (by have := h.2.2.1; omega)
  rw [← h.1] at this; exact this
theorem wfN.u {β : ai_M} (h : wfN β) : (β 35 2).toInt = nU β := by
  have := nI_toInt (n := nU β) (by have := h.2.2.2.2.1; omega)
  rw [← h.2.2.2.1] at this; exact this
theorem wfN.m {β : ai_M} (h : wfN β) : (β 35 4).toInt = nM β := by
  have := nI_toInt (n := nM β) (by have := h.2.2.2.2.2.2.1; omega)
  rw [← h.2.2.2.2.2.1] at this; exact this
theorem wfN.w {β : ai_M} (h : wfN β) : (β 35 8).toInt = nW β := by
  have := nI_toInt (n := nW β) (by have := h.2.2.2.2.2.2.2.2; omega)
  rw [← h.2.2.2.2.2.2.2.1] at this; exact this
theorem upd_eq {f g : Nat → Int32} {n : Nat} (h : ∀ i, i < n → f i = g i) (k : Nat) (x : Int32) : ∀ i, i < n → upd f k x i = upd g k x i := by
  intro i hi
  unfold upd
  split
  · rfl
  · exact h i hi
theorem upd_eqS {f g : Nat → Int32} {n : Nat} (h : ∀ i, i < n → f i = g i) (x : Int32) : ∀ i, i < n + 1 → upd f n x i = upd g n x i := by
  intro i hi
  unfold upd
  split
  · rfl
  · exact h i (by omega)
theorem clN {n : Nat} (h : n < 100) : (nI n).toNatClampNeg = n := nI_clamp (by omega)
abbrev BS : Type := ai_M → Int32 → (Nat → Int32) → (Nat → Int32) → Prop
section CB
variable {σ β : ai_M} {d L : Nat} {Bst : BS}
theorem PC.same (h : RB σ β) (hc : rcC Bst σ β) {r : Int32} : PC Bst (r, β) σ r σ := ⟨rfl, h, hc, FrC.rf⟩
theorem PC.of {sp : Int32 × ai_M} {r : Int32} {β' σ' : ai_M} (e : sp = (r, β')) (h : RB σ' β') (hc : rcC Bst σ' β') (hf : FrC σ σ') : PC Bst sp σ r σ' := by subst e; exact ⟨rfl, h, hc, hf⟩
theorem tc_volt (hw : WF β) (h : RB σ β) (hc : rcC Bst σ β) (f v : Int32) : ev mX4_volt (d + 1) 0 [some (.ref 2), some (.int f), some (.int v), none] [] (LY L) σ 0 0 (Ri (LY L) (PC Bst (sp_volt β f v) σ)) := by
  obtain ⟨hN, hV, hK, hU, hA, hW, hX, hH⟩ := h
  have e0 : (σ 3 0).toInt = (β 35 0).toInt := by rw [hN.1]
  refine ev_aload_n dX4_volt_0 rfl ?_
  refine ev_getR dX4_volt_1 fX4_10 ⟨_, rfl, rfl⟩ ?_
  refine ev_iload_n dX4_volt_4 rfl ?_
  refine cVp1 dX4_volt_5 VX4_61 ⟨_, rfl⟩ rfl rfl (t_hasFoot _) ?_
  refine ev_if_ne 13 dX4_volt_8 (by decide) (fun c8 => ?_) (fun c8 => ?_)
  · rw [bI_n, e0] at c8
    refine ev_iload_n dX4_volt_13 rfl ?_
    refine ev_iconst 1 dX4_volt_14 (by decide) ?_
    refine ev_icmp_lt 23 dX4_volt_15 (by decide) (fun c15 => ?_) (fun c15 => ?_)
    · refine ev_bipush (-2) dX4_volt_23 (by decide) ?_
      refine ev_ireturn dX4_volt_25 rfl rfl rfl ?_
      exact Ri.mk (PC.of (by rw [sp_volt, if_neg (fun q => q c8), if_pos (fun q => by simp only [inn, Int32.lt_iff_toInt_lt, Int32.le_iff_toInt_le] at *; omega)]) ⟨hN, hV, hK, hU, hA, hW, hX, hH⟩ hc FrC.rf)
    · refine ev_iload_n dX4_volt_18 rfl ?_
      refine ev_iconst 4 dX4_volt_19 (by decide) ?_
      refine ev_icmp_le 26 dX4_volt_20 (by decide) (fun c20 => ?_) (fun c20 => ?_)
      · refine ev_aload_n dX4_volt_26 rfl ?_
        refine ev_getR dX4_volt_27 fX4_10 ⟨_, rfl, rfl⟩ ?_
        refine ev_getR dX4_volt_30 fX4_65 ⟨_, rfl, rfl⟩ ?_
        refine ev_iload_n dX4_volt_33 rfl ?_
        refine ev_iaload dX4_volt_34 rfl (vin c8 (by rw [hw.1.f]; have := hw.1.2.2.1; omega)) ?_
        refine ev_istore_n dX4_volt_35 (by decide) ?_
        refine ev_aload_n dX4_volt_36 rfl ?_
        refine ev_getR dX4_volt_37 fX4_10 ⟨_, rfl, rfl⟩ ?_
        refine ev_getR dX4_volt_40 fX4_65 ⟨_, rfl, rfl⟩ ?_
        refine ev_iload_n dX4_volt_43 rfl ?_
        refine ev_iload_n dX4_volt_44 rfl ?_
        refine ev_iastore dX4_volt_45 (by decide) rfl (vin c8 (by rw [hw.1.f]; have := hw.1.2.2.1; omega)) ?_
        refine ev_aload_n dX4_volt_46 rfl ?_
        refine ev_iconst 0 dX4_volt_47 (by decide) ?_
        refine ev_putI dX4_volt_48 fX4_44 ⟨_, rfl, rfl⟩ rfl rfl ?_
        refine ev_iload_n dX4_volt_51 rfl ?_
        refine ev_ireturn dX4_volt_52 rfl rfl rfl ?_
        refine Ri.mk (PC.of (β' := ai_up β 36 f.toNatClampNeg v) ?_ ⟨hN, upd_eq hV _ _, hK, hU, hA, hW, hX, hH⟩ (Or.inl rfl) ((FrC.rf.up (by decide) (by decide)).up (by decide) (by decide)))
        rw [sp_volt, if_neg (fun q => q c8), if_neg (fun q => q ⟨by simp only [Int32.lt_iff_toInt_lt, Int32.le_iff_toInt_le] at *; omega, c20⟩), hV _ (by have := clampI c8.1; have := hw.1.f; have := hw.1.2.2.1; omega)]
      · refine ev_bipush (-2) dX4_volt_23 (by decide) ?_
        refine ev_ireturn dX4_volt_25 rfl rfl rfl ?_
        exact Ri.mk (PC.of (by rw [sp_volt, if_neg (fun q => q c8), if_pos (fun q => by simp only [inn, Int32.lt_iff_toInt_lt, Int32.le_iff_toInt_le] at *; omega)]) ⟨hN, hV, hK, hU, hA, hW, hX, hH⟩ hc FrC.rf)
  · refine ev_iconst (-1) dX4_volt_11 (by decide) ?_
    refine ev_ireturn dX4_volt_12 rfl rfl rfl ?_
    rw [bI_0, e0] at c8
    exact Ri.mk (PC.of (if_pos c8) ⟨hN, hV, hK, hU, hA, hW, hX, hH⟩ hc FrC.rf)
theorem t_addUnit (hu : nU β < 6) (e : σ 3 1 = nI (nU β)) (k : Int32) : ev mX1_addUnit d 0 [some (.ref 3), some (.int k)] [] (LY L) σ 0 0 (Ri (LY L) (fun r σ' => r = nI (nU β) ∧ σ' = ai_up (ai_up σ 5 (nU β) k) 3 1 (nI (nU β + 1)))) := by
  refine ev_aload_n dX1_addUnit_0 rfl ?_
  refine ev_getR dX1_addUnit_1 fX1_15 ⟨_, rfl, rfl⟩ ?_
  refine ev_aload_n dX1_addUnit_4 rfl ?_
  refine ev_getI dX1_addUnit_5 fX1_32 ⟨_, rfl, rfl⟩ ?_
  refine ev_iload_n dX1_addUnit_8 rfl ?_
  refine ev_iastore dX1_addUnit_9 (by decide) rfl (by rw [e]; exact vp_in_nI hu (by decide)) ?_
  refine ev_aload_n dX1_addUnit_10 rfl ?_
  refine ev_dup dX1_addUnit_11 rfl ?_
  refine ev_getI dX1_addUnit_12 fX1_32 ⟨_, rfl, rfl⟩ ?_
  refine ev_iconst 1 dX1_addUnit_15 (by decide) ?_
  refine ev_iadd dX1_addUnit_16 ?_
  refine ev_putI dX1_addUnit_17 fX1_32 ⟨_, rfl, rfl⟩ rfl rfl ?_
  refine ev_aload_n dX1_addUnit_20 rfl ?_
  refine ev_getI dX1_addUnit_21 fX1_32 ⟨_, rfl, rfl⟩ ?_
  refine ev_iconst 1 dX1_addUnit_24 (by decide) ?_
  refine ev_isub dX1_addUnit_25 ?_
  refine ev_ireturn dX1_addUnit_26 rfl rfl rfl ?_
  refine Ri.mk ?_
  have e1 : (ai_up σ 5 (σ 3 1).toNatClampNeg k) 3 1 = nI (nU β) := e
  rw [e1, nI_1, e, clN (by omega)]
  exact ⟨by rw [show (ai_up (ai_up σ 5 (nU β) k) 3 1 (nI (nU β + 1))) 3 1 = nI (nU β + 1) from rfl, show (1 : Int32) = nI 1 from rfl, pk_sub (by omega)]; rfl, rfl⟩
theorem lt6 {n : Nat} {x : Int32} (hn : n ≤ 30) (e : x = nI n) {b : Nat} (hb : b ≤ 30) (c : x < nI b) : n < b := by
  subst e
  rcases Nat.lt_or_ge n b with q | q
  · exact q
  · exact absurd c (nI_nlt q (by omega))
theorem ge6 {n : Nat} {x : Int32} (hn : n ≤ 30) (e : x = nI n) {b : Nat} (hb : b ≤ 30) (c : ¬ x < nI b) : b ≤ n := by
  subst e
  rcases Nat.lt_or_ge n b with q | q
  · exact absurd (nI_lt q (by omega)) c
  · exact q
theorem tc_unit (hw : WF β) (h : RB σ β) (hc : rcC Bst σ β) (k : Int32) : ev mX4_unit (d + 1) 0 [some (.ref 2), some (.int k)] [] (LY L) σ 0 0 (Ri (LY L) (PC Bst (sp_unit β k) σ)) := by
  obtain ⟨hN, hV, hK, hU, hA, hW, hX, hH⟩ := h
  have e1 : σ 3 1 = nI (nU β) := hN.2.1.trans hw.1.2.2.2.1
  have hu6 := hw.1.2.2.2.2.1
  refine ev_iload_n dX4_unit_0 rfl ?_
  refine cSp1 dX4_unit_1 SX4_69 rfl rfl (t_isKind _) ?_
  refine ev_if_ne 10 dX4_unit_4 (by decide) (fun c4 => ?_) (fun c4 => ?_)
  · rw [bI_n] at c4
    refine ev_aload_n dX4_unit_10 rfl ?_
    refine ev_getR dX4_unit_11 fX4_10 ⟨_, rfl, rfl⟩ ?_
    refine ev_getI dX4_unit_14 fX4_72 ⟨_, rfl, rfl⟩ ?_
    refine ev_bipush 6 dX4_unit_17 (by decide) ?_
    refine ev_icmp_lt 25 dX4_unit_19 (by decide) (fun c19 => ?_) (fun c19 => ?_)
    · have hlt : nU β < 6 := lt6 (by omega) e1 (by omega) c19
      refine ev_aload_n dX4_unit_25 rfl ?_
      refine ev_iconst 0 dX4_unit_26 (by decide) ?_
      refine ev_putI dX4_unit_27 fX4_44 ⟨_, rfl, rfl⟩ rfl rfl ?_
      refine ev_aload_n dX4_unit_30 rfl ?_
      refine ev_getR dX4_unit_31 fX4_10 ⟨_, rfl, rfl⟩ ?_
      refine ev_iload_n dX4_unit_34 rfl ?_
      refine cVi1 dX4_unit_35 VX4_75 ⟨_, rfl⟩ rfl rfl (t_addUnit (β := β) hlt (show (ai_up σ 2 6 0) 3 1 = _ from e1) k) ?_
      rintro x σ' ⟨rfl, rfl⟩
      refine ev_ireturn dX4_unit_38 rfl rfl rfl ?_
      have eu : nU (ai_up (ai_up β 37 (nU β) k) 35 2 (nI (nU β + 1))) = nU β + 1 := clN (by omega)
      refine Ri.mk (PC.of (β' := ai_up (ai_up β 37 (nU β) k) 35 2 (nI (nU β + 1))) ?_ ⟨⟨hN.1, rfl, hN.2.2.1, hN.2.2.2⟩, hV, fun i hi => upd_eqS hK _ i (by rw [eu] at hi; exact hi), hU, hA, hW, hX, hH⟩ (Or.inl rfl) (((FrC.rf.up (by decide) (by decide)).up (by decide) (by decide)).up (by decide) (by decide)))
      rw [sp_unit, if_neg (fun q => q c4), if_neg (by omega)]
    · refine ev_bipush (-4) dX4_unit_22 (by decide) ?_
      refine ev_ireturn dX4_unit_24 rfl rfl rfl ?_
      refine Ri.mk (PC.of ?_ ⟨hN, hV, hK, hU, hA, hW, hX, hH⟩ hc FrC.rf)
      rw [sp_unit, if_neg (fun q => q c4), if_pos (by have := ge6 (by omega) e1 (b := 6) (by omega) c19; omega)]
  · refine ev_bipush (-2) dX4_unit_7 (by decide) ?_
    refine ev_ireturn dX4_unit_9 rfl rfl rfl ?_
    rw [bI_0] at c4
    exact Ri.mk (PC.of (if_pos c4) ⟨hN, hV, hK, hU, hA, hW, hX, hH⟩ hc FrC.rf)
theorem tc_kind (hw : WF β) (h : RB σ β) (hc : rcC Bst σ β) (u : Int32) : ev mX4_kind (d + 1) 0 [some (.ref 2), some (.int u)] [] (LY L) σ 0 0 (Ri (LY L) (PC Bst (sp_kind β u) σ)) := by
  obtain ⟨hN, hV, hK, hU, hA, hW, hX, hH⟩ := h
  have e0 : (σ 3 1).toInt = (β 35 2).toInt := by rw [hN.2.1]
  have hu := hw.1.u
  have hu6 := hw.1.2.2.2.2.1
  refine ev_aload_n dX4_kind_0 rfl ?_
  refine ev_getR dX4_kind_1 fX4_10 ⟨_, rfl, rfl⟩ ?_
  refine ev_iload_n dX4_kind_4 rfl ?_
  refine cVp1 dX4_kind_5 VX4_79 ⟨_, rfl⟩ rfl rfl (t_hasUnit _) ?_
  refine ev_if_eq 23 dX4_kind_8 (by decide) (fun c8 => ?_) (fun c8 => ?_)
  · rw [bI_0, e0] at c8
    refine ev_iconst (-1) dX4_kind_23 (by decide) ?_
    refine ev_ireturn dX4_kind_24 rfl rfl rfl ?_
    first | exact Ri.mk (PC.of (if_pos c8) ⟨hN, hV, hK, hU, hA, hW, hX, hH⟩ hc FrC.rf) | exact Ri.mk (PC.of (by rw [sp_kind, if_neg (fun q => q c8), hK _ (by have := clampI c8.1; omega)]) ⟨hN, hV, hK, hU, hA, hW, hX, hH⟩ hc FrC.rf)
  · rw [bI_n, e0] at c8
    refine ev_aload_n dX4_kind_11 rfl ?_
    refine ev_getR dX4_kind_12 fX4_10 ⟨_, rfl, rfl⟩ ?_
    refine ev_getR dX4_kind_15 fX4_82 ⟨_, rfl, rfl⟩ ?_
    refine ev_iload_n dX4_kind_18 rfl ?_
    refine ev_iaload dX4_kind_19 rfl (vin c8 (by omega)) ?_
    refine ev_goto 24 dX4_kind_20 (by decide) ?_
    refine ev_ireturn dX4_kind_24 rfl rfl rfl ?_
    first | exact Ri.mk (PC.of (if_pos c8) ⟨hN, hV, hK, hU, hA, hW, hX, hH⟩ hc FrC.rf) | exact Ri.mk (PC.of (by rw [sp_kind, if_neg (fun q => q c8), hK _ (by have := clampI c8.1; omega)]) ⟨hN, hV, hK, hU, hA, hW, hX, hH⟩ hc FrC.rf)
theorem ix3 {k w : Int32} {n : Nat} (hn : n ≤ 30) (h : inR k n) (h2 : inR w 3) : ((k * 3 + w).toNatClampNeg = 3 * k.toNatClampNeg + w.toNatClampNeg) ∧ vp_in (k * 3 + w) 90 := by
  have ek := nnI h.1
  have ew := nnI h2.1
  have c1 := clampI h.1
  have c2 := clampI h2.1
  have e : k * 3 + w = nI (3 * k.toNatClampNeg + w.toNatClampNeg) := by
    rw [ek, ew, clN (by omega), clN (by omega), show (3 : Int32) = nI 3 from rfl, pk_mul, nI_add, Nat.mul_comm]
  rw [e]
  exact ⟨nI_clamp (by omega), vp_in_nI (by omega) (by decide)⟩
theorem ix4 {w r : Int32} {n : Nat} (hn : n ≤ 6) (h : inR w n) (h2 : inR r 4) : w * 4 + r = nI (4 * w.toNatClampNeg + r.toNatClampNeg) ∧ w.toNatClampNeg < n ∧ r.toNatClampNeg < 4 := by
  have ek := nnI h.1
  have ew := nnI h2.1
  have c1 := clampI h.1
  have c2 := clampI h2.1
  refine ⟨?_, by omega, by omega⟩
  rw [ek, ew, clN (by omega), clN (by omega), show (4 : Int32) = nI 4 from rfl, pk_mul, nI_add, Nat.mul_comm]
theorem tc_about (hw : WF β) (h : RB σ β) (hc : rcC Bst σ β) (k w : Int32) : ev mX4_about (d + 1) 0 [some (.ref 2), some (.int k), some (.int w)] [] (LY L) σ 0 0 (Ri (LY L) (PC Bst (sp_about β k w) σ)) := by
  obtain ⟨hN, hV, hK, hU, hA, hW, hX, hH⟩ := h
  have e0 : (σ 3 2).toInt = (β 35 4).toInt := by rw [hN.2.2.1]
  have hm := hw.1.m
  have hm6 := hw.1.2.2.2.2.2.2.1
  have hno : ∀ {P : Prop}, ¬ inR k (β 35 4).toInt → Ri (LY L) (PC Bst (sp_about β k w) σ) (some (.int (-1))) (LY L) σ := fun q => Ri.mk (PC.of (if_pos q) ⟨hN, hV, hK, hU, hA, hW, hX, hH⟩ hc FrC.rf)
  have hout : inR k (β 35 4).toInt → ¬ inR w 3 → Ri (LY L) (PC Bst (sp_about β k w) σ) (some (.int (-2))) (LY L) σ := fun q1 q2 => Ri.mk (PC.of (by rw [sp_about, if_neg (fun q => q q1), if_neg (fun q => q2 (by rw [q]; decide)), if_neg (fun q => q2 (by rw [q]; decide)), if_neg (fun q => q2 (by rw [q]; decide))]) ⟨hN, hV, hK, hU, hA, hW, hX, hH⟩ hc FrC.rf)
  refine ev_iload_n dX4_about_0 rfl ?_
  refine ev_if_lt 15 dX4_about_1 (by decide) (fun c1 => ?_) (fun c1 => ?_)
  · refine ev_iconst (-1) dX4_about_15 (by decide) ?_
    refine ev_ireturn dX4_about_16 rfl rfl rfl ?_
    exact hno (P := True) (fun q => by rw [← e0] at q; simp only [Int32.lt_iff_toInt_lt, c0] at *; omega)
  · refine ev_iload_n dX4_about_4 rfl ?_
    refine ev_aload_n dX4_about_5 rfl ?_
    refine ev_getR dX4_about_6 fX4_10 ⟨_, rfl, rfl⟩ ?_
    refine ev_getI dX4_about_9 fX4_88 ⟨_, rfl, rfl⟩ ?_
    refine ev_icmp_lt 17 dX4_about_12 (by decide) (fun c12 => ?_) (fun c12 => ?_)
    · refine ev_iload_n dX4_about_17 rfl ?_
      refine ev_if_lt 26 dX4_about_18 (by decide) (fun c18 => ?_) (fun c18 => ?_)
      · refine ev_bipush (-2) dX4_about_26 (by decide) ?_
        refine ev_ireturn dX4_about_28 rfl rfl rfl ?_
        exact hout (by rw [← e0]; simp only [Int32.lt_iff_toInt_lt, c0] at *; omega) (fun q => by simp only [Int32.lt_iff_toInt_lt, c0, show (3 : Int32).toInt = 3 from rfl] at *; omega)
      · refine ev_iload_n dX4_about_21 rfl ?_
        refine ev_iconst 3 dX4_about_22 (by decide) ?_
        refine ev_icmp_lt 29 dX4_about_23 (by decide) (fun c23 => ?_) (fun c23 => ?_)
        · have q1 : inR k (β 35 4).toInt := by rw [← e0]; simp only [Int32.lt_iff_toInt_lt, c0] at *; omega
          have q2 : inR w 3 := by simp only [Int32.lt_iff_toInt_lt, c0, show (3 : Int32).toInt = 3 from rfl] at *; omega
          have q3 := ix3 hm6 (by rw [← hm]; exact q1) q2
          refine ev_aload_n dX4_about_29 rfl ?_
          refine ev_getR dX4_about_30 fX4_10 ⟨_, rfl, rfl⟩ ?_
          refine ev_getR dX4_about_33 fX4_99 ⟨_, rfl, rfl⟩ ?_
          refine ev_iload_n dX4_about_36 rfl ?_
          refine ev_iconst 3 dX4_about_37 (by decide) ?_
          refine ev_imul dX4_about_38 ?_
          refine ev_iload_n dX4_about_39 rfl ?_
          refine ev_iadd dX4_about_40 ?_
          refine ev_iaload dX4_about_41 rfl q3.2 ?_
          refine ev_ireturn dX4_about_42 rfl rfl rfl ?_
          refine Ri.mk (PC.of ?_ ⟨hN, hV, hK, hU, hA, hW, hX, hH⟩ hc FrC.rf)
          have hu := hU k.toNatClampNeg (by have := clampI q1.1; omega)
          rw [sp_about, if_neg (fun q => q q1), q3.1]
          have hw3 : w.toNatClampNeg = 0 ∨ w.toNatClampNeg = 1 ∨ w.toNatClampNeg = 2 := by have := clampI q2.1; omega
          have ew := nnI q2.1
          rcases hw3 with z | z | z
          · rw [z] at ew; rw [if_pos (show w = 0 from ew), z, Nat.add_zero, hu.1]
          · rw [z] at ew; rw [if_neg (by rw [ew]; decide), if_pos (show w = 1 from ew), z, hu.2.1]
          · rw [z] at ew; rw [if_neg (by rw [ew]; decide), if_neg (by rw [ew]; decide), if_pos (show w = 2 from ew), z, hu.2.2]
        · refine ev_bipush (-2) dX4_about_26 (by decide) ?_
          refine ev_ireturn dX4_about_28 rfl rfl rfl ?_
          exact hout (by rw [← e0]; simp only [Int32.lt_iff_toInt_lt, c0] at *; omega) (fun q => by simp only [Int32.lt_iff_toInt_lt, c0, show (3 : Int32).toInt = 3 from rfl] at *; omega)
    · refine ev_iconst (-1) dX4_about_15 (by decide) ?_
      refine ev_ireturn dX4_about_16 rfl rfl rfl ?_
      exact hno (P := True) (fun q => by rw [← e0] at q; simp only [Int32.lt_iff_toInt_lt, c0] at *; omega)
end CB
