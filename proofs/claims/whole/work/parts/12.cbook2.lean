theorem mkI_cong {p q : Nat → Bool} {n : Nat} (h : ∀ i, i < n → p i = q i) : nI (mk p n) = nI (mk q n) := by rw [mk_cong h]
theorem inR4 {r : Int32} (h : inR r 4) : ∃ n, n < 4 ∧ r = nI n ∧ r.toNatClampNeg = n := ⟨r.toNatClampNeg, by have := clampI h.1; omega, nnI h.1, rfl⟩
theorem inRn {r : Int32} {k : Nat} (h : inR r (k : Int)) : ∃ n, n < k ∧ r = nI n ∧ r.toNatClampNeg = n := ⟨r.toNatClampNeg, by have := clampI h.1; omega, nnI h.1, rfl⟩
section CB2
variable {σ β : ai_M} {d L : Nat} {Bst : BS}
theorem t_isAble (hA : rcA σ β) {f u r : Nat} (hf : f < 16) (hu : u < 6) (hr : r < 4) : ev mX1_isAble d 0 [some (.ref 3), some (.int (nI f)), some (.int (nI u)), some (.int (nI r))] [] (LY L) σ 0 0 (Rp (LY L) σ (bI (canB β f u r = true))) := by
  have e4 : nI u * 4 + nI r = nI (4 * u + r) := by rw [show (4 : Int32) = nI 4 from rfl, pk_mul, nI_add, Nat.mul_comm]
  have ec : (nI u * 4 + nI r).toNatClampNeg = 4 * u + r := by rw [e4]; exact clN (by omega)
  refine ev_aload_n dX1_isAble_0 rfl ?_
  refine ev_getR dX1_isAble_1 fX1_21 ⟨_, rfl, rfl⟩ ?_
  refine ev_iload_n dX1_isAble_4 rfl ?_
  refine ev_iconst 4 dX1_isAble_5 (by decide) ?_
  refine ev_imul dX1_isAble_6 ?_
  refine ev_iload_n dX1_isAble_7 rfl ?_
  refine ev_iadd dX1_isAble_8 ?_
  refine ev_iaload dX1_isAble_9 rfl (by rw [e4]; exact vp_in_nI (by omega) (by decide)) ?_
  refine ev_iload_n dX1_isAble_10 rfl ?_
  refine ev_ishr dX1_isAble_11 ?_
  refine ev_iconst 1 dX1_isAble_12 (by decide) ?_
  refine ev_iand dX1_isAble_13 ?_
  refine ev_if_eq 21 dX1_isAble_14 (by decide) (fun c14 => ?_) (fun c14 => ?_)
  · refine ev_iconst 0 dX1_isAble_21 (by decide) ?_
    refine ev_ireturn dX1_isAble_22 rfl rfl rfl ?_
    rw [ec, hA u r hu hr, mk_test (by decide) hf] at c14
    first | exact Rp.mk (bI_t (by simp only [Bool.not_eq_false] at c14; exact c14)) | exact Rp.mk (bI_f (by rw [c14]; decide))
  · refine ev_iconst 1 dX1_isAble_17 (by decide) ?_
    refine ev_goto 22 dX1_isAble_18 (by decide) ?_
    refine ev_ireturn dX1_isAble_22 rfl rfl rfl ?_
    rw [ec, hA u r hu hr, mk_test (by decide) hf] at c14
    first | exact Rp.mk (bI_t (by simp only [Bool.not_eq_false] at c14; exact c14)) | exact Rp.mk (bI_f (by rw [c14]; decide))
theorem canB_add (f u r : Int32) (a b c : Nat) (h30 : nM β < 30) : canB (ai_up (ai_up (ai_up (ai_up β 38 (nM β) f) 39 (nM β) u) 40 (nM β) r) 35 4 (nI (nM β + 1))) a b c = (canB β a b c || (f = nI a && u = nI b && r = nI c)) := by
  have e : nM (ai_up (ai_up (ai_up (ai_up β 38 (nM β) f) 39 (nM β) u) 40 (nM β) r) 35 4 (nI (nM β + 1))) = nM β + 1 := clN (by omega)
  unfold canB
  rw [e, List.range_succ, List.any_append]
  congr 1
  · rw [Bool.eq_iff_iff, List.any_eq_true, List.any_eq_true]
    constructor
    · rintro ⟨i, hi, h⟩
      have hi' := List.mem_range.mp hi
      refine ⟨i, hi, ?_⟩
      have hne : ¬ i = nM β := by omega
      simpa [ai_up, upd, hne] using h
    · rintro ⟨i, hi, h⟩
      have hi' := List.mem_range.mp hi
      refine ⟨i, hi, ?_⟩
      have hne : ¬ i = nM β := by omega
      simpa [ai_up, upd, hne] using h
  · simp [ai_up, upd]
theorem nI_inj {a b : Nat} (ha : a < 2 ^ 31) (hb : b < 2 ^ 31) (h : nI a = nI b) : a = b := (nI_eq ha hb).mp h
theorem t_addUse (hA : rcA σ β) {f u r : Nat} (hf : f < 16) (hu : u < 6) (hr : r < 4) (hm : nM β < 30) (em : σ 3 2 = nI (nM β)) : ev mX1_addUse d 0 [some (.ref 3), some (.int (nI f)), some (.int (nI u)), some (.int (nI r)), none] [] (LY L) σ 0 0
    (Ri (LY L) (fun x σ' => x = nI (nM β) ∧ σ' = ai_up (ai_up (ai_up (ai_up (ai_up σ 6 (3 * nM β) (nI f)) 6 (3 * nM β + 1) (nI u)) 6 (3 * nM β + 2) (nI r)) 7 (4 * u + r) (nI (mk (fun i => canB β i u r || i == f) 16))) 3 2 (nI (nM β + 1)))) := by
  have e4 : nI u * 4 + nI r = nI (4 * u + r) := by rw [show (4 : Int32) = nI 4 from rfl, pk_mul, nI_add, Nat.mul_comm]
  have ec : (nI (4 * u + r)).toNatClampNeg = 4 * u + r := clN (by omega)
  have e3 : nI (nM β) * 3 = nI (3 * nM β) := by rw [show (3 : Int32) = nI 3 from rfl, pk_mul, Nat.mul_comm]
  have i0 : (nI (3 * nM β)).toNatClampNeg = 3 * nM β := clN (by omega)
  have i1 : (nI (3 * nM β + 1)).toNatClampNeg = 3 * nM β + 1 := clN (by omega)
  have i2 : (nI (3 * nM β + 2)).toNatClampNeg = 3 * nM β + 2 := clN (by omega)
  refine ev_aload_n dX1_addUse_0 rfl ?_
  refine ev_getI dX1_addUse_1 fX1_35 ⟨_, rfl, rfl⟩ ?_
  refine ev_iconst 3 dX1_addUse_4 (by decide) ?_
  refine ev_imul dX1_addUse_5 ?_
  rw [em, e3]
  refine ev_istore dX1_addUse_6 (by decide) ?_
  refine ev_aload_n dX1_addUse_8 rfl ?_
  refine ev_getR dX1_addUse_9 fX1_18 ⟨_, rfl, rfl⟩ ?_
  refine ev_iload dX1_addUse_12 rfl ?_
  refine ev_iload_n dX1_addUse_14 rfl ?_
  refine ev_iastore dX1_addUse_15 (by decide) rfl (vp_in_nI (by omega) (by decide)) ?_
  refine ev_aload_n dX1_addUse_16 rfl ?_
  refine ev_getR dX1_addUse_17 fX1_18 ⟨_, rfl, rfl⟩ ?_
  refine ev_iload dX1_addUse_20 rfl ?_
  refine ev_iconst 1 dX1_addUse_22 (by decide) ?_
  refine ev_iadd dX1_addUse_23 ?_
  refine ev_iload_n dX1_addUse_24 rfl ?_
  rw [nI_1]
  refine ev_iastore dX1_addUse_25 (by decide) rfl (vp_in_nI (by omega) (by decide)) ?_
  refine ev_aload_n dX1_addUse_26 rfl ?_
  refine ev_getR dX1_addUse_27 fX1_18 ⟨_, rfl, rfl⟩ ?_
  refine ev_iload dX1_addUse_30 rfl ?_
  refine ev_iconst 2 dX1_addUse_32 (by decide) ?_
  refine ev_iadd dX1_addUse_33 ?_
  rw [show (2 : Int32) = nI 2 from rfl, nI_add]
  refine ev_iload_n dX1_addUse_34 rfl ?_
  refine ev_iastore dX1_addUse_35 (by decide) rfl (vp_in_nI (by omega) (by decide)) ?_
  refine ev_aload_n dX1_addUse_36 rfl ?_
  refine ev_getR dX1_addUse_37 fX1_21 ⟨_, rfl, rfl⟩ ?_
  refine ev_iload_n dX1_addUse_40 rfl ?_
  refine ev_iconst 4 dX1_addUse_41 (by decide) ?_
  refine ev_imul dX1_addUse_42 ?_
  refine ev_iload_n dX1_addUse_43 rfl ?_
  refine ev_iadd dX1_addUse_44 ?_
  rw [e4, i0, i1, i2]
  refine ev_dup2 dX1_addUse_45 rfl rfl ?_
  refine ev_iaload dX1_addUse_46 rfl (vp_in_nI (by omega) (by decide)) ?_
  refine ev_iconst 1 dX1_addUse_47 (by decide) ?_
  refine ev_iload_n dX1_addUse_48 rfl ?_
  refine ev_ishl dX1_addUse_49 ?_
  refine ev_ior dX1_addUse_50 ?_
  rw [ec, show (ai_up (ai_up (ai_up σ 6 (3 * nM β) (nI f)) 6 (3 * nM β + 1) (nI u)) 6 (3 * nM β + 2) (nI r)) 7 (4 * u + r) = σ 7 (4 * u + r) from rfl, hA u r hu hr, mk_set _ (by decide) hf]
  refine ev_iastore dX1_addUse_51 (by decide) rfl (vp_in_nI (by omega) (by decide)) ?_
  refine ev_aload_n dX1_addUse_52 rfl ?_
  refine ev_dup dX1_addUse_53 rfl ?_
  refine ev_getI dX1_addUse_54 fX1_35 ⟨_, rfl, rfl⟩ ?_
  refine ev_iconst 1 dX1_addUse_57 (by decide) ?_
  refine ev_iadd dX1_addUse_58 ?_
  rw [ec, show (ai_up (ai_up (ai_up (ai_up σ 6 (3 * nM β) (nI f)) 6 (3 * nM β + 1) (nI u)) 6 (3 * nM β + 2) (nI r)) 7 (4 * u + r) (nI (mk (fun i => canB β i u r || i == f) 16))) 3 2 = nI (nM β) from em, nI_1]
  refine ev_putI dX1_addUse_59 fX1_35 ⟨_, rfl, rfl⟩ rfl rfl ?_
  refine ev_aload_n dX1_addUse_62 rfl ?_
  refine ev_getI dX1_addUse_63 fX1_35 ⟨_, rfl, rfl⟩ ?_
  refine ev_iconst 1 dX1_addUse_66 (by decide) ?_
  refine ev_isub dX1_addUse_67 ?_
  refine ev_ireturn dX1_addUse_68 rfl rfl rfl ?_
  refine Ri.mk ⟨?_, rfl⟩
  exact nI_pred _
theorem addU_rcU (hU : rcU σ β) {f u r : Int32} {z : Nat} {q : Int32} (i : Nat) (hi : i < nM β + 1) : (ai_up (ai_up (ai_up (ai_up (ai_up (ai_up σ 2 6 0) 6 (3 * nM β) f) 6 (3 * nM β + 1) u) 6 (3 * nM β + 2) r) 7 z q) 3 2 (nI (nM β + 1))) 6 (3 * i) = upd (β 38) (nM β) f i ∧ (ai_up (ai_up (ai_up (ai_up (ai_up (ai_up σ 2 6 0) 6 (3 * nM β) f) 6 (3 * nM β + 1) u) 6 (3 * nM β + 2) r) 7 z q) 3 2 (nI (nM β + 1))) 6 (3 * i + 1) = upd (β 39) (nM β) u i ∧ (ai_up (ai_up (ai_up (ai_up (ai_up (ai_up σ 2 6 0) 6 (3 * nM β) f) 6 (3 * nM β + 1) u) 6 (3 * nM β + 2) r) 7 z q) 3 2 (nI (nM β + 1))) 6 (3 * i + 2) = upd (β 40) (nM β) r i := by
  show upd (upd (upd (σ 6) (3 * nM β) f) (3 * nM β + 1) u) (3 * nM β + 2) r (3 * i) = _ ∧ upd (upd (upd (σ 6) (3 * nM β) f) (3 * nM β + 1) u) (3 * nM β + 2) r (3 * i + 1) = _ ∧ upd (upd (upd (σ 6) (3 * nM β) f) (3 * nM β + 1) u) (3 * nM β + 2) r (3 * i + 2) = _
  unfold upd
  by_cases h : i = nM β
  · subst h
    refine ⟨?_, ?_, ?_⟩
    · rw [if_neg (by omega), if_neg (by omega), if_pos rfl, if_pos rfl]
    · rw [if_neg (by omega), if_pos rfl, if_pos rfl]
    · rw [if_pos rfl, if_pos rfl]
  · have := hU i (by omega)
    refine ⟨?_, ?_, ?_⟩
    · rw [if_neg (by omega), if_neg (by omega), if_neg (by omega), if_neg h]; exact this.1
    · rw [if_neg (by omega), if_neg (by omega), if_neg (by omega), if_neg h]; exact this.2.1
    · rw [if_neg (by omega), if_neg (by omega), if_neg (by omega), if_neg h]; exact this.2.2
theorem addU_rcA (hA : rcA σ β) (hm : nM β < 30) {f u r : Nat} (hf : f < 16) (hu : u < 6) (hr : r < 4) (a b : Nat) (ha : a < 6) (hb : b < 4) : upd (σ 7) (4 * u + r) (nI (mk (fun i => canB β i u r || i == f) 16)) (4 * a + b) = nI (mk (fun i => canB (ai_up (ai_up (ai_up (ai_up β 38 (nM β) (nI f)) 39 (nM β) (nI u)) 40 (nM β) (nI r)) 35 4 (nI (nM β + 1))) i a b) 16) := by
  unfold upd
  by_cases h : 4 * a + b = 4 * u + r
  · rw [if_pos h]
    have h1 : a = u := by omega
    have h2 : b = r := by omega
    subst h1; subst h2
    refine mkI_cong (fun i hi => ?_)
    rw [canB_add _ _ _ _ _ _ hm]
    congr 1
    by_cases hif : i = f
    · subst hif; simp
    · have : ¬ nI f = nI i := fun q => hif (nI_inj (by omega) (by omega) q).symm
      simp [this, hif]
  · rw [if_neg h, hA a b ha hb]
    refine mkI_cong (fun i hi => ?_)
    rw [canB_add _ _ _ _ _ _ hm]
    have : ¬ (nI u = nI a ∧ nI r = nI b) := fun q => h (by
      have q1 := nI_inj (by omega) (by omega) q.1
      have q2 := nI_inj (by omega) (by omega) q.2
      omega)
    by_cases q1 : nI u = nI a
    · have q2 : ¬ nI r = nI b := fun q2 => this ⟨q1, q2⟩
      simp [q2]
    · simp [q1]
theorem tc_use (hw : WF β) (h : RB σ β) (hc : rcC Bst σ β) (f u r : Int32) : ev mX4_use (d + 1) 0 [some (.ref 2), some (.int f), some (.int u), some (.int r)] [] (LY L) σ 0 0 (Ri (LY L) (PC Bst (sp_use β f u r) σ)) := by
  obtain ⟨hN, hV, hK, hU, hA, hW, hX, hH⟩ := h
  have e0 : (σ 3 0).toInt = (β 35 0).toInt := by rw [hN.1]
  have e1 : (σ 3 1).toInt = (β 35 2).toInt := by rw [hN.2.1]
  have em : σ 3 2 = nI (nM β) := hN.2.2.1.trans hw.1.2.2.2.2.2.1
  have hf := hw.1.f
  have hu := hw.1.u
  have hf16 := hw.1.2.2.1
  have hu6 := hw.1.2.2.2.2.1
  have hm30 := hw.1.2.2.2.2.2.2.1
  have hno : ¬ (inR f (β 35 0).toInt ∧ inR u (β 35 2).toInt) → Ri (LY L) (PC Bst (sp_use β f u r) σ) (some (.int (-1))) (LY L) σ := fun q => Ri.mk (PC.of (if_pos q) ⟨hN, hV, hK, hU, hA, hW, hX, hH⟩ hc FrC.rf)
  refine ev_aload_n dX4_use_0 rfl ?_
  refine ev_getR dX4_use_1 fX4_10 ⟨_, rfl, rfl⟩ ?_
  refine ev_iload_n dX4_use_4 rfl ?_
  refine cVp1 dX4_use_5 VX4_61 ⟨_, rfl⟩ rfl rfl (t_hasFoot _) ?_
  refine ev_if_eq 22 dX4_use_8 (by decide) (fun c8 => ?_) (fun c8 => ?_)
  · refine ev_iconst (-1) dX4_use_22 (by decide) ?_
    refine ev_ireturn dX4_use_23 rfl rfl rfl ?_
    first | exact hno (fun q => by rw [bI_0, e0] at c8; exact c8 q.1) | exact hno (fun q => by rw [bI_0, e1] at c19; exact c19 q.2)
  · rw [bI_n, e0] at c8
    refine ev_aload_n dX4_use_11 rfl ?_
    refine ev_getR dX4_use_12 fX4_10 ⟨_, rfl, rfl⟩ ?_
    refine ev_iload_n dX4_use_15 rfl ?_
    refine cVp1 dX4_use_16 VX4_79 ⟨_, rfl⟩ rfl rfl (t_hasUnit _) ?_
    refine ev_if_ne 24 dX4_use_19 (by decide) (fun c19 => ?_) (fun c19 => ?_)
    · rw [bI_n, e1] at c19
      refine ev_iload_n dX4_use_24 rfl ?_
      refine cSp1 dX4_use_25 SX4_85 rfl rfl (t_isRole _) ?_
      refine ev_if_ne 34 dX4_use_28 (by decide) (fun c28 => ?_) (fun c28 => ?_)
      · rw [bI_n] at c28
        refine ev_aload_n dX4_use_34 rfl ?_
        refine ev_getR dX4_use_35 fX4_10 ⟨_, rfl, rfl⟩ ?_
        refine ev_getI dX4_use_38 fX4_88 ⟨_, rfl, rfl⟩ ?_
        refine ev_bipush 30 dX4_use_41 (by decide) ?_
        refine ev_icmp_lt 49 dX4_use_43 (by decide) (fun c43 => ?_) (fun c43 => ?_)
        · have hm : nM β < 30 := lt6 (by omega) em (b := 30) (by omega) c43
          obtain ⟨f', hf', ef, ef'⟩ := inRn (k := nF β) (by rw [← hf]; exact c8)
          obtain ⟨u', hu', eu, eu'⟩ := inRn (k := nU β) (by rw [← hu]; exact c19)
          obtain ⟨r', hr', er, er'⟩ := inR4 c28
          have esp : sp_use β f u r = if canB β f' u' r' then (-5, β) else (nI (nM β), ai_up (ai_up (ai_up (ai_up β 38 (nM β) f) 39 (nM β) u) 40 (nM β) r) 35 4 (nI (nM β + 1))) := by rw [sp_use, if_neg (fun q => q ⟨c8, c19⟩), if_neg (fun q => q c28), if_neg (by omega), ef', eu', er']
          clear ef' eu' er' c8 c19 c28 hno
          subst ef eu er
          refine ev_aload_n dX4_use_49 rfl ?_
          refine ev_getR dX4_use_50 fX4_10 ⟨_, rfl, rfl⟩ ?_
          refine ev_iload_n dX4_use_53 rfl ?_
          refine ev_iload_n dX4_use_54 rfl ?_
          refine ev_iload_n dX4_use_55 rfl ?_
          refine cVp3 dX4_use_56 VX4_91 ⟨_, rfl⟩ rfl rfl rfl rfl (t_isAble hA (by omega) (by omega) hr') ?_
          refine ev_if_eq 65 dX4_use_59 (by decide) (fun c59 => ?_) (fun c59 => ?_)
          · refine ev_aload_n dX4_use_65 rfl ?_
            refine ev_iconst 0 dX4_use_66 (by decide) ?_
            refine ev_putI dX4_use_67 fX4_44 ⟨_, rfl, rfl⟩ rfl rfl ?_
            refine ev_aload_n dX4_use_70 rfl ?_
            refine ev_getR dX4_use_71 fX4_10 ⟨_, rfl, rfl⟩ ?_
            refine ev_iload_n dX4_use_74 rfl ?_
            refine ev_iload_n dX4_use_75 rfl ?_
            refine ev_iload_n dX4_use_76 rfl ?_
            refine cVi3 dX4_use_77 VX4_95 ⟨_, rfl⟩ rfl rfl rfl rfl (t_addUse (σ := ai_up σ 2 6 0) hA (by omega) (by omega) hr' hm em) ?_
            rintro x σ' ⟨rfl, rfl⟩
            refine ev_ireturn dX4_use_80 rfl rfl rfl ?_
            rw [bI_0] at c59
            have en : nM (ai_up (ai_up (ai_up (ai_up β 38 (nM β) (nI f')) 39 (nM β) (nI u')) 40 (nM β) (nI r')) 35 4 (nI (nM β + 1))) = nM β + 1 := clN (by omega)
            refine Ri.mk (PC.of (β' := ai_up (ai_up (ai_up (ai_up β 38 (nM β) (nI f')) 39 (nM β) (nI u')) 40 (nM β) (nI r')) 35 4 (nI (nM β + 1))) (by rw [esp, if_neg c59]) ⟨⟨hN.1, hN.2.1, rfl, hN.2.2.2⟩, hV, hK, ?_, ?_, hW, hX, hH⟩ (Or.inl rfl) ((((((FrC.rf.up (by decide) (by decide)).up (by decide) (by decide)).up (by decide) (by decide)).up (by decide) (by decide)).up (by decide) (by decide)).up (by decide) (by decide)))
            · intro i hi; rw [en] at hi; exact addU_rcU hU i hi
            · intro a b ha hb; exact addU_rcA hA hm (by omega) (by omega) hr' a b ha hb
          · refine ev_bipush (-5) dX4_use_62 (by decide) ?_
            refine ev_ireturn dX4_use_64 rfl rfl rfl ?_
            refine Ri.mk (PC.of ?_ ⟨hN, hV, hK, hU, hA, hW, hX, hH⟩ hc FrC.rf)
            rw [bI_n] at c59
            rw [esp, if_pos c59]
        · refine ev_bipush (-4) dX4_use_46 (by decide) ?_
          refine ev_ireturn dX4_use_48 rfl rfl rfl ?_
          refine Ri.mk (PC.of ?_ ⟨hN, hV, hK, hU, hA, hW, hX, hH⟩ hc FrC.rf)
          rw [sp_use, if_neg (fun q => q ⟨c8, c19⟩), if_neg (fun q => q c28), if_pos (by have := ge6 (by omega) em (b := 30) (by omega) c43; omega)]
      · refine ev_bipush (-2) dX4_use_31 (by decide) ?_
        refine ev_ireturn dX4_use_33 rfl rfl rfl ?_
        refine Ri.mk (PC.of ?_ ⟨hN, hV, hK, hU, hA, hW, hX, hH⟩ hc FrC.rf)
        rw [bI_0] at c28
        rw [sp_use, if_neg (fun q => q ⟨c8, c19⟩), if_pos c28]
    · refine ev_iconst (-1) dX4_use_22 (by decide) ?_
      refine ev_ireturn dX4_use_23 rfl rfl rfl ?_
      first | exact hno (fun q => by rw [bI_0, e0] at c8; exact c8 q.1) | exact hno (fun q => by rw [bI_0, e1] at c19; exact c19 q.2)
end CB2
