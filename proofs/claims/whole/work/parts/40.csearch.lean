def vtB (β : ai_M) (v : Int32) (f : Nat) : Bool := decide (f < nF β) && (decide (v = 0) || decide (β 36 f = v))
/-- the feet on which a unit may do a role for a wish -/
def opB (β : ai_M) (w u r f : Nat) : Bool := decide (u < nU β) && kdB β w u && decide (f < nF β) && okB β w u r f
def okC (β : ai_M) (k : Int32) (n : Nat) : Nat := cnt (fun u => decide (β 37 u = k)) n
def okW (β : ai_M) (k : Int32) (m : Nat) (n : Nat) : Nat := cnt (fun w => m.testBit w && decide (β 41 w = k)) n
section CS
variable {σ β : ai_M} {d L : Nat}
theorem volt_loop (hw : WF β) (hN : rcN σ β) (hV : rcV σ β) {v : Int32} : ∀ n i, i + n = nF β → ev mX1_feetOfVolt d 4 [some (.ref 3), some (.int v), some (.int (nI (mk (fun f => decide (f < i) && vtB β v f) 16))), some (.int (nI i))] [] (LY L) σ 0 0 (Rp (LY L) σ (nI (mk (vtB β v) 16))) := by
  have h16 := hw.1.2.2.1
  have e0 : σ 3 0 = nI (nF β) := hN.1.trans hw.1.1
  intro n
  induction n with
  | zero =>
    intro i hi
    obtain rfl : i = nF β := by omega
    refine ev_iload_n dX1_feetOfVolt_4 rfl ?_
    refine ev_aload_n dX1_feetOfVolt_5 rfl ?_
    refine ev_getI dX1_feetOfVolt_6 fX1_28 ⟨_, rfl, rfl⟩ ?_
    rw [e0]
    refine ev_icmp_ge 38 dX1_feetOfVolt_9 (by decide) (fun c9 => ?_) (fun c9 => absurd (nI_le (by omega) (by omega)) c9)
    refine ev_iload_n dX1_feetOfVolt_38 rfl ?_
    refine ev_ireturn dX1_feetOfVolt_39 rfl rfl rfl ?_
    refine Rp.mk (mkI_cong (fun f hf => ?_))
    by_cases q : f < nF β
    · simp [q]
    · simp [vtB, q]
  | succ n ih =>
    intro i hi
    have hin : vp_in (nI i) 16 := vp_in_nI (by omega) (by decide)
    have ic : (nI i).toNatClampNeg = i := clN (by omega)
    have yes : (v = 0 ∨ β 36 i = v) → nI (mk (fun f => (decide (f < i) && vtB β v f) || f == i) 16) = nI (mk (fun f => decide (f < i + 1) && vtB β v f) 16) := fun q => mkI_cong (fun f hf => by
      by_cases h1 : f = i
      · subst h1
        have : vtB β v f = true := by unfold vtB; rcases q with q | q <;> simp [q] <;> omega
        simp [this]
      · have : (f == i) = false := by simp [h1]
        rw [this, Bool.or_false]
        congr 1
        simp only [decide_eq_decide]; omega)
    have no : ¬ v = 0 → ¬ β 36 i = v → nI (mk (fun f => decide (f < i) && vtB β v f) 16) = nI (mk (fun f => decide (f < i + 1) && vtB β v f) 16) := fun q1 q2 => mkI_cong (fun f hf => by
      by_cases h1 : f = i
      · subst h1
        have : vtB β v f = false := by unfold vtB; simp [q1, q2]
        simp [this]
      · congr 1
        simp only [decide_eq_decide]; omega)
    refine ev_iload_n dX1_feetOfVolt_4 rfl ?_
    refine ev_aload_n dX1_feetOfVolt_5 rfl ?_
    refine ev_getI dX1_feetOfVolt_6 fX1_28 ⟨_, rfl, rfl⟩ ?_
    rw [e0]
    refine ev_icmp_ge 38 dX1_feetOfVolt_9 (by decide) (fun c9 => absurd c9 (nI_ge (by omega) (by omega))) (fun c9 => ?_)
    refine ev_iload_n dX1_feetOfVolt_12 rfl ?_
    refine ev_if_eq 26 dX1_feetOfVolt_13 (by decide) (fun c13 => ?_) (fun c13 => ?_)
    · refine ev_iload_n dX1_feetOfVolt_26 rfl ?_
      refine ev_iconst 1 dX1_feetOfVolt_27 (by decide) ?_
      refine ev_iload_n dX1_feetOfVolt_28 rfl ?_
      refine ev_ishl dX1_feetOfVolt_29 ?_
      refine ev_ior dX1_feetOfVolt_30 ?_
      rw [mk_set _ (by decide) (by omega)]
      refine ev_istore_n dX1_feetOfVolt_31 (by decide) ?_
      refine ev_iinc _ dX1_feetOfVolt_32 rfl rfl (by decide) ?_
      rw [show nI i + Int32.ofInt 1 = nI (i + 1) from nI_1 i]
      refine ev_goto 4 dX1_feetOfVolt_35 (by decide) ?_
      have := ih (i + 1) (by omega)
      first | (rw [← yes (Or.inl c13)] at this; exact this) | (rw [← no c13 c23] at this; exact this) | (rw [← yes (Or.inr c23)] at this; exact this)
    · refine ev_aload_n dX1_feetOfVolt_16 rfl ?_
      refine ev_getR dX1_feetOfVolt_17 fX1_9 ⟨_, rfl, rfl⟩ ?_
      refine ev_iload_n dX1_feetOfVolt_20 rfl ?_
      refine ev_iaload dX1_feetOfVolt_21 rfl hin ?_
      rw [ic, hV i (by omega)]
      refine ev_iload_n dX1_feetOfVolt_22 rfl ?_
      refine ev_icmp_ne 32 dX1_feetOfVolt_23 (by decide) (fun c23 => ?_) (fun c23 => ?_)
      · refine ev_iinc _ dX1_feetOfVolt_32 rfl rfl (by decide) ?_
        rw [show nI i + Int32.ofInt 1 = nI (i + 1) from nI_1 i]
        refine ev_goto 4 dX1_feetOfVolt_35 (by decide) ?_
        have := ih (i + 1) (by omega)
        first | (rw [← yes (Or.inl c13)] at this; exact this) | (rw [← no c13 c23] at this; exact this) | (rw [← yes (Or.inr c23)] at this; exact this)
      · refine ev_iload_n dX1_feetOfVolt_26 rfl ?_
        refine ev_iconst 1 dX1_feetOfVolt_27 (by decide) ?_
        refine ev_iload_n dX1_feetOfVolt_28 rfl ?_
        refine ev_ishl dX1_feetOfVolt_29 ?_
        refine ev_ior dX1_feetOfVolt_30 ?_
        rw [mk_set _ (by decide) (by omega)]
        refine ev_istore_n dX1_feetOfVolt_31 (by decide) ?_
        refine ev_iinc _ dX1_feetOfVolt_32 rfl rfl (by decide) ?_
        rw [show nI i + Int32.ofInt 1 = nI (i + 1) from nI_1 i]
        refine ev_goto 4 dX1_feetOfVolt_35 (by decide) ?_
        have := ih (i + 1) (by omega)
        first | (rw [← yes (Or.inl c13)] at this; exact this) | (rw [← no c13 c23] at this; exact this) | (rw [← yes (Or.inr c23)] at this; exact this)
theorem t_feetOfVolt (hw : WF β) (hN : rcN σ β) (hV : rcV σ β) (v : Int32) : ev mX1_feetOfVolt d 0 [some (.ref 3), some (.int v), none, none] [] (LY L) σ 0 0 (Rp (LY L) σ (nI (mk (vtB β v) 16))) := by
  refine ev_iconst 0 dX1_feetOfVolt_0 (by decide) ?_
  refine ev_istore_n dX1_feetOfVolt_1 (by decide) ?_
  refine ev_iconst 0 dX1_feetOfVolt_2 (by decide) ?_
  refine ev_istore_n dX1_feetOfVolt_3 (by decide) ?_
  have := volt_loop (d := d) (L := L) (v := v) hw hN hV (nF β) 0 (by omega)
  rw [show nI (mk (fun f => decide (f < 0) && vtB β v f) 16) = 0 from by rw [← mk_none 16]; exact mkI_cong (fun f _ => by simp)] at this
  exact this
theorem t_openFeet (hw : WF β) (h : RB σ β) {w u r : Nat} (hlt : w < nW β) (hu : u < 6) (hr : r < 4) : ev mX0_openFeet (d + 1) 0 [some (.ref 8), some (.ref 3), some (.int (nI w)), some (.int (nI u)), some (.int (nI r)), none, none] [] (LY L) σ 0 0 (Rp (LY L) σ (nI (mk (opB β w u r) 16))) := by
  obtain ⟨hN, hV, hK, hU, hA, hW, hX, hH⟩ := id h
  have h4 := hw.1.2.2.2.2.2.2.2.2
  have h16 := hw.1.2.2.1
  have eU : (σ 3 1).toInt = nU β := by rw [hN.2.1]; exact hw.1.u
  have iw : vp_in (nI w) 4 := vp_in_nI (by omega) (by decide)
  have cw : (nI w).toNatClampNeg = w := clN (by omega)
  have iu : vp_in (nI u) 6 := vp_in_nI (by omega) (by decide)
  have cu : (nI u).toNatClampNeg = u := clN (by omega)
  have e4 : nI u * 4 + nI r = nI (4 * u + r) := by rw [show (4 : Int32) = nI 4 from rfl, pk_mul, nI_add, Nat.mul_comm]
  have e5 : nI w * 4 + nI r = nI (4 * w + r) := by rw [show (4 : Int32) = nI 4 from rfl, pk_mul, nI_add, Nat.mul_comm]
  have hinu : inR (nI u) (σ 3 1).toInt ↔ u < nU β := by rw [inR, nI_toInt (by omega), eU]; omega
  have zero : ¬ (u < nU β ∧ kdB β w u = true) → (0 : Int32) = nI (mk (opB β w u r) 16) := fun q => by
    rw [← mk_none 16]
    refine mkI_cong (fun f _ => ?_)
    unfold opB
    by_cases q1 : u < nU β
    · have : kdB β w u = false := by simpa using fun z => q ⟨q1, z⟩
      simp [this]
    · simp [q1]
  have hwr := hW w hlt
  have full : u < nU β → kdB β w u = true → β 45 (4 * w + r) = -6 → nI (mk (fun f => canB β f u r && vtB β (β 43 w) f) 16) = nI (mk (opB β w u r) 16) := fun q1 q2 q3 => mkI_cong (fun f _ => by
    unfold opB okB vtB
    rw [q2, q3]
    simp only [q1, decide_true, Bool.true_and, Bool.true_or, Bool.and_true]
    cases canB β f u r <;> cases decide (f < nF β) <;> simp)
  have part : ∀ f0, f0 < nF β → u < nU β → kdB β w u = true → β 45 (4 * w + r) = nI f0 → nI (mk (fun f => (canB β f u r && vtB β (β 43 w) f) && f == f0) 16) = nI (mk (opB β w u r) 16) := fun f0 q0 q1 q2 q3 => mkI_cong (fun f hf => by
    unfold opB okB vtB
    rw [q2, q3]
    have e6 : decide (nI f0 = (-6 : Int32)) = false := by
      rw [decide_eq_false_iff_not]
      intro q
      have e : (nI f0).toInt = (-6 : Int32).toInt := by rw [q]
      rw [nI_toInt (by omega), show (-6 : Int32).toInt = -6 from rfl] at e; omega
    have e7 : decide (nI f0 = nI f) = (f == f0) := by
      by_cases q : f = f0
      · subst q; simp
      · have : ¬ nI f0 = nI f := fun z => q (nI_inj (by omega) (by omega) z).symm
        simp [q, this]
    rw [e6, e7]
    simp only [q1, decide_true, Bool.true_and, Bool.false_or]
    cases canB β f u r <;> cases decide (f < nF β) <;> simp)
  refine ev_aload_n dX0_openFeet_0 rfl ?_
  refine ev_iload_n dX0_openFeet_1 rfl ?_
  refine cVp1 dX0_openFeet_2 VX0_35 ⟨_, rfl⟩ rfl rfl (t_hasUnit _) ?_
  refine ev_if_eq 23 dX0_openFeet_5 (by decide) (fun c5 => ?_) (fun c5 => ?_)
  · refine ev_iconst 0 dX0_openFeet_23 (by decide) ?_
    refine ev_ireturn dX0_openFeet_24 rfl rfl rfl ?_
    first | exact Rp.mk (zero (fun q => by rw [bI_0, hinu] at c5; exact c5 q.1)) | exact Rp.mk (zero (fun q => c20 (of_decide_eq_true q.2)))
  · rw [bI_n, hinu] at c5
    refine ev_aload_n dX0_openFeet_8 rfl ?_
    refine ev_getR dX0_openFeet_9 fX0_40 ⟨_, rfl, rfl⟩ ?_
    refine ev_iload_n dX0_openFeet_12 rfl ?_
    refine ev_iaload dX0_openFeet_13 rfl iu ?_
    rw [cu, hK u c5]
    refine ev_aload_n dX0_openFeet_14 rfl ?_
    refine ev_getR dX0_openFeet_15 fX0_9 ⟨_, rfl, rfl⟩ ?_
    refine ev_iload_n dX0_openFeet_18 rfl ?_
    refine ev_iaload dX0_openFeet_19 rfl iw ?_
    rw [cw, hwr.1]
    refine ev_icmp_eq 25 dX0_openFeet_20 (by decide) (fun c20 => ?_) (fun c20 => ?_)
    · refine ev_aload_n dX0_openFeet_25 rfl ?_
      refine ev_getR dX0_openFeet_26 fX0_41 ⟨_, rfl, rfl⟩ ?_
      refine ev_iload_n dX0_openFeet_29 rfl ?_
      refine ev_iconst 4 dX0_openFeet_30 (by decide) ?_
      refine ev_imul dX0_openFeet_31 ?_
      refine ev_iload dX0_openFeet_32 rfl ?_
      refine ev_iadd dX0_openFeet_34 ?_
      rw [e4]
      refine ev_iaload dX0_openFeet_35 rfl (vp_in_nI (by omega) (by decide)) ?_
      rw [clN (by omega), hA u r hu hr]
      refine ev_aload_n dX0_openFeet_36 rfl ?_
      refine ev_aload_n dX0_openFeet_37 rfl ?_
      refine ev_getR dX0_openFeet_38 fX0_18 ⟨_, rfl, rfl⟩ ?_
      refine ev_iload_n dX0_openFeet_41 rfl ?_
      refine ev_iaload dX0_openFeet_42 rfl iw ?_
      rw [cw, hwr.2.2.1]
      refine cVp1 dX0_openFeet_43 VX0_44 ⟨_, rfl⟩ rfl rfl (t_feetOfVolt hw hN hV _) ?_
      refine ev_iand dX0_openFeet_46 ?_
      rw [mk_and]
      refine ev_istore dX0_openFeet_47 (by decide) ?_
      refine ev_aload_n dX0_openFeet_49 rfl ?_
      refine ev_getR dX0_openFeet_50 fX0_24 ⟨_, rfl, rfl⟩ ?_
      refine ev_iload_n dX0_openFeet_53 rfl ?_
      refine ev_iconst 4 dX0_openFeet_54 (by decide) ?_
      refine ev_imul dX0_openFeet_55 ?_
      refine ev_iload dX0_openFeet_56 rfl ?_
      refine ev_iadd dX0_openFeet_58 ?_
      rw [e5]
      refine ev_iaload dX0_openFeet_59 rfl (vp_in_nI (by omega) (by decide)) ?_
      rw [clN (by omega), hX _ (by omega)]
      refine ev_istore dX0_openFeet_60 (by decide) ?_
      refine ev_iload dX0_openFeet_62 rfl ?_
      refine ev_bipush (-6) dX0_openFeet_64 (by decide) ?_
      refine ev_icmp_ne 74 dX0_openFeet_66 (by decide) (fun c66 => ?_) (fun c66 => ?_)
      · obtain ⟨f0, hf0, ef0⟩ := (hw.2.2.2.1 (4 * w + r) (by omega)).resolve_left c66
        rw [ef0]
        refine ev_iload dX0_openFeet_74 rfl ?_
        refine ev_iconst 1 dX0_openFeet_76 (by decide) ?_
        refine ev_iload dX0_openFeet_77 rfl ?_
        refine ev_ishl dX0_openFeet_79 ?_
        rw [mk_single (n := 16) (by decide) (by omega)]
        refine ev_iand dX0_openFeet_80 ?_
        rw [mk_and]
        refine ev_ireturn dX0_openFeet_81 rfl rfl rfl ?_
        first | (rw [← full c5 (decide_eq_true c20) c66]; exact Rp.mk rfl) | (rw [← part f0 hf0 c5 (decide_eq_true c20) ef0]; exact Rp.mk rfl)
      · refine ev_iload dX0_openFeet_69 rfl ?_
        refine ev_goto 81 dX0_openFeet_71 (by decide) ?_
        refine ev_ireturn dX0_openFeet_81 rfl rfl rfl ?_
        first | (rw [← full c5 (decide_eq_true c20) c66]; exact Rp.mk rfl) | (rw [← part f0 hf0 c5 (decide_eq_true c20) ef0]; exact Rp.mk rfl)
    · refine ev_iconst 0 dX0_openFeet_23 (by decide) ?_
      refine ev_ireturn dX0_openFeet_24 rfl rfl rfl ?_
      first | exact Rp.mk (zero (fun q => by rw [bI_0, hinu] at c5; exact c5 q.1)) | exact Rp.mk (zero (fun q => c20 (of_decide_eq_true q.2)))
end CS
