/-! stands -/
def fitC (β : ai_M) (w r : Nat) : Bool := if rol β w r then decide (¬ β 47 (4 * w + r) = -6) && opB β w (β 46 w).toNatClampNeg r (β 47 (4 * w + r)).toNatClampNeg else decide (β 47 (4 * w + r) = -6)
def gvD (β : ai_M) : Bool := decide (hN β = nW β) && (List.range (nW β)).all (fun w => (List.range 4).all (fun r => fitC β w r))
theorem gvD_iff {β : ai_M} : gvD β = true ↔ hN β = nW β ∧ ∀ w, w < nW β → ∀ r, r < 4 → fitC β w r = true := by
  unfold gvD
  rw [Bool.and_eq_true, decide_eq_true_eq, List.all_eq_true]
  constructor
  · rintro ⟨h1, h2⟩
    refine ⟨h1, fun w hw r hr => ?_⟩
    have := List.all_eq_true.mp (h2 w (List.mem_range.mpr hw))
    exact this r (List.mem_range.mpr hr)
  · rintro ⟨h1, h2⟩
    exact ⟨h1, fun w hw => List.all_eq_true.mpr (fun r hr => h2 w (List.mem_range.mp hw) r (List.mem_range.mp hr))⟩
def sp_stands (β : ai_M) : Int32 × ai_M := (bI (¬ β 35 14 = 0 ∧ gvD β = true), β)
section HND
variable {β : ai_M}
theorem hu_nat (hw : WF β) {w : Nat} (h4 : w < 4) (hne : ¬ β 46 w = -6) : (β 46 w).toNatClampNeg < nU β ∧ β 46 w = nI (β 46 w).toNatClampNeg := by
  obtain ⟨h, h4', a1, a2, -⟩ := hw.2.2.2.2
  have h6 := hw.1.2.2.2.2.1
  rcases Nat.lt_or_ge w h with q | q
  · obtain ⟨u, u1, u2⟩ := a1 w q
    rw [u2, clN (by omega)]; exact ⟨u1, rfl⟩
  · exact absurd (a2 w q h4) hne
theorem hf_nat (hw : WF β) {k : Nat} (h16 : k < 16) (hne : ¬ β 47 k = -6) : (β 47 k).toNatClampNeg < nF β ∧ β 47 k = nI (β 47 k).toNatClampNeg := by
  obtain ⟨h, h4', a1, a2, a3, a4, -⟩ := hw.2.2.2.2
  have hF := hw.1.2.2.1
  obtain ⟨f, f1, f2⟩ := (a4 k h16).resolve_left hne
  rw [f2, clN (by omega)]; exact ⟨f1, rfl⟩
theorem hu_inj (hw : WF β) {w v : Nat} (h1 : w < 4) (h2 : v < 4) (n1 : ¬ β 46 w = -6) (n2 : ¬ β 46 v = -6) (e : (β 46 w).toNatClampNeg = (β 46 v).toNatClampNeg) : w = v := by
  have e1 := (hu_nat hw h1 n1).2
  have e2 := (hu_nat hw h2 n2).2
  obtain ⟨h, h4', a1, a2, a3, -⟩ := hw.2.2.2.2
  refine a3 w v ?_ ?_ (by rw [e1, e2, e])
  · rcases Nat.lt_or_ge w h with q | q
    · exact q
    · exact absurd (a2 w q h1) n1
  · rcases Nat.lt_or_ge v h with q | q
    · exact q
    · exact absurd (a2 v q h2) n2
theorem hf_inj (hw : WF β) {j k : Nat} (h1 : j < 16) (h2 : k < 16) (n1 : ¬ β 47 j = -6) (n2 : ¬ β 47 k = -6) (e : (β 47 j).toNatClampNeg = (β 47 k).toNatClampNeg) : j = k := by
  have e1 := (hf_nat hw h1 n1).2
  have e2 := (hf_nat hw h2 n2).2
  obtain ⟨h, h4', a1, a2, a3, a4, a5, a6, -⟩ := hw.2.2.2.2
  exact a6 j k h1 h2 (by rw [e1, e2, e]) n1
theorem hf_out (hw : WF β) {k : Nat} (h1 : 4 * hN β ≤ k) (h2 : k < 16) : β 47 k = -6 := by
  have hh := hN_h hw
  have hle := hN_le β
  obtain ⟨h, h4', a1, a2, a3, a4, a5, -⟩ := hw.2.2.2.2
  refine a5 k ?_ h2
  rcases Nat.lt_or_ge (hN β) h with q | q
  · obtain ⟨u, u1, u2⟩ := a1 (hN β) q
    have h6 := hw.1.2.2.2.2.1
    have : hN β < hN β := (hh (hN β) (by omega)).mpr (by rw [u2]; exact nI_ne6 (by omega))
    omega
  · omega
end HND
section CSD
variable {σ β : ai_M} {d L : Nat}
theorem t_cfits (hw : WF β) (h : RB σ β) (hh : hN β = nW β) {w r : Nat} (hlt : w < nW β) (hr : r < 4) : ev mX4_fits (d + 2) 0 [some (.ref 2), some (.ref 29), some (.int (nI w)), some (.int (nI r)), none] [] (LY L) σ 0 0 (Rp (LY L) σ (bI (fitC β w r = true))) := by
  have h4 := hw.1.2.2.2.2.2.2.2.2
  have h6 := hw.1.2.2.2.2.1
  have h16 := hw.1.2.2.1
  have hH := h.2.2.2.2.2.2.2
  have ef : σ 31 (4 * w + r) = β 47 (4 * w + r) := hH.2.2.2 _ (by omega)
  have hun := (hN_h hw w (by omega)).mp (by omega)
  obtain ⟨u1, u2⟩ := hu_nat hw (by omega) hun
  cases hrol : rol β w r with
  | false =>
    have efit : fitC β w r = decide (β 47 (4 * w + r) = -6) := by unfold fitC; rw [hrol]; rfl
    refine ev_aload_n dX4_fits_0 rfl ?_
    refine ev_iload_n dX4_fits_1 rfl ?_
    refine ev_iload_n dX4_fits_2 rfl ?_
    refine cVp2 dX4_fits_3 VX4_133 ⟨_, rfl⟩ rfl rfl rfl (t_footOf (g := 29) (u := 30) (f := 31) rfl rfl (by omega) hr) ?_
    rw [ef]
    refine ev_istore dX4_fits_6 (by decide) ?_
    refine ev_aload_n dX4_fits_8 rfl ?_
    refine ev_getR dX4_fits_9 fX4_19 ⟨_, rfl, rfl⟩ ?_
    refine ev_iload_n dX4_fits_12 rfl ?_
    refine ev_iload_n dX4_fits_13 rfl ?_
    refine cVp2 dX4_fits_14 VX4_123 ⟨_, rfl⟩ rfl rfl rfl (t_wantsR (d := d) hw h hlt hr) ?_
    refine ev_if_ne 33 dX4_fits_17 (by decide) (fun c17 => absurd (bI_0.mpr (by rw [hrol]; decide)) c17) (fun c17 => ?_)
    refine ev_iload dX4_fits_20 rfl ?_
    refine ev_bipush (-6) dX4_fits_22 (by decide) ?_
    refine ev_icmp_ne 31 dX4_fits_24 (by decide) (fun c24 => ?_) (fun c24 => ?_)
    · refine ev_iconst 0 dX4_fits_31 (by decide) ?_
      refine ev_ireturn dX4_fits_32 rfl rfl rfl ?_
      first | exact Rp.mk (bI_f (by rw [efit, decide_eq_true_eq]; exact c24)) | exact Rp.mk (bI_t (by rw [efit, decide_eq_true_eq]; exact c24))
    · refine ev_iconst 1 dX4_fits_27 (by decide) ?_
      refine ev_goto 32 dX4_fits_28 (by decide) ?_
      refine ev_ireturn dX4_fits_32 rfl rfl rfl ?_
      first | exact Rp.mk (bI_f (by rw [efit, decide_eq_true_eq]; exact c24)) | exact Rp.mk (bI_t (by rw [efit, decide_eq_true_eq]; exact c24))
  | true =>
    have efit : fitC β w r = (decide (¬ β 47 (4 * w + r) = -6) && opB β w (β 46 w).toNatClampNeg r (β 47 (4 * w + r)).toNatClampNeg) := by unfold fitC; rw [hrol]; rfl
    by_cases q : β 47 (4 * w + r) = -6
    · refine ev_aload_n dX4_fits_0 rfl ?_
      refine ev_iload_n dX4_fits_1 rfl ?_
      refine ev_iload_n dX4_fits_2 rfl ?_
      refine cVp2 dX4_fits_3 VX4_133 ⟨_, rfl⟩ rfl rfl rfl (t_footOf (g := 29) (u := 30) (f := 31) rfl rfl (by omega) hr) ?_
      rw [ef]
      refine ev_istore dX4_fits_6 (by decide) ?_
      refine ev_aload_n dX4_fits_8 rfl ?_
      refine ev_getR dX4_fits_9 fX4_19 ⟨_, rfl, rfl⟩ ?_
      refine ev_iload_n dX4_fits_12 rfl ?_
      refine ev_iload_n dX4_fits_13 rfl ?_
      refine cVp2 dX4_fits_14 VX4_123 ⟨_, rfl⟩ rfl rfl rfl (t_wantsR (d := d) hw h hlt hr) ?_
      refine ev_if_ne 33 dX4_fits_17 (by decide) (fun c17 => ?_) (fun c17 => absurd c17 (bI_n.mpr hrol))
      refine ev_iload dX4_fits_33 rfl ?_
      refine ev_bipush (-6) dX4_fits_35 (by decide) ?_
      refine ev_icmp_eq 70 dX4_fits_37 (by decide) (fun c37 => ?_) (fun c37 => absurd q c37)
      refine ev_iconst 0 dX4_fits_70 (by decide) ?_
      refine ev_ireturn dX4_fits_71 rfl rfl rfl ?_
      exact Rp.mk (bI_f (by rw [efit]; simp [q]))
    · obtain ⟨f1, f2⟩ := hf_nat hw (by omega) q
      have hb := mk_test (p := opB β w (β 46 w).toNatClampNeg r) (n := 16) (f := (β 47 (4 * w + r)).toNatClampNeg) (by decide) (by omega)
      rw [← f2] at hb
      have efit2 : fitC β w r = opB β w (β 46 w).toNatClampNeg r (β 47 (4 * w + r)).toNatClampNeg := by rw [efit, decide_eq_true q, Bool.true_and]
      refine ev_aload_n dX4_fits_0 rfl ?_
      refine ev_iload_n dX4_fits_1 rfl ?_
      refine ev_iload_n dX4_fits_2 rfl ?_
      refine cVp2 dX4_fits_3 VX4_133 ⟨_, rfl⟩ rfl rfl rfl (t_footOf (g := 29) (u := 30) (f := 31) rfl rfl (by omega) hr) ?_
      rw [ef]
      refine ev_istore dX4_fits_6 (by decide) ?_
      refine ev_aload_n dX4_fits_8 rfl ?_
      refine ev_getR dX4_fits_9 fX4_19 ⟨_, rfl, rfl⟩ ?_
      refine ev_iload_n dX4_fits_12 rfl ?_
      refine ev_iload_n dX4_fits_13 rfl ?_
      refine cVp2 dX4_fits_14 VX4_123 ⟨_, rfl⟩ rfl rfl rfl (t_wantsR (d := d) hw h hlt hr) ?_
      refine ev_if_ne 33 dX4_fits_17 (by decide) (fun c17 => ?_) (fun c17 => absurd c17 (bI_n.mpr hrol))
      refine ev_iload dX4_fits_33 rfl ?_
      refine ev_bipush (-6) dX4_fits_35 (by decide) ?_
      refine ev_icmp_eq 70 dX4_fits_37 (by decide) (fun c37 => absurd c37 q) (fun c37 => ?_)
      refine ev_aload_n dX4_fits_40 rfl ?_
      refine ev_getR dX4_fits_41 fX4_19 ⟨_, rfl, rfl⟩ ?_
      refine ev_aload_n dX4_fits_44 rfl ?_
      refine ev_getR dX4_fits_45 fX4_10 ⟨_, rfl, rfl⟩ ?_
      refine ev_iload_n dX4_fits_48 rfl ?_
      refine ev_aload_n dX4_fits_49 rfl ?_
      refine ev_iload_n dX4_fits_50 rfl ?_
      refine cVp1 dX4_fits_51 VX4_130 ⟨_, rfl⟩ rfl rfl (t_unitOf (g := 29) (u := 30) (f := 31) rfl rfl (vp_in_nI (by omega) (by decide))) ?_
      rw [clN (by omega), hH.2.2.1 w (by omega)]
      refine ev_iload_n dX4_fits_54 rfl ?_
      refine cVp4 dX4_fits_55 VX4_202 ⟨_, rfl⟩ rfl rfl rfl rfl rfl ((by rw [u2]; exact t_openFeet (d := d) hw h hlt (by omega) hr)) ?_
      refine ev_iload dX4_fits_58 rfl ?_
      refine ev_ishr dX4_fits_60 ?_
      refine ev_iconst 1 dX4_fits_61 (by decide) ?_
      refine ev_iand dX4_fits_62 ?_
      refine ev_if_eq 70 dX4_fits_63 (by decide) (fun c63 => ?_) (fun c63 => ?_)
      · refine ev_iconst 0 dX4_fits_70 (by decide) ?_
        refine ev_ireturn dX4_fits_71 rfl rfl rfl ?_
        first | exact Rp.mk (bI_f (by rw [efit2, hb.mp c63]; decide)) | exact Rp.mk (bI_t (by rw [efit2]; rw [hb] at c63; simpa using c63))
      · refine ev_iconst 1 dX4_fits_66 (by decide) ?_
        refine ev_goto 71 dX4_fits_67 (by decide) ?_
        refine ev_ireturn dX4_fits_71 rfl rfl rfl ?_
        first | exact Rp.mk (bI_f (by rw [efit2, hb.mp c63]; decide)) | exact Rp.mk (bI_t (by rw [efit2]; rw [hb] at c63; simpa using c63))
theorem ig_in (hw : WF β) (h : RB σ β) (hh : hN β = nW β) {w : Nat} (hlt : w < nW β) (K : (∀ r, r < 4 → fitC β w r = true) → ev mX4_isGivingNow (d + 3) 54 [some (.ref 2), some (.ref 29), some (.int (nI w)), some (.int (nI 4))] [] (LY L) σ 0 0 (Rp (LY L) σ (bI (gvD β = true)))) :
    ∀ n r, r + n = 4 → (∀ r', r' < r → fitC β w r' = true) → ev mX4_isGivingNow (d + 3) 31 [some (.ref 2), some (.ref 29), some (.int (nI w)), some (.int (nI r))] [] (LY L) σ 0 0 (Rp (LY L) σ (bI (gvD β = true))) := by
  intro n
  induction n with
  | zero =>
    intro r hr ha
    obtain rfl : r = 4 := by omega
    refine ev_iload_n dX4_isGivingNow_31 rfl ?_
    refine ev_iconst 4 dX4_isGivingNow_32 (by decide) ?_
    refine ev_icmp_ge 54 dX4_isGivingNow_33 (by decide) (fun c33 => ?_) (fun c33 => absurd (nI_le (a := 4) (b := 4) (by omega) (by decide)) c33)
    exact K ha
  | succ n ih =>
    intro r hr ha
    refine ev_iload_n dX4_isGivingNow_31 rfl ?_
    refine ev_iconst 4 dX4_isGivingNow_32 (by decide) ?_
    refine ev_icmp_ge 54 dX4_isGivingNow_33 (by decide) (fun c33 => absurd c33 (nI_ge (b := 4) (by omega) (by decide))) (fun _ => ?_)
    refine ev_aload_n dX4_isGivingNow_36 rfl ?_
    refine ev_aload_n dX4_isGivingNow_37 rfl ?_
    refine ev_iload_n dX4_isGivingNow_38 rfl ?_
    refine ev_iload_n dX4_isGivingNow_39 rfl ?_
    refine cVp3 dX4_isGivingNow_40 VX4_198 ⟨_, rfl⟩ rfl rfl rfl rfl (t_cfits (d := d) hw h hh hlt (show r < 4 by omega)) ?_
    cases hq : fitC β w r with
    | true =>
      refine ev_if_ne 48 dX4_isGivingNow_43 (by decide) (fun c43 => ?_) (fun c43 => absurd c43 (bI_n.mpr rfl))
      refine ev_iinc _ dX4_isGivingNow_48 rfl rfl (by decide) ?_
      rw [show nI r + Int32.ofInt 1 = nI (r + 1) from nI_1 r]
      refine ev_goto 31 dX4_isGivingNow_51 (by decide) ?_
      refine ih (r + 1) (by omega) (fun r' z => ?_)
      rcases Nat.lt_or_ge r' r with y | y
      · exact ha r' y
      · obtain rfl : r' = r := by omega
        exact hq
    | false =>
      refine ev_if_ne 48 dX4_isGivingNow_43 (by decide) (fun c43 => absurd (bI_0.mpr (by decide)) c43) (fun c43 => ?_)
      refine ev_iconst 0 dX4_isGivingNow_46 (by decide) ?_
      refine ev_ireturn dX4_isGivingNow_47 rfl rfl rfl ?_
      exact Rp.mk (bI_f (fun z => by have := (gvD_iff.mp z).2 w hlt r (by omega); rw [hq] at this; cases this))
theorem ig_out (hw : WF β) (h : RB σ β) (hh : hN β = nW β) : ∀ n w, w + n = nW β → (∀ w', w' < w → ∀ r, r < 4 → fitC β w' r = true) → ∀ l3, ev mX4_isGivingNow (d + 3) 18 [some (.ref 2), some (.ref 29), some (.int (nI w)), l3] [] (LY L) σ 0 0 (Rp (LY L) σ (bI (gvD β = true))) := by
  have h4 := hw.1.2.2.2.2.2.2.2.2
  have e8 : σ 8 0 = nI (nW β) := h.1.2.2.2.trans hw.1.2.2.2.2.2.2.2.1
  intro n
  induction n with
  | zero =>
    intro w hn ha l3
    obtain rfl : w = nW β := by omega
    refine ev_iload_n dX4_isGivingNow_18 rfl ?_
    refine ev_aload_n dX4_isGivingNow_19 rfl ?_
    refine ev_getR dX4_isGivingNow_20 fX4_19 ⟨_, rfl, rfl⟩ ?_
    refine ev_getI dX4_isGivingNow_23 fX4_55 ⟨_, rfl, rfl⟩ ?_
    rw [e8]
    refine ev_icmp_ge 60 dX4_isGivingNow_26 (by decide) (fun c26 => ?_) (fun c26 => absurd (nI_le (by omega) (by omega)) c26)
    refine ev_iconst 1 dX4_isGivingNow_60 (by decide) ?_
    refine ev_ireturn dX4_isGivingNow_61 rfl rfl rfl ?_
    exact Rp.mk (bI_t (gvD_iff.mpr ⟨hh, ha⟩))
  | succ n ih =>
    intro w hn ha l3
    refine ev_iload_n dX4_isGivingNow_18 rfl ?_
    refine ev_aload_n dX4_isGivingNow_19 rfl ?_
    refine ev_getR dX4_isGivingNow_20 fX4_19 ⟨_, rfl, rfl⟩ ?_
    refine ev_getI dX4_isGivingNow_23 fX4_55 ⟨_, rfl, rfl⟩ ?_
    rw [e8]
    refine ev_icmp_ge 60 dX4_isGivingNow_26 (by decide) (fun c26 => absurd c26 (nI_ge (by omega) (by omega))) (fun c26 => ?_)
    refine ev_iconst 0 dX4_isGivingNow_29 (by decide) ?_
    refine ev_istore_n dX4_isGivingNow_30 (by decide) ?_
    refine ig_in hw h hh (by omega) (fun hf => ?_) 4 0 rfl (fun r z => by omega)
    refine ev_iinc _ dX4_isGivingNow_54 rfl rfl (by decide) ?_
    rw [show nI w + Int32.ofInt 1 = nI (w + 1) from nI_1 w]
    refine ev_goto 18 dX4_isGivingNow_57 (by decide) ?_
    refine ih (w + 1) (by omega) (fun w' z => ?_) _
    rcases Nat.lt_or_ge w' w with y | y
    · exact ha w' y
    · obtain rfl : w' = w := by omega
      exact hf
theorem t_isGivingNow (hw : WF β) (h : RB σ β) : ev mX4_isGivingNow (d + 3) 0 [some (.ref 2), some (.ref 29), none, none] [] (LY L) σ 0 0 (Rp (LY L) σ (bI (gvD β = true))) := by
  have h4 := hw.1.2.2.2.2.2.2.2.2
  have hle := hN_le β
  have e8 : σ 8 0 = nI (nW β) := h.1.2.2.2.trans hw.1.2.2.2.2.2.2.2.1
  have eh := h.2.2.2.2.2.2.2.2.1
  by_cases q : hN β = nW β
  · refine ev_aload_n dX4_isGivingNow_0 rfl ?_
    refine ev_getI dX4_isGivingNow_1 fX4_182 ⟨_, rfl, rfl⟩ ?_
    rw [eh]
    refine ev_aload_n dX4_isGivingNow_4 rfl ?_
    refine ev_getR dX4_isGivingNow_5 fX4_19 ⟨_, rfl, rfl⟩ ?_
    refine ev_getI dX4_isGivingNow_8 fX4_55 ⟨_, rfl, rfl⟩ ?_
    rw [e8]
    refine ev_icmp_eq 16 dX4_isGivingNow_11 (by decide) (fun c11 => ?_) (fun c11 => absurd (by rw [q]) c11)
    refine ev_iconst 0 dX4_isGivingNow_16 (by decide) ?_
    refine ev_istore_n dX4_isGivingNow_17 (by decide) ?_
    exact ig_out hw h q (nW β) 0 (by omega) (fun w z => by omega) _
  · refine ev_aload_n dX4_isGivingNow_0 rfl ?_
    refine ev_getI dX4_isGivingNow_1 fX4_182 ⟨_, rfl, rfl⟩ ?_
    rw [eh]
    refine ev_aload_n dX4_isGivingNow_4 rfl ?_
    refine ev_getR dX4_isGivingNow_5 fX4_19 ⟨_, rfl, rfl⟩ ?_
    refine ev_getI dX4_isGivingNow_8 fX4_55 ⟨_, rfl, rfl⟩ ?_
    rw [e8]
    refine ev_icmp_eq 16 dX4_isGivingNow_11 (by decide) (fun c11 => absurd (nI_inj (by omega) (by omega) c11) q) (fun c11 => ?_)
    refine ev_iconst 0 dX4_isGivingNow_14 (by decide) ?_
    refine ev_ireturn dX4_isGivingNow_15 rfl rfl rfl ?_
    exact Rp.mk (bI_f (fun z => q (gvD_iff.mp z).1))
theorem tc_stands (hw : WF β) (h : RB σ β) (hc : rcC Bst σ β) : ev mX4_stands (d + 4) 0 [some (.ref 2)] [] (LY L) σ 0 0 (Ri (LY L) (PC Bst (sp_stands β) σ)) := by
  have e0 := h.2.2.2.2.2.2.2.1
  have fin : ∀ x : Int32, x = bI (¬ β 35 14 = 0 ∧ gvD β = true) → Ri (LY L) (PC Bst (sp_stands β) σ) (some (.int x)) (LY L) σ := fun x q => Ri.mk (PC.of (by rw [sp_stands, q]) h hc FrC.rf)
  refine ev_aload_n dX4_stands_0 rfl ?_
  refine ev_getR dX4_stands_1 fX4_33 ⟨_, rfl, rfl⟩ ?_
  refine ev_getI dX4_stands_4 fX4_163 ⟨_, rfl, rfl⟩ ?_
  rw [e0]
  refine ev_if_eq 25 dX4_stands_7 (by decide) (fun c7 => ?_) (fun c7 => ?_)
  · refine ev_iconst 0 dX4_stands_25 (by decide) ?_
    refine ev_ireturn dX4_stands_26 rfl rfl rfl ?_
    first | exact fin _ (bI_f (fun q => q.1 c7)) | exact fin _ (bI_f (fun q => bI_0.mp c18 q.2)) | exact fin _ (bI_t ⟨c7, bI_n.mp c18⟩)
  · refine ev_aload_n dX4_stands_10 rfl ?_
    refine ev_aload_n dX4_stands_11 rfl ?_
    refine ev_getR dX4_stands_12 fX4_33 ⟨_, rfl, rfl⟩ ?_
    refine cVp1 dX4_stands_15 VX4_178 ⟨_, rfl⟩ rfl rfl (t_isGivingNow (d := d) hw h) ?_
    refine ev_if_eq 25 dX4_stands_18 (by decide) (fun c18 => ?_) (fun c18 => ?_)
    · refine ev_iconst 0 dX4_stands_25 (by decide) ?_
      refine ev_ireturn dX4_stands_26 rfl rfl rfl ?_
      first | exact fin _ (bI_f (fun q => q.1 c7)) | exact fin _ (bI_f (fun q => bI_0.mp c18 q.2)) | exact fin _ (bI_t ⟨c7, bI_n.mp c18⟩)
    · refine ev_iconst 1 dX4_stands_21 (by decide) ?_
      refine ev_goto 26 dX4_stands_22 (by decide) ?_
      refine ev_ireturn dX4_stands_26 rfl rfl rfl ?_
      first | exact fin _ (bI_f (fun q => q.1 c7)) | exact fin _ (bI_f (fun q => bI_0.mp c18 q.2)) | exact fin _ (bI_t ⟨c7, bI_n.mp c18⟩)
end CSD
