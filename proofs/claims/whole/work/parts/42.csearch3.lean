/-- the search has been aimed at the wishes m -/
def SS (σ β : ai_M) (m : Nat) : Prop := σ 14 3 = nI (nW β) ∧ σ 14 4 = nI (nU β) ∧ σ 14 5 = nI (nF β) ∧ (∀ w, w < nW β → σ 24 w = if m.testBit w then β 42 w else 0) ∧ ∀ w, w < nW β → m.testBit w = true → (∀ f, f < nF β → σ 26 (16 * w + f) = nI (cst β w f)) ∧ ∀ u r, u < nU β → r < 4 → σ 25 (24 * w + 4 * u + r) = nI (mk (opB β w u r) 16)
/-- from what moves are counted -/
def KP (σ β : ai_M) (mv : Bool) : Prop := (mv = false ∧ σ 21 1 = 0) ∨ (mv = true ∧ (∀ w, w < 4 → (nI w < σ 21 1 ↔ ¬ β 46 w = -6) ∧ σ 22 w = β 46 w) ∧ ∀ k, k < 16 → σ 23 k = β 47 k)
def wgB (β : ai_M) (mv : Bool) (w u r f : Nat) : Nat := cst β w f + 1000 * mvB β mv w u r f
def lfN (β : ai_M) (mv : Bool) (w u r : Nat) : Nat → Nat
  | 0 => 1000000
  | i + 1 => if opB β w u r i then min (lfN β mv w u r i) (wgB β mv w u r i) else lfN β mv w u r i
def lfB (β : ai_M) (mv : Bool) (w u r : Nat) : Nat := if rol β w r then lfN β mv w u r (nF β) else 0
/-- the first wished role from r on; n roles are looked at -/
def nxR (p : Nat → Bool) : Nat → Nat → Nat
  | r, 0 => r
  | r, n + 1 => if p r then r else nxR p (r + 1) n
theorem mvB_le (β : ai_M) (mv : Bool) (w u r f : Nat) : mvB β mv w u r f ≤ 1 := by unfold mvB; split <;> omega
theorem wgB_le {β : ai_M} (h : nF β ≤ 16) (mv : Bool) (w u r f : Nat) : wgB β mv w u r f ≤ 1016 := by
  unfold wgB
  have := mvB_le β mv w u r f
  have h2 := stp_le (nF β) f (β 44 w).toNatClampNeg
  unfold cst
  omega
theorem lfN_le {β : ai_M} (mv : Bool) (w u r : Nat) : ∀ i, lfN β mv w u r i ≤ 1000000
  | 0 => Nat.le_refl _
  | i + 1 => by
    have := lfN_le (β := β) mv w u r i
    unfold lfN
    split <;> omega
section CS3
variable {σ β : ai_M} {d L m : Nat} {mv : Bool}
theorem t_weigh (hw : WF β) (hs : SS σ β m) (hk : KP σ β mv) {w u r f : Nat} (hlt : w < nW β) (hm : m.testBit w = true) (hr : r < 4) (hf : f < nF β) (hu : u < 6) : ev mX3_weigh d 0 [some (.ref 14), some (.int (nI w)), some (.int (nI u)), some (.int (nI r)), some (.int (nI f)), none, none] [] (LY L) σ 0 0 (Rp (LY L) σ (nI (wgB β mv w u r f))) := by
  have h4 := hw.1.2.2.2.2.2.2.2.2
  have h16 := hw.1.2.2.1
  have e16 : nI w * 16 + nI f = nI (16 * w + f) := by rw [show (16 : Int32) = nI 16 from rfl, pk_mul, nI_add, Nat.mul_comm]
  have e4 : nI w * 4 + nI r = nI (4 * w + r) := by rw [show (4 : Int32) = nI 4 from rfl, pk_mul, nI_add, Nat.mul_comm]
  have es := (hs.2.2.2.2 w hlt hm).1 f hf
  have iw : vp_in (nI w) 4 := vp_in_nI (by omega) (by decide)
  have cw : (nI w).toNatClampNeg = w := clN (by omega)
  have fin1 : mvB β mv w u r f = 1 → ∀ l6, ev mX3_weigh d 68 [some (.ref 14), some (.int (nI w)), some (.int (nI u)), some (.int (nI r)), some (.int (nI f)), some (.int (nI (cst β w f))), l6] [] (LY L) σ 0 0 (Rp (LY L) σ (nI (wgB β mv w u r f))) := by
    intro hq l6
    refine ev_iload dX3_weigh_68 rfl ?_
    refine ev_sipush 1000 dX3_weigh_70 (by decide) ?_
    refine ev_iadd dX3_weigh_73 ?_
    refine ev_goto 79 dX3_weigh_74 (by decide) ?_
    refine ev_ireturn dX3_weigh_79 rfl rfl rfl ?_
    refine Rp.mk ?_
    unfold wgB
    rw [hq, show (1000 : Int32) = nI 1000 from rfl, nI_add]
  have fin0 : mvB β mv w u r f = 0 → ∀ l6, ev mX3_weigh d 77 [some (.ref 14), some (.int (nI w)), some (.int (nI u)), some (.int (nI r)), some (.int (nI f)), some (.int (nI (cst β w f))), l6] [] (LY L) σ 0 0 (Rp (LY L) σ (nI (wgB β mv w u r f))) := by
    intro hq l6
    refine ev_iload dX3_weigh_77 rfl ?_
    refine ev_ireturn dX3_weigh_79 rfl rfl rfl ?_
    refine Rp.mk ?_
    unfold wgB
    rw [hq]; rfl
  rcases hk with ⟨rfl, h0⟩ | ⟨rfl, h1, h2⟩
  · have hmv : mvB β false w u r f = 0 := by unfold mvB; simp
    refine ev_aload_n dX3_weigh_0 rfl ?_
    refine ev_getR dX3_weigh_1 fX3_31 ⟨_, rfl, rfl⟩ ?_
    refine ev_iload_n dX3_weigh_4 rfl ?_
    refine ev_bipush 16 dX3_weigh_5 (by decide) ?_
    refine ev_imul dX3_weigh_7 ?_
    refine ev_iload dX3_weigh_8 rfl ?_
    refine ev_iadd dX3_weigh_10 ?_
    rw [e16]
    refine ev_iaload dX3_weigh_11 rfl (vp_in_nI (by omega) (by decide)) ?_
    rw [clN (by omega), es]
    refine ev_istore dX3_weigh_12 (by decide) ?_
    refine ev_iload_n dX3_weigh_14 rfl ?_
    refine ev_aload_n dX3_weigh_15 rfl ?_
    refine ev_getR dX3_weigh_16 fX3_21 ⟨_, rfl, rfl⟩ ?_
    refine ev_getI dX3_weigh_19 fX3_131 ⟨_, rfl, rfl⟩ ?_
    rw [h0]
    refine ev_icmp_ge 60 dX3_weigh_22 (by decide) (fun c22 => ?_) (fun c22 => absurd (nI_pos' (by omega)) c22)
    refine ev_iconst 0 dX3_weigh_60 (by decide) ?_
    refine ev_istore dX3_weigh_61 (by decide) ?_
    refine ev_iload dX3_weigh_63 rfl ?_
    refine ev_if_eq 77 dX3_weigh_65 (by decide) (fun c65 => ?_) (fun c65 => absurd rfl c65)
    exact fin0 hmv _
  · have hw1 := h1 w (by omega)
    refine ev_aload_n dX3_weigh_0 rfl ?_
    refine ev_getR dX3_weigh_1 fX3_31 ⟨_, rfl, rfl⟩ ?_
    refine ev_iload_n dX3_weigh_4 rfl ?_
    refine ev_bipush 16 dX3_weigh_5 (by decide) ?_
    refine ev_imul dX3_weigh_7 ?_
    refine ev_iload dX3_weigh_8 rfl ?_
    refine ev_iadd dX3_weigh_10 ?_
    rw [e16]
    refine ev_iaload dX3_weigh_11 rfl (vp_in_nI (by omega) (by decide)) ?_
    rw [clN (by omega), es]
    refine ev_istore dX3_weigh_12 (by decide) ?_
    refine ev_iload_n dX3_weigh_14 rfl ?_
    refine ev_aload_n dX3_weigh_15 rfl ?_
    refine ev_getR dX3_weigh_16 fX3_21 ⟨_, rfl, rfl⟩ ?_
    refine ev_getI dX3_weigh_19 fX3_131 ⟨_, rfl, rfl⟩ ?_
    refine ev_icmp_ge 60 dX3_weigh_22 (by decide) (fun c22 => ?_) (fun c22 => ?_)
    · refine ev_iconst 0 dX3_weigh_60 (by decide) ?_
      refine ev_istore dX3_weigh_61 (by decide) ?_
      refine ev_iload dX3_weigh_63 rfl ?_
      refine ev_if_eq 77 dX3_weigh_65 (by decide) (fun c65 => ?_) (fun c65 => ?_)
      · first | exact absurd c65 (by decide) | exact fin0 (mvB_n2 c35 c53) _ | exact fin0 (mvB_no (by apply Decidable.byContradiction; intro q; exact absurd (hw1.1.mpr q) (Int32.not_lt.mpr c22))) _
      · first | exact absurd rfl c65 | exact fin1 (mvB_y1 (hw1.1.mp (Int32.not_le.mp c22)) c35) _ | exact fin1 (mvB_y2 (hw1.1.mp (Int32.not_le.mp c22)) c53) _
    · refine ev_aload_n dX3_weigh_25 rfl ?_
      refine ev_getR dX3_weigh_26 fX3_21 ⟨_, rfl, rfl⟩ ?_
      refine ev_getR dX3_weigh_29 fX3_143 ⟨_, rfl, rfl⟩ ?_
      refine ev_iload_n dX3_weigh_32 rfl ?_
      refine ev_iaload dX3_weigh_33 rfl iw ?_
      rw [cw, hw1.2]
      refine ev_iload_n dX3_weigh_34 rfl ?_
      refine ev_icmp_ne 56 dX3_weigh_35 (by decide) (fun c35 => ?_) (fun c35 => ?_)
      · refine ev_iconst 1 dX3_weigh_56 (by decide) ?_
        refine ev_goto 61 dX3_weigh_57 (by decide) ?_
        refine ev_istore dX3_weigh_61 (by decide) ?_
        refine ev_iload dX3_weigh_63 rfl ?_
        refine ev_if_eq 77 dX3_weigh_65 (by decide) (fun c65 => ?_) (fun c65 => ?_)
        · first | exact absurd c65 (by decide) | exact fin0 (mvB_n2 c35 c53) _ | exact fin0 (mvB_no (by apply Decidable.byContradiction; intro q; exact absurd (hw1.1.mpr q) (Int32.not_lt.mpr c22))) _
        · first | exact absurd rfl c65 | exact fin1 (mvB_y1 (hw1.1.mp (Int32.not_le.mp c22)) c35) _ | exact fin1 (mvB_y2 (hw1.1.mp (Int32.not_le.mp c22)) c53) _
      · refine ev_aload_n dX3_weigh_38 rfl ?_
        refine ev_getR dX3_weigh_39 fX3_21 ⟨_, rfl, rfl⟩ ?_
        refine ev_getR dX3_weigh_42 fX3_146 ⟨_, rfl, rfl⟩ ?_
        refine ev_iload_n dX3_weigh_45 rfl ?_
        refine ev_iconst 4 dX3_weigh_46 (by decide) ?_
        refine ev_imul dX3_weigh_47 ?_
        refine ev_iload_n dX3_weigh_48 rfl ?_
        refine ev_iadd dX3_weigh_49 ?_
        rw [e4]
        refine ev_iaload dX3_weigh_50 rfl (vp_in_nI (by omega) (by decide)) ?_
        rw [clN (by omega), h2 _ (by omega)]
        refine ev_iload dX3_weigh_51 rfl ?_
        refine ev_icmp_eq 60 dX3_weigh_53 (by decide) (fun c53 => ?_) (fun c53 => ?_)
        · refine ev_iconst 0 dX3_weigh_60 (by decide) ?_
          refine ev_istore dX3_weigh_61 (by decide) ?_
          refine ev_iload dX3_weigh_63 rfl ?_
          refine ev_if_eq 77 dX3_weigh_65 (by decide) (fun c65 => ?_) (fun c65 => ?_)
          · first | exact absurd c65 (by decide) | exact fin0 (mvB_n2 c35 c53) _ | exact fin0 (mvB_no (by apply Decidable.byContradiction; intro q; exact absurd (hw1.1.mpr q) (Int32.not_lt.mpr c22))) _
          · first | exact absurd rfl c65 | exact fin1 (mvB_y1 (hw1.1.mp (Int32.not_le.mp c22)) c35) _ | exact fin1 (mvB_y2 (hw1.1.mp (Int32.not_le.mp c22)) c53) _
        · refine ev_iconst 1 dX3_weigh_56 (by decide) ?_
          refine ev_goto 61 dX3_weigh_57 (by decide) ?_
          refine ev_istore dX3_weigh_61 (by decide) ?_
          refine ev_iload dX3_weigh_63 rfl ?_
          refine ev_if_eq 77 dX3_weigh_65 (by decide) (fun c65 => ?_) (fun c65 => ?_)
          · first | exact absurd c65 (by decide) | exact fin0 (mvB_n2 c35 c53) _ | exact fin0 (mvB_no (by apply Decidable.byContradiction; intro q; exact absurd (hw1.1.mpr q) (Int32.not_lt.mpr c22))) _
          · first | exact absurd rfl c65 | exact fin1 (mvB_y1 (hw1.1.mp (Int32.not_le.mp c22)) c35) _ | exact fin1 (mvB_y2 (hw1.1.mp (Int32.not_le.mp c22)) c53) _
theorem lf_loop (hw : WF β) (hs : SS σ β m) (hk : KP σ β mv) {w u r : Nat} (hlt : w < nW β) (hm : m.testBit w = true) (hr : r < 4) (hu : u < 6) : ∀ n i, i + n = nF β → ev mX3_lightestFoot (d + 1) 39 [some (.ref 14), some (.int (nI w)), some (.int (nI u)), some (.int (nI r)), some (.int (nI (lfN β mv w u r i))), some (.int (nI (mk (opB β w u r) 16))), some (.int (nI i))] [] (LY L) σ 0 0 (Rp (LY L) σ (nI (lfN β mv w u r (nF β)))) := by
  have h16 := hw.1.2.2.1
  have e5 := hs.2.2.1
  intro n
  induction n with
  | zero =>
    intro i hi
    obtain rfl : i = nF β := by omega
    refine ev_iload dX3_lightestFoot_39 rfl ?_
    refine ev_aload_n dX3_lightestFoot_41 rfl ?_
    refine ev_getI dX3_lightestFoot_42 fX3_56 ⟨_, rfl, rfl⟩ ?_
    rw [e5]
    refine ev_icmp_ge 80 dX3_lightestFoot_45 (by decide) (fun c45 => ?_) (fun c45 => absurd (nI_le (by omega) (by omega)) c45)
    refine ev_iload dX3_lightestFoot_80 rfl ?_
    refine ev_ireturn dX3_lightestFoot_82 rfl rfl rfl ?_
    exact Rp.mk rfl
  | succ n ih =>
    intro i hi
    have hb := mk_test (p := opB β w u r) (n := 16) (f := i) (by decide) (by omega)
    have k1 := lfN_le (β := β) mv w u r i
    have k2 := wgB_le h16 mv w u r i
    have yes : opB β w u r i = true → lfN β mv w u r (i + 1) = min (lfN β mv w u r i) (wgB β mv w u r i) := fun q => by rw [lfN, if_pos q]
    have no : opB β w u r i = false → lfN β mv w u r (i + 1) = lfN β mv w u r i := fun q => by rw [lfN, if_neg (by rw [q]; decide)]
    refine ev_iload dX3_lightestFoot_39 rfl ?_
    refine ev_aload_n dX3_lightestFoot_41 rfl ?_
    refine ev_getI dX3_lightestFoot_42 fX3_56 ⟨_, rfl, rfl⟩ ?_
    rw [e5]
    refine ev_icmp_ge 80 dX3_lightestFoot_45 (by decide) (fun c45 => absurd c45 (nI_ge (by omega) (by omega))) (fun c45 => ?_)
    refine ev_iload dX3_lightestFoot_48 rfl ?_
    refine ev_iload dX3_lightestFoot_50 rfl ?_
    refine ev_ishr dX3_lightestFoot_52 ?_
    refine ev_iconst 1 dX3_lightestFoot_53 (by decide) ?_
    refine ev_iand dX3_lightestFoot_54 ?_
    refine ev_if_eq 74 dX3_lightestFoot_55 (by decide) (fun c55 => ?_) (fun c55 => ?_)
    · refine ev_iinc _ dX3_lightestFoot_74 rfl rfl (by decide) ?_
      rw [show nI i + Int32.ofInt 1 = nI (i + 1) from nI_1 i]
      refine ev_goto 39 dX3_lightestFoot_77 (by decide) ?_
      have := ih (i + 1) (by omega)
      rw [hb] at c55
      first | (rw [no c55] at this; exact this) | (rw [yes (by simpa using c55)] at this; exact this)
    · refine ev_iload dX3_lightestFoot_58 rfl ?_
      refine ev_aload_n dX3_lightestFoot_60 rfl ?_
      refine ev_iload_n dX3_lightestFoot_61 rfl ?_
      refine ev_iload_n dX3_lightestFoot_62 rfl ?_
      refine ev_iload_n dX3_lightestFoot_63 rfl ?_
      refine ev_iload dX3_lightestFoot_64 rfl ?_
      refine cVp4 dX3_lightestFoot_66 VX3_139 ⟨_, rfl⟩ rfl rfl rfl rfl rfl (t_weigh hw hs hk hlt hm hr (by omega) hu) ?_
      refine ev_min dX3_lightestFoot_69 maX3_116 (Nat.le_of_ble_eq_true rfl) ?_
      rw [min_nI (by omega) (by omega)]
      refine ev_istore dX3_lightestFoot_72 (by decide) ?_
      refine ev_iinc _ dX3_lightestFoot_74 rfl rfl (by decide) ?_
      rw [show nI i + Int32.ofInt 1 = nI (i + 1) from nI_1 i]
      refine ev_goto 39 dX3_lightestFoot_77 (by decide) ?_
      have := ih (i + 1) (by omega)
      rw [hb] at c55
      first | (rw [no c55] at this; exact this) | (rw [yes (by simpa using c55)] at this; exact this)
theorem t_lightestFoot (hw : WF β) (hs : SS σ β m) (hk : KP σ β mv) {w u r : Nat} (hlt : w < nW β) (hm : m.testBit w = true) (hr : r < 4) (hu : u < nU β) : ev mX3_lightestFoot (d + 1) 0 [some (.ref 14), some (.int (nI w)), some (.int (nI u)), some (.int (nI r)), none, none, none] [] (LY L) σ 0 0 (Rp (LY L) σ (nI (lfB β mv w u r))) := by
  have h4 := hw.1.2.2.2.2.2.2.2.2
  have h6 := hw.1.2.2.2.2.1
  have e24 := hs.2.2.2.1 w hlt
  rw [if_pos hm] at e24
  obtain ⟨r1, r2, -⟩ := rolN hw hlt
  have hb := bit_0 (a := (β 42 w).toNatClampNeg) (f := r) (by omega) (by omega)
  rw [← r1] at hb
  have eo := (hs.2.2.2.2 w hlt hm).2 u r hu hr
  have ei : (nI w * 6 + nI u) * 4 + nI r = nI (24 * w + 4 * u + r) := by
    rw [show (6 : Int32) = nI 6 from rfl, show (4 : Int32) = nI 4 from rfl, pk_mul, nI_add, pk_mul, nI_add]
    congr 1; omega
  refine ev_aload_n dX3_lightestFoot_0 rfl ?_
  refine ev_getR dX3_lightestFoot_1 fX3_24 ⟨_, rfl, rfl⟩ ?_
  refine ev_iload_n dX3_lightestFoot_4 rfl ?_
  refine ev_iaload dX3_lightestFoot_5 rfl (vp_in_nI (by omega) (by decide)) ?_
  rw [clN (by omega), e24]
  refine ev_iload_n dX3_lightestFoot_6 rfl ?_
  refine ev_ishr dX3_lightestFoot_7 ?_
  refine ev_iconst 1 dX3_lightestFoot_8 (by decide) ?_
  refine ev_iand dX3_lightestFoot_9 ?_
  refine ev_if_ne 15 dX3_lightestFoot_10 (by decide) (fun c10 => ?_) (fun c10 => ?_)
  · refine ev_ldc 1000000 dX3_lightestFoot_15 kX3_124 ?_
    refine ev_istore dX3_lightestFoot_17 (by decide) ?_
    refine ev_aload_n dX3_lightestFoot_19 rfl ?_
    refine ev_getR dX3_lightestFoot_20 fX3_28 ⟨_, rfl, rfl⟩ ?_
    refine ev_iload_n dX3_lightestFoot_23 rfl ?_
    refine ev_bipush 6 dX3_lightestFoot_24 (by decide) ?_
    refine ev_imul dX3_lightestFoot_26 ?_
    refine ev_iload_n dX3_lightestFoot_27 rfl ?_
    refine ev_iadd dX3_lightestFoot_28 ?_
    refine ev_iconst 4 dX3_lightestFoot_29 (by decide) ?_
    refine ev_imul dX3_lightestFoot_30 ?_
    refine ev_iload_n dX3_lightestFoot_31 rfl ?_
    refine ev_iadd dX3_lightestFoot_32 ?_
    rw [ei]
    refine ev_iaload dX3_lightestFoot_33 rfl (vp_in_nI (by omega) (by decide)) ?_
    rw [nI_clamp (by omega), eo]
    refine ev_istore dX3_lightestFoot_34 (by decide) ?_
    refine ev_iconst 0 dX3_lightestFoot_36 (by decide) ?_
    refine ev_istore dX3_lightestFoot_37 (by decide) ?_
    have := lf_loop (d := d) (L := L) (w := w) (u := u) (r := r) hw hs hk hlt hm hr (by omega) (nF β) 0 (by omega)
    rw [show lfB β mv w u r = lfN β mv w u r (nF β) from if_pos (by rw [hb] at c10; simpa [rol] using c10)]
    exact this
  · refine ev_iconst 0 dX3_lightestFoot_13 (by decide) ?_
    refine ev_ireturn dX3_lightestFoot_14 rfl rfl rfl ?_
    refine Rp.mk ?_
    unfold lfB
    rw [if_neg (by rw [rol, hb.mp c10]; decide)]; rfl
theorem t_isOver : ev mX3_isOver d 0 [some (.ref 14)] [] (LY L) σ 0 0 (Rp (LY L) σ (bI (0 < σ 14 17 ∧ σ 14 17 ≤ σ 14 16))) := by
  refine ev_aload_n dX3_isOver_0 rfl ?_
  refine ev_getI dX3_isOver_1 fX3_121 ⟨_, rfl, rfl⟩ ?_
  refine ev_if_le 22 dX3_isOver_4 (by decide) (fun c4 => ?_) (fun c4 => ?_)
  · refine ev_iconst 0 dX3_isOver_22 (by decide) ?_
    refine ev_ireturn dX3_isOver_23 rfl rfl rfl ?_
    simp only [Int32.lt_iff_toInt_lt, Int32.le_iff_toInt_le] at *
    first | exact Rp.mk (bI_t (by omega)) | exact Rp.mk (bI_f (by omega))
  · refine ev_aload_n dX3_isOver_7 rfl ?_
    refine ev_getI dX3_isOver_8 fX3_113 ⟨_, rfl, rfl⟩ ?_
    refine ev_aload_n dX3_isOver_11 rfl ?_
    refine ev_getI dX3_isOver_12 fX3_121 ⟨_, rfl, rfl⟩ ?_
    refine ev_icmp_lt 22 dX3_isOver_15 (by decide) (fun c15 => ?_) (fun c15 => ?_)
    · refine ev_iconst 0 dX3_isOver_22 (by decide) ?_
      refine ev_ireturn dX3_isOver_23 rfl rfl rfl ?_
      simp only [Int32.lt_iff_toInt_lt, Int32.le_iff_toInt_le] at *
      first | exact Rp.mk (bI_t (by omega)) | exact Rp.mk (bI_f (by omega))
    · refine ev_iconst 1 dX3_isOver_18 (by decide) ?_
      refine ev_goto 23 dX3_isOver_19 (by decide) ?_
      refine ev_ireturn dX3_isOver_23 rfl rfl rfl ?_
      simp only [Int32.lt_iff_toInt_lt, Int32.le_iff_toInt_le] at *
      first | exact Rp.mk (bI_t (by omega)) | exact Rp.mk (bI_f (by omega))
theorem wf_loop {R : Nat} (hR : R < 2 ^ 31) {w from_ : Nat} (hw4 : w < 4) (e24 : σ 24 w = nI R) : ∀ n r, r + n = 4 → ev mX3_wishedFrom d 2 [some (.ref 14), some (.int (nI w)), some (.int (nI from_)), some (.int (nI r))] [] (LY L) σ 0 0 (Rp (LY L) σ (nI (nxR (fun i => R.testBit i) r n))) := by
  intro n
  induction n with
  | zero =>
    intro r hr
    obtain rfl : r = 4 := by omega
    refine ev_iload_n dX3_wishedFrom_2 rfl ?_
    refine ev_iconst 4 dX3_wishedFrom_3 (by decide) ?_
    refine ev_icmp_ge 26 dX3_wishedFrom_4 (by decide) (fun c4 => ?_) (fun c4 => absurd (nI_le (a := 4) (b := 4) (by omega) (by decide)) c4)
    refine ev_iload_n dX3_wishedFrom_26 rfl ?_
    refine ev_ireturn dX3_wishedFrom_27 rfl rfl rfl ?_
    exact Rp.mk rfl
  | succ n ih =>
    intro r hr
    have hb := bit_0 (a := R) (f := r) hR (by omega)
    refine ev_iload_n dX3_wishedFrom_2 rfl ?_
    refine ev_iconst 4 dX3_wishedFrom_3 (by decide) ?_
    refine ev_icmp_ge 26 dX3_wishedFrom_4 (by decide) (fun c4 => absurd c4 (nI_ge (b := 4) (by omega) (by decide))) (fun c4 => ?_)
    refine ev_aload_n dX3_wishedFrom_7 rfl ?_
    refine ev_getR dX3_wishedFrom_8 fX3_24 ⟨_, rfl, rfl⟩ ?_
    refine ev_iload_n dX3_wishedFrom_11 rfl ?_
    refine ev_iaload dX3_wishedFrom_12 rfl (vp_in_nI (by omega) (by decide)) ?_
    rw [clN (by omega), e24]
    refine ev_iload_n dX3_wishedFrom_13 rfl ?_
    refine ev_ishr dX3_wishedFrom_14 ?_
    refine ev_iconst 1 dX3_wishedFrom_15 (by decide) ?_
    refine ev_iand dX3_wishedFrom_16 ?_
    refine ev_if_ne 26 dX3_wishedFrom_17 (by decide) (fun c17 => ?_) (fun c17 => ?_)
    · refine ev_iload_n dX3_wishedFrom_26 rfl ?_
      refine ev_ireturn dX3_wishedFrom_27 rfl rfl rfl ?_
      exact Rp.mk (by rw [nxR, if_pos (by rw [hb] at c17; simpa using c17)])
    · refine ev_iinc _ dX3_wishedFrom_20 rfl rfl (by decide) ?_
      rw [show nI r + Int32.ofInt 1 = nI (r + 1) from nI_1 r]
      refine ev_goto 2 dX3_wishedFrom_23 (by decide) ?_
      rw [nxR, if_neg (by rw [hb] at c17; simp [c17])]
      exact ih (r + 1) (by omega)
end CS3
