abbrev plA (β : ai_M) : PLt := pls β allS
def bsB (β : ai_M) : Int32 := match bestB β false with
  | none => -6
  | some y => nI (csP β (plA β) y)
def sp_best (β : ai_M) : Int32 × ai_M := (bsB β, β)
def sp_given (β : ai_M) (w r : Int32) : Int32 × ai_M := if ¬ inR w (β 35 8).toInt then (-1, β) else if ¬ (r = -1 ∨ (inR r 4 ∧ (β 42 w.toNatClampNeg).toNatClampNeg.testBit r.toNatClampNeg = true)) then (-2, β) else (match bestB β false with
  | none => -6
  | some y => if r = -1 then uOf (plA β) y w.toNatClampNeg else fOf (plA β) y (4 * w.toNatClampNeg + r.toNatClampNeg), β)
/-- the hand takes a giving -/
def tkH (β : ai_M) (y : List Nat) : ai_M := ai_set (ai_set (ai_up β 35 14 1) 46 (uOf (plA β) y)) 47 (fOf (plA β) y)
def sp_hold (β : ai_M) : Int32 × ai_M := match bestB β false with
  | none => (-3, β)
  | some y => (1, tkH β y)
def sp_change (β : ai_M) : Int32 × ai_M := if β 35 14 = 0 then (-3, β) else match bestB β true with
  | none => (-3, β)
  | some y => (nI (mvP β true (plA β) y), tkH β y)
def sp_trial (β : ai_M) (k R v p : Int32) : Int32 × ai_M := if rfB β k R v p ≠ 0 then (rfB β k R v p, β) else (bsB (sp_wish β k R v p).2, ai_up (sp_wish β k R v p).2 35 8 (nI (nW β)))
section MC
variable {β : ai_M} {d L : Nat} {σ : ai_M}
theorem t_mbest (hw : WF β) (h : RM σ β) : ev mX5_best (d + 5) 0 [some (.ref 35)] [] (LY L) σ 0 0 (Ri (LY L) (fun r σ' => r = bsB β ∧ SFr σ σ')) := by
  refine ev_aload_n dX5_best_0 rfl ?_
  refine ev_iconst 0 dX5_best_1 (by decide) ?_
  refine cVi1 dX5_best_2 VX5_155 ⟨_, rfl⟩ rfl rfl (t_find (d := d) hw h false) ?_
  rintro r σ1 ⟨s1, s2⟩
  unfold bsB
  cases hb : bestB β false with
  | none =>
    rw [hb] at s2
    subst s2
    refine ev_if_eq 15 dX5_best_5 (by decide) (fun c5 => ?_) (fun c5 => absurd rfl c5)
    refine ev_bipush (-6) dX5_best_15 (by decide) ?_
    refine ev_ireturn dX5_best_17 rfl rfl rfl ?_
    exact Ri.mk ⟨rfl, s1⟩
  | some y =>
    rw [hb] at s2
    obtain ⟨rfl, s3, s4, s5, s6, s7⟩ := s2
    refine ev_if_eq 15 dX5_best_5 (by decide) (fun c5 => absurd c5 (by decide)) (fun c5 => ?_)
    refine ev_aload_n dX5_best_8 rfl ?_
    refine ev_getI dX5_best_9 fX5_114 ⟨_, rfl, rfl⟩ ?_
    rw [s6]
    refine ev_goto 17 dX5_best_12 (by decide) ?_
    refine ev_ireturn dX5_best_17 rfl rfl rfl ?_
    exact Ri.mk ⟨rfl, s1⟩
theorem tm_best (hw : WF β) (h : RM σ β) : ev mX5_best (d + 5) 0 [some (.ref 35)] [] (LY L) σ 0 0 (Ri (LY L) (PM (sp_best β) σ)) := by
  refine (t_mbest hw h).mono ?_
  rintro r y' σ' ⟨rfl, x, rfl, rfl, hs⟩
  exact Ri.mk (PM.of rfl (hs.RM h) hs.M)
theorem tm_given (hw : WF β) (h : RM σ β) (w r : Int32) : ev mX5_given (d + 5) 0 [some (.ref 35), some (.int w), some (.int r)] [] (LY L) σ 0 0 (Ri (LY L) (PM (sp_given β w r) σ)) := by
  have hww := hw.1.w
  have hw4 := hw.1.2.2.2.2.2.2.2.2
  have key : ∀ w', w' < nW β → w = nI w' → w.toNatClampNeg = w' → (r = -1 ∨ (inR r 4 ∧ (β 42 w').toNatClampNeg.testBit r.toNatClampNeg = true)) → inR w (β 35 8).toInt → ev mX5_given (d + 5) 27 [some (.ref 35), some (.int w), some (.int r)] [] (LY L) σ 0 0 (Ri (LY L) (PM (sp_given β w r) σ)) := by
    intro w' hw' ew ew' hrr hq
    have esp : sp_given β w r = (match bestB β false with
      | none => -6
      | some y => if r = -1 then uOf (plA β) y w' else fOf (plA β) y (4 * w' + r.toNatClampNeg), β) := by
      rw [sp_given, if_neg (fun z => z hq), if_neg (fun z => z (by rw [ew']; exact hrr)), ew']
    refine ev_aload_n dX5_given_27 rfl ?_
    refine ev_iconst 0 dX5_given_28 (by decide) ?_
    refine cVi1 dX5_given_29 VX5_155 ⟨_, rfl⟩ rfl rfl (t_find (d := d) hw h false) ?_
    rintro z σ1 ⟨s1, s2⟩
    cases hb : bestB β false with
    | none =>
      rw [hb] at s2 esp
      subst s2
      refine ev_if_ne 40 dX5_given_32 (by decide) (fun c32 => absurd rfl c32) (fun c32 => ?_)
      refine ev_bipush (-6) dX5_given_35 (by decide) ?_
      refine ev_goto 64 dX5_given_37 (by decide) ?_
      refine ev_ireturn dX5_given_64 rfl rfl rfl ?_
      exact Ri.mk (PM.of esp (s1.RM h) s1.M)
    | some y =>
      rw [hb] at s2 esp
      obtain ⟨rfl, s3, s4, s5, s6, s7⟩ := s2
      refine ev_if_ne 40 dX5_given_32 (by decide) (fun c32 => ?_) (fun c32 => absurd c32 (by decide))
      refine ev_iload_n dX5_given_40 rfl ?_
      refine ev_iconst (-1) dX5_given_41 (by decide) ?_
      refine ev_icmp_ne 54 dX5_given_42 (by decide) (fun c42 => ?_) (fun c42 => ?_)
      · obtain ⟨r', hr', er, er'⟩ := inR4 (hrr.resolve_left c42).1
        have e4 : 4 * w + r = nI (4 * w' + r') := by rw [ew, er, show (4 : Int32) = nI 4 from rfl, pk_mul, nI_add]
        refine ev_aload_n dX5_given_54 rfl ?_
        refine ev_getR dX5_given_55 fX5_62 ⟨_, rfl, rfl⟩ ?_
        refine ev_iconst 4 dX5_given_58 (by decide) ?_
        refine ev_iload_n dX5_given_59 rfl ?_
        refine ev_imul dX5_given_60 ?_
        refine ev_iload_n dX5_given_61 rfl ?_
        refine ev_iadd dX5_given_62 ?_
        rw [e4]
        refine ev_iaload dX5_given_63 rfl (vp_in_nI (by omega) (by decide)) ?_
        refine ev_ireturn dX5_given_64 rfl rfl rfl ?_
        first | exact Ri.mk (PM.of (by rw [esp]; simp only [if_neg c42]; rw [clN (by omega), s5.2 _ (by omega), er']) (s1.RM h) s1.M) | exact Ri.mk (PM.of (by rw [esp]; simp only [if_pos c42]; rw [ew', s5.1 _ (by omega)]) (s1.RM h) s1.M)
      · refine ev_aload_n dX5_given_45 rfl ?_
        refine ev_getR dX5_given_46 fX5_59 ⟨_, rfl, rfl⟩ ?_
        refine ev_iload_n dX5_given_49 rfl ?_
        refine ev_iaload dX5_given_50 rfl (by rw [ew]; exact vp_in_nI (by omega) (by decide)) ?_
        refine ev_goto 64 dX5_given_51 (by decide) ?_
        refine ev_ireturn dX5_given_64 rfl rfl rfl ?_
        first | exact Ri.mk (PM.of (by rw [esp]; simp only [if_neg c42]; rw [clN (by omega), s5.2 _ (by omega), er']) (s1.RM h) s1.M) | exact Ri.mk (PM.of (by rw [esp]; simp only [if_pos c42]; rw [ew', s5.1 _ (by omega)]) (s1.RM h) s1.M)
  refine ev_aload_n dX5_given_0 rfl ?_
  refine ev_iload_n dX5_given_1 rfl ?_
  refine cVp1 dX5_given_2 VX5_95 ⟨_, rfl⟩ rfl rfl (t_isWishB hw h _) ?_
  refine ev_if_ne 10 dX5_given_5 (by decide) (fun c5 => ?_) (fun c5 => ?_)
  · rw [bI_n] at c5
    obtain ⟨w', hw', ew, ew'⟩ := inRn (k := nW β) (by rw [← hww]; exact c5)
    refine ev_iload_n dX5_given_10 rfl ?_
    refine ev_iconst (-1) dX5_given_11 (by decide) ?_
    refine ev_icmp_eq 27 dX5_given_12 (by decide) (fun c12 => ?_) (fun c12 => ?_)
    · first | exact key w' hw' ew ew' (Or.inl c12) c5 | exact key w' hw' ew ew' (Or.inr (bI_n.mp c21)) c5
    · refine ev_aload_n dX5_given_15 rfl ?_
      refine ev_iload_n dX5_given_16 rfl ?_
      refine ev_iload_n dX5_given_17 rfl ?_
      refine cVp2 dX5_given_18 VX5_98 ⟨_, rfl⟩ rfl rfl rfl (by rw [ew]; exact t_hasRoleB hw h hw' _) ?_
      refine ev_if_ne 27 dX5_given_21 (by decide) (fun c21 => ?_) (fun c21 => ?_)
      · first | exact key w' hw' ew ew' (Or.inl c12) c5 | exact key w' hw' ew ew' (Or.inr (bI_n.mp c21)) c5
      · refine ev_bipush (-2) dX5_given_24 (by decide) ?_
        refine ev_ireturn dX5_given_26 rfl rfl rfl ?_
        rw [bI_0] at c21
        exact Ri.mk (PM.of (by rw [sp_given, if_neg (fun z => z c5), if_pos (by rw [ew']; exact fun z => z.elim c12 c21)]) h FrM.rf)
  · refine ev_iconst (-1) dX5_given_8 (by decide) ?_
    refine ev_ireturn dX5_given_9 rfl rfl rfl ?_
    rw [bI_0] at c5
    exact Ri.mk (PM.of (if_pos c5) h FrM.rf)
theorem take_l1 {σ00 : ai_M} {Q : Option Value → ai_L → ai_M → Prop} (K : ∀ σ1 : ai_M, (∀ j, j < 4 → σ1 46 j = σ00 51 j) → (∀ c, c ≠ 46 → σ1 c = σ00 c) → ev mX5_take d 30 [some (.ref 35), some (.int (nI 4))] [] (LY L) σ1 0 0 Q) :
    ∀ n i, i + n = 4 → ∀ σ1 : ai_M, (∀ j, j < i → σ1 46 j = σ00 51 j) → (∀ c, c ≠ 46 → σ1 c = σ00 c) → ev mX5_take d 7 [some (.ref 35), some (.int (nI i))] [] (LY L) σ1 0 0 Q := by
  intro n
  induction n with
  | zero =>
    intro i hi σ1 h1 h2
    obtain rfl : i = 4 := by omega
    refine ev_iload_n dX5_take_7 rfl ?_
    refine ev_iconst 4 dX5_take_8 (by decide) ?_
    refine ev_icmp_ge 30 dX5_take_9 (by decide) (fun c9 => ?_) (fun c9 => absurd (nI_le (a := 4) (b := 4) (by omega) (by decide)) c9)
    exact K σ1 h1 h2
  | succ n ih =>
    intro i hi σ1 h1 h2
    have hin : vp_in (nI i) 4 := vp_in_nI (by omega) (by decide)
    have ic : (nI i).toNatClampNeg = i := clN (by omega)
    refine ev_iload_n dX5_take_7 rfl ?_
    refine ev_iconst 4 dX5_take_8 (by decide) ?_
    refine ev_icmp_ge 30 dX5_take_9 (by decide) (fun c9 => absurd c9 (nI_ge (b := 4) (by omega) (by decide))) (fun c9 => ?_)
    refine ev_aload_n dX5_take_12 rfl ?_
    refine ev_getR dX5_take_13 fX5_44 ⟨_, rfl, rfl⟩ ?_
    refine ev_iload_n dX5_take_16 rfl ?_
    refine ev_aload_n dX5_take_17 rfl ?_
    refine ev_getR dX5_take_18 fX5_59 ⟨_, rfl, rfl⟩ ?_
    refine ev_iload_n dX5_take_21 rfl ?_
    refine ev_iaload dX5_take_22 rfl hin ?_
    rw [ic, h2 51 (by decide)]
    refine ev_iastore dX5_take_23 (by decide) rfl hin ?_
    rw [ic]
    refine ev_iinc _ dX5_take_24 rfl rfl (by decide) ?_
    rw [show nI i + Int32.ofInt 1 = nI (i + 1) from nI_1 i]
    refine ev_goto 7 dX5_take_27 (by decide) ?_
    refine ih (i + 1) (by omega) _ (fun j hj => ?_) (fun c hc => by rw [ai_up, if_neg hc]; exact h2 c hc)
    show upd (σ1 46) i _ j = _
    unfold upd
    by_cases q : j = i
    · rw [if_pos q, q]
    · rw [if_neg q]; exact h1 j (by omega)
theorem take_l2 {σ00 : ai_M} {Q : Option Value → ai_L → ai_M → Prop} (K : ∀ σ1 : ai_M, (∀ j, j < 16 → σ1 47 j = σ00 52 j) → (∀ c, c ≠ 47 → σ1 c = σ00 c) → Q none (LY L) σ1) :
    ∀ n i, i + n = 16 → ∀ σ1 : ai_M, (∀ j, j < i → σ1 47 j = σ00 52 j) → (∀ c, c ≠ 47 → σ1 c = σ00 c) → ev mX5_take d 32 [some (.ref 35), some (.int (nI i))] [] (LY L) σ1 0 0 Q := by
  intro n
  induction n with
  | zero =>
    intro i hi σ1 h1 h2
    obtain rfl : i = 16 := by omega
    refine ev_iload_n dX5_take_32 rfl ?_
    refine ev_bipush 16 dX5_take_33 (by decide) ?_
    refine ev_icmp_ge 56 dX5_take_35 (by decide) (fun c35 => ?_) (fun c35 => absurd (nI_le (a := 16) (b := 16) (by omega) (by decide)) c35)
    refine ev_ret dX5_take_56 rfl rfl ?_
    exact K σ1 h1 h2
  | succ n ih =>
    intro i hi σ1 h1 h2
    have hin : vp_in (nI i) 16 := vp_in_nI (by omega) (by decide)
    have ic : (nI i).toNatClampNeg = i := clN (by omega)
    refine ev_iload_n dX5_take_32 rfl ?_
    refine ev_bipush 16 dX5_take_33 (by decide) ?_
    refine ev_icmp_ge 56 dX5_take_35 (by decide) (fun c35 => absurd c35 (nI_ge (b := 16) (by omega) (by decide))) (fun c35 => ?_)
    refine ev_aload_n dX5_take_38 rfl ?_
    refine ev_getR dX5_take_39 fX5_47 ⟨_, rfl, rfl⟩ ?_
    refine ev_iload_n dX5_take_42 rfl ?_
    refine ev_aload_n dX5_take_43 rfl ?_
    refine ev_getR dX5_take_44 fX5_62 ⟨_, rfl, rfl⟩ ?_
    refine ev_iload_n dX5_take_47 rfl ?_
    refine ev_iaload dX5_take_48 rfl hin ?_
    rw [ic, h2 52 (by decide)]
    refine ev_iastore dX5_take_49 (by decide) rfl hin ?_
    rw [ic]
    refine ev_iinc _ dX5_take_50 rfl rfl (by decide) ?_
    rw [show nI i + Int32.ofInt 1 = nI (i + 1) from nI_1 i]
    refine ev_goto 32 dX5_take_53 (by decide) ?_
    refine ih (i + 1) (by omega) _ (fun j hj => ?_) (fun c hc => by rw [ai_up, if_neg hc]; exact h2 c hc)
    show upd (σ1 47) i _ j = _
    unfold upd
    by_cases q : j = i
    · rw [if_pos q, q]
    · rw [if_neg q]; exact h1 j (by omega)
theorem t_take (h : RM σ β) {y : List Nat} (hb : BR σ (plA β) y) : ev mX5_take d 0 [some (.ref 35), none] [] (LY L) σ 0 0 (Rv (LY L) (fun σ1 => RM σ1 (tkH β y) ∧ FrM σ σ1 ∧ ∀ k, 17 ≤ k → σ1 35 k = σ 35 k)) := by
  refine ev_aload_n dX5_take_0 rfl ?_
  refine ev_iconst 1 dX5_take_1 (by decide) ?_
  refine ev_putI dX5_take_2 fX5_80 ⟨_, rfl, rfl⟩ rfl rfl ?_
  refine ev_iconst 0 dX5_take_5 (by decide) ?_
  refine ev_istore_n dX5_take_6 (by decide) ?_
  refine take_l1 (fun σ1 a1 a2 => ?_) 4 0 rfl _ (fun j hj => by omega) (fun _ _ => rfl)
  refine ev_iconst 0 dX5_take_30 (by decide) ?_
  refine ev_istore_n dX5_take_31 (by decide) ?_
  refine take_l2 (fun σ2 b1 b2 => ?_) 16 0 rfl _ (fun j hj => by omega) (fun _ _ => rfl)
  have e : ∀ c, c ≠ 35 → c ≠ 46 → c ≠ 47 → σ2 c = σ c := fun c q1 q2 q3 => by rw [b2 c q3, a2 c q2, ai_up, if_neg q1]
  have e35 : ∀ k, k ≠ 14 → σ2 35 k = σ 35 k := fun k q => by rw [b2 35 (by decide), a2 35 (by decide), ai_up, if_pos rfl, upd, if_neg q]
  obtain ⟨m0, m1, m2, m3, m4, mV, mK, mU, mW, mX, mHu, mHf⟩ := h
  refine Rv.mk ⟨⟨by rw [e35 0 (by decide)]; exact m0, by rw [e35 2 (by decide)]; exact m1, by rw [e35 4 (by decide)]; exact m2, by rw [e35 8 (by decide)]; exact m3, ?_, ?_, ?_, ?_, ?_, ?_, fun i hi => ?_, fun k hk => ?_⟩, fun c hc => e c (by omega) (by omega) (by omega), fun k hk => e35 k (by omega)⟩
  · rw [b2 35 (by decide), a2 35 (by decide)]; rfl
  · rw [e 36 (by decide) (by decide) (by decide)]; exact mV
  · rw [e 37 (by decide) (by decide) (by decide)]; exact mK
  · rw [e 38 (by decide) (by decide) (by decide), e 39 (by decide) (by decide) (by decide), e 40 (by decide) (by decide) (by decide)]; exact mU
  · rw [e 41 (by decide) (by decide) (by decide), e 42 (by decide) (by decide) (by decide), e 43 (by decide) (by decide) (by decide), e 44 (by decide) (by decide) (by decide)]; exact mW
  · rw [e 45 (by decide) (by decide) (by decide)]; exact mX
  · rw [b2 46 (by decide), a1 i hi]; exact hb.1 i hi
  · rw [b1 k hk, a2 52 (by decide)]; exact hb.2 k hk
theorem tm_hold (hw : WF β) (h : RM σ β) : ev mX5_hold (d + 5) 0 [some (.ref 35)] [] (LY L) σ 0 0 (Ri (LY L) (PM (sp_hold β) σ)) := by
  refine ev_aload_n dX5_hold_0 rfl ?_
  refine ev_iconst 0 dX5_hold_1 (by decide) ?_
  refine cVi1 dX5_hold_2 VX5_155 ⟨_, rfl⟩ rfl rfl (t_find (d := d) hw h false) ?_
  rintro r σ1 ⟨s1, s2⟩
  cases hb : bestB β false with
  | none =>
    rw [hb] at s2
    subst s2
    refine ev_if_ne 11 dX5_hold_5 (by decide) (fun c5 => absurd rfl c5) (fun c5 => ?_)
    refine ev_bipush (-3) dX5_hold_8 (by decide) ?_
    refine ev_ireturn dX5_hold_10 rfl rfl rfl ?_
    exact Ri.mk (PM.of (by rw [sp_hold, hb]) (s1.RM h) s1.M)
  | some y =>
    rw [hb] at s2
    obtain ⟨rfl, s3, s4, s5, s6, s7⟩ := s2
    refine ev_if_ne 11 dX5_hold_5 (by decide) (fun c5 => ?_) (fun c5 => absurd c5 (by decide))
    refine ev_aload_n dX5_hold_11 rfl ?_
    refine cVv0 dX5_hold_12 VX5_173 ⟨_, rfl⟩ rfl (t_take (s1.RM h) s5) ?_
    rintro σ2 ⟨k1, k2, k3⟩
    refine ev_iconst 1 dX5_hold_15 (by decide) ?_
    refine ev_ireturn dX5_hold_16 rfl rfl rfl ?_
    exact Ri.mk (PM.of (by rw [sp_hold, hb]) k1 (s1.M.tr k2))
theorem tm_change (hw : WF β) (h : RM σ β) : ev mX5_change (d + 5) 0 [some (.ref 35)] [] (LY L) σ 0 0 (Ri (LY L) (PM (sp_change β) σ)) := by
  have e14 := h.2.2.2.2.1
  by_cases hz : β 35 14 = 0
  · refine ev_aload_n dX5_change_0 rfl ?_
    refine ev_getI dX5_change_1 fX5_80 ⟨_, rfl, rfl⟩ ?_
    rw [e14]
    refine ev_if_eq 15 dX5_change_4 (by decide) (fun c4 => ?_) (fun c4 => absurd hz c4)
    refine ev_bipush (-3) dX5_change_15 (by decide) ?_
    refine ev_ireturn dX5_change_17 rfl rfl rfl ?_
    exact Ri.mk (PM.of (by rw [sp_change, if_pos hz]) h FrM.rf)
  · refine ev_aload_n dX5_change_0 rfl ?_
    refine ev_getI dX5_change_1 fX5_80 ⟨_, rfl, rfl⟩ ?_
    rw [e14]
    refine ev_if_eq 15 dX5_change_4 (by decide) (fun c4 => absurd c4 hz) (fun c4 => ?_)
    refine ev_aload_n dX5_change_7 rfl ?_
    refine ev_iconst 1 dX5_change_8 (by decide) ?_
    refine cVi1 dX5_change_9 VX5_155 ⟨_, rfl⟩ rfl rfl (t_find (d := d) hw h true) ?_
    rintro r σ1 ⟨s1, s2⟩
    cases hb : bestB β true with
    | none =>
      rw [hb] at s2
      subst s2
      refine ev_if_ne 18 dX5_change_12 (by decide) (fun c12 => absurd rfl c12) (fun c12 => ?_)
      refine ev_bipush (-3) dX5_change_15 (by decide) ?_
      refine ev_ireturn dX5_change_17 rfl rfl rfl ?_
      exact Ri.mk (PM.of (by rw [sp_change, if_neg hz, hb]) (s1.RM h) s1.M)
    | some y =>
      rw [hb] at s2
      obtain ⟨rfl, s3, s4, s5, s6, s7⟩ := s2
      refine ev_if_ne 18 dX5_change_12 (by decide) (fun c12 => ?_) (fun c12 => absurd c12 (by decide))
      refine ev_aload_n dX5_change_18 rfl ?_
      refine cVv0 dX5_change_19 VX5_173 ⟨_, rfl⟩ rfl (t_take (s1.RM h) s5) ?_
      rintro σ2 ⟨k1, k2, k3⟩
      refine ev_aload_n dX5_change_22 rfl ?_
      refine ev_getI dX5_change_23 fX5_111 ⟨_, rfl, rfl⟩ ?_
      rw [k3 23 (by decide), s7]
      refine ev_ireturn dX5_change_26 rfl rfl rfl ?_
      exact Ri.mk (PM.of (by rw [sp_change, if_neg hz, hb]) k1 (s1.M.tr k2))
end MC
