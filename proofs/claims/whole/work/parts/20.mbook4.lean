section MB4
variable {σ β : ai_M} {d L : Nat}
theorem told_loop (h : ∀ i, i < 4 → σ 46 i = β 46 i) {q : Int32} {Q : Option Value → ai_L → ai_M → Prop} (K : Q (some (.int (nI (hN β)))) (LY L) σ) : ∀ n i, i + n = 4 → ev mX5_told d 60 [some (.ref 35), some (.int q), some (.int (nI (cnt (fun w => decide (β 46 w ≠ -6)) i))), some (.int (nI i))] [] (LY L) σ 0 0 Q := by
  intro n
  induction n with
  | zero =>
    intro i hi
    obtain rfl : i = 4 := by omega
    refine ev_iload_n dX5_told_60 rfl ?_
    refine ev_iconst 4 dX5_told_61 (by decide) ?_
    refine ev_icmp_ge 90 dX5_told_62 (by decide) (fun c62 => ?_) (fun c62 => absurd (nI_le (a := 4) (b := 4) (by omega) (by decide)) c62)
    refine ev_iload_n dX5_told_90 rfl ?_
    refine ev_ireturn dX5_told_91 rfl rfl rfl ?_
    exact K
  | succ n ih =>
    intro i hi
    have hin : vp_in (nI i) 4 := vp_in_nI (by omega) (by decide)
    have a := h i (by omega)
    refine ev_iload_n dX5_told_60 rfl ?_
    refine ev_iconst 4 dX5_told_61 (by decide) ?_
    refine ev_icmp_ge 90 dX5_told_62 (by decide) (fun c62 => absurd c62 (nI_ge (b := 4) (by omega) (by decide))) (fun c62 => ?_)
    refine ev_iload_n dX5_told_65 rfl ?_
    refine ev_aload_n dX5_told_66 rfl ?_
    refine ev_getR dX5_told_67 fX5_44 ⟨_, rfl, rfl⟩ ?_
    refine ev_iload_n dX5_told_70 rfl ?_
    refine ev_iaload dX5_told_71 rfl hin ?_
    rw [clN (by omega), a]
    refine ev_bipush (-6) dX5_told_72 (by decide) ?_
    refine ev_icmp_eq 81 dX5_told_74 (by decide) (fun c74 => ?_) (fun c74 => ?_)
    · refine ev_iconst 0 dX5_told_81 (by decide) ?_
      refine ev_iadd dX5_told_82 ?_
      refine ev_istore_n dX5_told_83 (by decide) ?_
      refine ev_iinc _ dX5_told_84 rfl rfl (by decide) ?_
      rw [show nI i + Int32.ofInt 1 = nI (i + 1) from nI_1 i]
      refine ev_goto 60 dX5_told_87 (by decide) ?_
      have := ih (i + 1) (by omega)
      unfold cnt at this
      first | (rw [if_neg (by simp [c74]), Nat.zero_add] at this; rw [show (0 : Int32) = nI 0 from rfl, nI_add, Nat.add_zero]; exact this) | (rw [if_pos (by simp [c74]), Nat.add_comm] at this; rw [nI_1]; exact this)
    · refine ev_iconst 1 dX5_told_77 (by decide) ?_
      refine ev_goto 82 dX5_told_78 (by decide) ?_
      refine ev_iadd dX5_told_82 ?_
      refine ev_istore_n dX5_told_83 (by decide) ?_
      refine ev_iinc _ dX5_told_84 rfl rfl (by decide) ?_
      rw [show nI i + Int32.ofInt 1 = nI (i + 1) from nI_1 i]
      refine ev_goto 60 dX5_told_87 (by decide) ?_
      have := ih (i + 1) (by omega)
      unfold cnt at this
      first | (rw [if_neg (by simp [c74]), Nat.zero_add] at this; rw [show (0 : Int32) = nI 0 from rfl, nI_add, Nat.add_zero]; exact this) | (rw [if_pos (by simp [c74]), Nat.add_comm] at this; rw [nI_1]; exact this)
theorem tm_told (hw : WF β) (h : RM σ β) (q : Int32) : ev mX5_told d 0 [some (.ref 35), some (.int q), none, none] [] (LY L) σ 0 0 (Ri (LY L) (PM (sp_told β q) σ)) := by
  obtain ⟨m0, m1, m2, m3, m4, mV, mK, mU, mW, mX, mHu, mHf⟩ := id h
  refine ev_iload_n dX5_told_0 rfl ?_
  rcases sw5 q with rfl | rfl | rfl | rfl | rfl | hsw
  · refine ev_tableIn 36 dX5_told_1 (by decide) (by decide) rfl (by decide) ?_
    refine ev_aload_n dX5_told_36 rfl ?_
    refine ev_getI dX5_told_37 fX5_7 ⟨_, rfl, rfl⟩ ?_
    refine ev_ireturn dX5_told_40 rfl rfl rfl ?_
    exact Ri.mk (PM.of (by rw [sp_told, if_pos rfl, m0]) h FrM.rf)
  · refine ev_tableIn 41 dX5_told_1 (by decide) (by decide) rfl (by decide) ?_
    refine ev_aload_n dX5_told_41 rfl ?_
    refine ev_getI dX5_told_42 fX5_68 ⟨_, rfl, rfl⟩ ?_
    refine ev_ireturn dX5_told_45 rfl rfl rfl ?_
    exact Ri.mk (PM.of (by rw [sp_told, if_neg (by decide), if_pos rfl, m1]) h FrM.rf)
  · refine ev_tableIn 46 dX5_told_1 (by decide) (by decide) rfl (by decide) ?_
    refine ev_aload_n dX5_told_46 rfl ?_
    refine ev_getI dX5_told_47 fX5_71 ⟨_, rfl, rfl⟩ ?_
    refine ev_ireturn dX5_told_50 rfl rfl rfl ?_
    exact Ri.mk (PM.of (by rw [sp_told, if_neg (by decide), if_neg (by decide), if_pos rfl, m2]) h FrM.rf)
  · refine ev_tableIn 51 dX5_told_1 (by decide) (by decide) rfl (by decide) ?_
    refine ev_aload_n dX5_told_51 rfl ?_
    refine ev_getI dX5_told_52 fX5_74 ⟨_, rfl, rfl⟩ ?_
    refine ev_ireturn dX5_told_55 rfl rfl rfl ?_
    exact Ri.mk (PM.of (by rw [sp_told, if_neg (by decide), if_neg (by decide), if_neg (by decide), if_pos rfl, m3]) h FrM.rf)
  · refine ev_tableIn 56 dX5_told_1 (by decide) (by decide) rfl (by decide) ?_
    refine ev_iconst 0 dX5_told_56 (by decide) ?_
    refine ev_istore_n dX5_told_57 (by decide) ?_
    refine ev_iconst 0 dX5_told_58 (by decide) ?_
    refine ev_istore_n dX5_told_59 (by decide) ?_
    exact told_loop mHu (Ri.mk (PM.of (by rw [sp_told, if_neg (by decide), if_neg (by decide), if_neg (by decide), if_neg (by decide), if_pos rfl]) h FrM.rf)) 4 0 rfl
  · refine ev_tableOut 92 dX5_told_1 hsw (by decide) ?_
    refine ev_bipush (-2) dX5_told_92 (by decide) ?_
    refine ev_ireturn dX5_told_94 rfl rfl rfl ?_
    have hs0 : q ≠ 0 ∧ q ≠ 1 ∧ q ≠ 2 ∧ q ≠ 3 ∧ q ≠ 4 := by refine ⟨?_, ?_, ?_, ?_, ?_⟩ <;> rintro rfl <;> exact absurd hsw (by decide)
    exact Ri.mk (PM.of (by rw [sp_told, if_neg hs0.1, if_neg hs0.2.1, if_neg hs0.2.2.1, if_neg hs0.2.2.2.1, if_neg hs0.2.2.2.2]) h FrM.rf)
def emP (σ σ' : ai_M) : Prop := σ' 35 = upd (σ 35) 14 0 ∧ (∀ i, i < 4 → σ' 46 i = -6) ∧ (∀ i, i < 16 → σ' 47 i = -6) ∧ ∀ c, c ≠ 35 → c ≠ 46 → c ≠ 47 → σ' c = σ c
theorem empty_l1 {σ0 : ai_M} {Q : Option Value → ai_L → ai_M → Prop} (K : ∀ σ1 : ai_M, (∀ j, σ1 46 j = if 0 ≤ j ∧ j < 0 + 4 then -6 else σ0 46 j) → (∀ c, c ≠ 46 → σ1 c = σ0 c) → ev mX5_empty d 26 [some (.ref 35), some (.int (nI 4))] [] (LY L) σ1 0 0 Q) :
    ∀ n i, i + n = 4 → ∀ σ1 : ai_M, (∀ j, σ1 46 j = if 0 ≤ j ∧ j < 0 + i then -6 else σ0 46 j) → (∀ c, c ≠ 46 → σ1 c = σ0 c) → ev mX5_empty d 7 [some (.ref 35), some (.int (nI i))] [] (LY L) σ1 0 0 Q := by
  intro n
  induction n with
  | zero =>
    intro i hi σ1 h1 h2
    obtain rfl : i = 4 := by omega
    refine ev_iload_n dX5_empty_7 rfl ?_
    refine ev_iconst 4 dX5_empty_8 (by decide) ?_
    refine ev_icmp_ge 26 dX5_empty_9 (by decide) (fun c9 => ?_) (fun c9 => absurd (nI_le (a := 4) (b := 4) (by omega) (by decide)) c9)
    exact K σ1 h1 h2
  | succ n ih =>
    intro i hi σ1 h1 h2
    refine ev_iload_n dX5_empty_7 rfl ?_
    refine ev_iconst 4 dX5_empty_8 (by decide) ?_
    refine ev_icmp_ge 26 dX5_empty_9 (by decide) (fun c9 => absurd c9 (nI_ge (b := 4) (by omega) (by decide))) (fun c9 => ?_)
    refine ev_aload_n dX5_empty_12 rfl ?_
    refine ev_getR dX5_empty_13 fX5_44 ⟨_, rfl, rfl⟩ ?_
    refine ev_iload_n dX5_empty_16 rfl ?_
    refine ev_bipush (-6) dX5_empty_17 (by decide) ?_
    refine ev_iastore dX5_empty_19 (by decide) rfl (vp_in_nI (by omega) (by decide)) ?_
    rw [clN (by omega)]
    refine ev_iinc _ dX5_empty_20 rfl rfl (by decide) ?_
    rw [show nI i + Int32.ofInt 1 = nI (i + 1) from nI_1 i]
    refine ev_goto 7 dX5_empty_23 (by decide) ?_
    refine ih (i + 1) (by omega) _ (fun j => ?_) (fun c hc => by rw [ai_up, if_neg hc]; exact h2 c hc)
    rw [ai_up, if_pos rfl]
    have := fillS h1 j
    rw [Nat.zero_add] at this
    exact this
theorem empty_l2 {σ0 : ai_M} {Q : Option Value → ai_L → ai_M → Prop} (K : ∀ σ1 : ai_M, (∀ j, σ1 47 j = if 0 ≤ j ∧ j < 0 + 16 then -6 else σ0 47 j) → (∀ c, c ≠ 47 → σ1 c = σ0 c) → Q none (LY L) σ1) :
    ∀ n i, i + n = 16 → ∀ σ1 : ai_M, (∀ j, σ1 47 j = if 0 ≤ j ∧ j < 0 + i then -6 else σ0 47 j) → (∀ c, c ≠ 47 → σ1 c = σ0 c) → ev mX5_empty d 28 [some (.ref 35), some (.int (nI i))] [] (LY L) σ1 0 0 Q := by
  intro n
  induction n with
  | zero =>
    intro i hi σ1 h1 h2
    obtain rfl : i = 16 := by omega
    refine ev_iload_n dX5_empty_28 rfl ?_
    refine ev_bipush 16 dX5_empty_29 (by decide) ?_
    refine ev_icmp_ge 48 dX5_empty_31 (by decide) (fun c31 => ?_) (fun c31 => absurd (nI_le (a := 16) (b := 16) (by omega) (by decide)) c31)
    refine ev_ret dX5_empty_48 rfl rfl ?_
    exact K σ1 h1 h2
  | succ n ih =>
    intro i hi σ1 h1 h2
    refine ev_iload_n dX5_empty_28 rfl ?_
    refine ev_bipush 16 dX5_empty_29 (by decide) ?_
    refine ev_icmp_ge 48 dX5_empty_31 (by decide) (fun c31 => absurd c31 (nI_ge (b := 16) (by omega) (by decide))) (fun c31 => ?_)
    refine ev_aload_n dX5_empty_34 rfl ?_
    refine ev_getR dX5_empty_35 fX5_47 ⟨_, rfl, rfl⟩ ?_
    refine ev_iload_n dX5_empty_38 rfl ?_
    refine ev_bipush (-6) dX5_empty_39 (by decide) ?_
    refine ev_iastore dX5_empty_41 (by decide) rfl (vp_in_nI (by omega) (by decide)) ?_
    rw [clN (by omega)]
    refine ev_iinc _ dX5_empty_42 rfl rfl (by decide) ?_
    rw [show nI i + Int32.ofInt 1 = nI (i + 1) from nI_1 i]
    refine ev_goto 28 dX5_empty_45 (by decide) ?_
    refine ih (i + 1) (by omega) _ (fun j => ?_) (fun c hc => by rw [ai_up, if_neg hc]; exact h2 c hc)
    rw [ai_up, if_pos rfl]
    have := fillS h1 j
    rw [Nat.zero_add] at this
    exact this
theorem t_empty : ev mX5_empty d 0 [some (.ref 35), none] [] (LY L) σ 0 0 (Rv (LY L) (emP σ)) := by
  refine ev_aload_n dX5_empty_0 rfl ?_
  refine ev_iconst 0 dX5_empty_1 (by decide) ?_
  refine ev_putI dX5_empty_2 fX5_80 ⟨_, rfl, rfl⟩ rfl rfl ?_
  refine ev_iconst 0 dX5_empty_5 (by decide) ?_
  refine ev_istore_n dX5_empty_6 (by decide) ?_
  refine empty_l1 (fun σ1 a1 a2 => ?_) 4 0 rfl _ (fun j => by rw [if_neg (by omega)]) (fun _ _ => rfl)
  refine ev_iconst 0 dX5_empty_26 (by decide) ?_
  refine ev_istore_n dX5_empty_27 (by decide) ?_
  refine empty_l2 (fun σ2 b1 b2 => ?_) 16 0 rfl _ (fun j => by rw [if_neg (by omega)]) (fun _ _ => rfl)
  refine Rv.mk ⟨?_, fun i hi => ?_, fun i hi => ?_, fun c c1 c2 c3 => ?_⟩
  · rw [b2 35 (by decide), a2 35 (by decide)]; rfl
  · rw [b2 46 (by decide), a1 i, if_pos (by omega)]
  · rw [b1 i, if_pos (by omega)]
  · rw [b2 c c3, a2 c c2, ai_up, if_neg c1]
theorem begin_l1 {σ0 : ai_M} {Q : Option Value → ai_L → ai_M → Prop} (K : ∀ σ1 : ai_M, (∀ j, σ1 36 j = if 0 ≤ j ∧ j < 0 + 16 then 1 else σ0 36 j) → (∀ c, c ≠ 36 → σ1 c = σ0 c) → ev mX5_begin d 21 [some (.ref 35), some (.int (nI 16))] [] (LY L) σ1 0 0 Q) :
    ∀ n i, i + n = 16 → ∀ σ1 : ai_M, (∀ j, σ1 36 j = if 0 ≤ j ∧ j < 0 + i then 1 else σ0 36 j) → (∀ c, c ≠ 36 → σ1 c = σ0 c) → ev mX5_begin d 2 [some (.ref 35), some (.int (nI i))] [] (LY L) σ1 0 0 Q := by
  intro n
  induction n with
  | zero =>
    intro i hi σ1 h1 h2
    obtain rfl : i = 16 := by omega
    refine ev_iload_n dX5_begin_2 rfl ?_
    refine ev_bipush 16 dX5_begin_3 (by decide) ?_
    refine ev_icmp_ge 21 dX5_begin_5 (by decide) (fun c5 => ?_) (fun c5 => absurd (nI_le (a := 16) (b := 16) (by omega) (by decide)) c5)
    exact K σ1 h1 h2
  | succ n ih =>
    intro i hi σ1 h1 h2
    refine ev_iload_n dX5_begin_2 rfl ?_
    refine ev_bipush 16 dX5_begin_3 (by decide) ?_
    refine ev_icmp_ge 21 dX5_begin_5 (by decide) (fun c5 => absurd c5 (nI_ge (b := 16) (by omega) (by decide))) (fun c5 => ?_)
    refine ev_aload_n dX5_begin_8 rfl ?_
    refine ev_getR dX5_begin_9 fX5_13 ⟨_, rfl, rfl⟩ ?_
    refine ev_iload_n dX5_begin_12 rfl ?_
    refine ev_iconst 1 dX5_begin_13 (by decide) ?_
    refine ev_iastore dX5_begin_14 (by decide) rfl (vp_in_nI (by omega) (by decide)) ?_
    rw [clN (by omega)]
    refine ev_iinc _ dX5_begin_15 rfl rfl (by decide) ?_
    rw [show nI i + Int32.ofInt 1 = nI (i + 1) from nI_1 i]
    refine ev_goto 2 dX5_begin_18 (by decide) ?_
    refine ih (i + 1) (by omega) _ (fun j => ?_) (fun c hc => by rw [ai_up, if_neg hc]; exact h2 c hc)
    rw [ai_up, if_pos rfl]
    have := fillS h1 j
    rw [Nat.zero_add] at this
    exact this
def bgP (σ σ' : ai_M) : Prop := σ' 35 0 = σ 35 0 ∧ σ' 35 2 = 0 ∧ σ' 35 4 = 0 ∧ σ' 35 8 = 0 ∧ σ' 35 14 = 0 ∧ (∀ i, i < 16 → σ' 36 i = 1) ∧ (∀ i, i < 4 → σ' 46 i = -6) ∧ (∀ i, i < 16 → σ' 47 i = -6) ∧ ∀ c, c ≠ 35 → c ≠ 36 → c ≠ 46 → c ≠ 47 → σ' c = σ c
theorem t_begin : ev mX5_begin (d + 1) 0 [some (.ref 35), none] [] (LY L) σ 0 0 (Rv (LY L) (bgP σ)) := by
  refine ev_iconst 0 dX5_begin_0 (by decide) ?_
  refine ev_istore_n dX5_begin_1 (by decide) ?_
  refine begin_l1 (fun σ1 a1 a2 => ?_) 16 0 rfl _ (fun j => by rw [if_neg (by omega)]) (fun _ _ => rfl)
  refine ev_aload_n dX5_begin_21 rfl ?_
  refine ev_iconst 0 dX5_begin_22 (by decide) ?_
  refine ev_putI dX5_begin_23 fX5_68 ⟨_, rfl, rfl⟩ rfl rfl ?_
  refine ev_aload_n dX5_begin_26 rfl ?_
  refine ev_iconst 0 dX5_begin_27 (by decide) ?_
  refine ev_putI dX5_begin_28 fX5_71 ⟨_, rfl, rfl⟩ rfl rfl ?_
  refine ev_aload_n dX5_begin_31 rfl ?_
  refine ev_iconst 0 dX5_begin_32 (by decide) ?_
  refine ev_putI dX5_begin_33 fX5_74 ⟨_, rfl, rfl⟩ rfl rfl ?_
  refine ev_aload_n dX5_begin_36 rfl ?_
  refine cVv0 dX5_begin_37 VX5_77 ⟨_, rfl⟩ rfl (t_empty) ?_
  intro σ2 he
  refine ev_ret dX5_begin_40 rfl rfl ?_
  obtain ⟨h1, h2, h3, h4⟩ := he
  have e35 : ∀ k, k ≠ 2 → k ≠ 4 → k ≠ 8 → k ≠ 14 → σ2 35 k = σ 35 k := by
    intro k k1 k2 k3 k4
    rw [h1]
    simp only [upd, ai_up, if_true, if_neg k1, if_neg k2, if_neg k3, if_neg k4]
    rw [a2 35 (by decide)]
  refine Rv.mk ⟨e35 0 (by decide) (by decide) (by decide) (by decide), ?_, ?_, ?_, ?_, fun i hi => ?_, h2, h3, fun c c1 c2 c3 c4 => ?_⟩
  · rw [h1]; rfl
  · rw [h1]; rfl
  · rw [h1]; rfl
  · rw [h1]; rfl
  · rw [h4 36 (by decide) (by decide) (by decide)]; show σ1 36 i = 1; rw [a1 i, if_pos (by omega)]
  · rw [h4 c c1 c3 c4, ai_up, if_neg c1, ai_up, if_neg c1, ai_up, if_neg c1, a2 c c2]
theorem tm_feet (hw : WF β) (h : RM σ β) (n : Int32) : ev mX5_feet (d + 2) 0 [some (.ref 35), some (.int n), none] [] (LY L) σ 0 0 (Ri (LY L) (PM (sp_feet β n) σ)) := by
  obtain ⟨m0, m1, m2, m3, m4, mV, mK, mU, mW, mX, mHu, mHf⟩ := id h
  refine ev_iload_n dX5_feet_0 rfl ?_
  refine ev_iconst 4 dX5_feet_1 (by decide) ?_
  refine ev_bipush 16 dX5_feet_2 (by decide) ?_
  refine cSp3 dX5_feet_4 SX5_84 rfl rfl rfl rfl (t_in _ _ _) ?_
  refine ev_if_ne 13 dX5_feet_7 (by decide) (fun c7 => ?_) (fun c7 => ?_)
  · rw [bI_n] at c7
    refine ev_aload_n dX5_feet_13 rfl ?_
    refine ev_getI dX5_feet_14 fX5_7 ⟨_, rfl, rfl⟩ ?_
    refine ev_istore_n dX5_feet_17 (by decide) ?_
    refine ev_aload_n dX5_feet_18 rfl ?_
    refine ev_iload_n dX5_feet_19 rfl ?_
    refine ev_putI dX5_feet_20 fX5_7 ⟨_, rfl, rfl⟩ rfl rfl ?_
    refine ev_aload_n dX5_feet_23 rfl ?_
    refine cVv0 dX5_feet_24 VX5_65 ⟨_, rfl⟩ rfl (t_begin) ?_
    rintro σ1 ⟨b0, b1, b2, b3, b4, b5, b6, b7, b8⟩
    refine ev_iload_n dX5_feet_27 rfl ?_
    refine ev_ireturn dX5_feet_28 rfl rfl rfl ?_
    refine Ri.mk (PM.of (β' := (sp_feet β n).2) (by rw [sp_feet, if_neg (fun z => z c7), m0]) ?_ (fun c hc => by rw [b8 c (by omega) (by omega) (by omega) (by omega), ai_up, if_neg (by omega)]))
    rw [sp_feet, if_neg (fun z => z c7)]
    exact ⟨b0, b1, b2, b3, b4, b5, fun i hi => by rw [b8 37 (by decide) (by decide) (by decide) (by decide)]; exact mK i hi, fun i hi => by rw [b8 38 (by decide) (by decide) (by decide) (by decide), b8 39 (by decide) (by decide) (by decide) (by decide), b8 40 (by decide) (by decide) (by decide) (by decide)]; exact mU i hi, fun i hi => by rw [b8 41 (by decide) (by decide) (by decide) (by decide), b8 42 (by decide) (by decide) (by decide) (by decide), b8 43 (by decide) (by decide) (by decide) (by decide), b8 44 (by decide) (by decide) (by decide) (by decide)]; exact mW i hi, fun i hi => by rw [b8 45 (by decide) (by decide) (by decide) (by decide)]; exact mX i hi, b6, b7⟩
  · refine ev_bipush (-2) dX5_feet_10 (by decide) ?_
    refine ev_ireturn dX5_feet_12 rfl rfl rfl ?_
    rw [bI_0] at c7
    exact Ri.mk (PM.of (by rw [sp_feet, if_pos c7]) h FrM.rf)
end MB4
