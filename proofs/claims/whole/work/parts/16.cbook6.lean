section CB6
variable {σ β : ai_M} {d L : Nat} {Bst : BS}
def clP (g u f : Nat) (σ σ' : ai_M) : Prop := σ' g 0 = 0 ∧ σ' g 1 = 0 ∧ (∀ i, i < 4 → σ' u i = -6) ∧ (∀ i, i < 16 → σ' f i = -6) ∧ ∀ c, c ≠ g → c ≠ u → c ≠ f → σ' c = σ c
theorem clear_l1 {y : ai_L} {g u f : Nat} (hg : y[g]? = some (gvF u f)) (hu : y[u]? = some (.inl 4)) (hu2 : 2 ≤ u) {σ0 : ai_M} {Q : Option Value → ai_L → ai_M → Prop} (K : ∀ σ1 : ai_M, (∀ j, σ1 u j = if 0 ≤ j ∧ j < 0 + 4 then -6 else σ0 u j) → (∀ c, c ≠ u → σ1 c = σ0 c) → ev mX2_clear d 31 [some (.ref g), some (.int (nI 4))] [] y σ1 0 0 Q) :
    ∀ n i, i + n = 4 → ∀ σ1 : ai_M, (∀ j, σ1 u j = if 0 ≤ j ∧ j < 0 + i then -6 else σ0 u j) → (∀ c, c ≠ u → σ1 c = σ0 c) → ev mX2_clear d 12 [some (.ref g), some (.int (nI i))] [] y σ1 0 0 Q := by
  intro n
  induction n with
  | zero =>
    intro i hi σ1 h1 h2
    obtain rfl : i = 4 := by omega
    refine ev_iload_n dX2_clear_12 rfl ?_
    refine ev_iconst 4 dX2_clear_13 (by decide) ?_
    refine ev_icmp_ge 31 dX2_clear_14 (by decide) (fun c14 => ?_) (fun c14 => absurd (nI_le (a := 4) (b := 4) (by omega) (by decide)) c14)
    exact K σ1 h1 h2
  | succ n ih =>
    intro i hi σ1 h1 h2
    refine ev_iload_n dX2_clear_12 rfl ?_
    refine ev_iconst 4 dX2_clear_13 (by decide) ?_
    refine ev_icmp_ge 31 dX2_clear_14 (by decide) (fun c14 => absurd c14 (nI_ge (b := 4) (by omega) (by decide))) (fun c14 => ?_)
    refine ev_aload_n dX2_clear_17 rfl ?_
    refine ev_getR dX2_clear_18 fX2_9 ⟨_, hg, rfl⟩ ?_
    refine ev_iload_n dX2_clear_21 rfl ?_
    refine ev_bipush (-6) dX2_clear_22 (by decide) ?_
    refine ev_iastore dX2_clear_24 hu2 hu (vp_in_nI (by omega) (by decide)) ?_
    rw [clN (by omega)]
    refine ev_iinc _ dX2_clear_25 rfl rfl (by decide) ?_
    rw [show nI i + Int32.ofInt 1 = nI (i + 1) from nI_1 i]
    refine ev_goto 12 dX2_clear_28 (by decide) ?_
    refine ih (i + 1) (by omega) _ (fun j => ?_) (fun c hc => by rw [ai_up, if_neg hc]; exact h2 c hc)
    rw [ai_up, if_pos rfl]
    have := fillS h1 j
    rw [Nat.zero_add] at this
    exact this
theorem clear_l2 {y : ai_L} {g u f : Nat} (hg : y[g]? = some (gvF u f)) (hf : y[f]? = some (.inl 16)) (hf2 : 2 ≤ f) {σ0 : ai_M} {Q : Option Value → ai_L → ai_M → Prop} (K : ∀ σ1 : ai_M, (∀ j, σ1 f j = if 0 ≤ j ∧ j < 0 + 16 then -6 else σ0 f j) → (∀ c, c ≠ f → σ1 c = σ0 c) → Q none y σ1) :
    ∀ n i, i + n = 16 → ∀ σ1 : ai_M, (∀ j, σ1 f j = if 0 ≤ j ∧ j < 0 + i then -6 else σ0 f j) → (∀ c, c ≠ f → σ1 c = σ0 c) → ev mX2_clear d 33 [some (.ref g), some (.int (nI i))] [] y σ1 0 0 Q := by
  intro n
  induction n with
  | zero =>
    intro i hi σ1 h1 h2
    obtain rfl : i = 16 := by omega
    refine ev_iload_n dX2_clear_33 rfl ?_
    refine ev_aload_n dX2_clear_34 rfl ?_
    refine ev_getR dX2_clear_35 fX2_15 ⟨_, hg, rfl⟩ ?_
    refine ev_alen _ dX2_clear_38 hf rfl ?_
    refine ev_icmp_ge 56 dX2_clear_39 (by decide) (fun c39 => ?_) (fun c39 => absurd (nI_le (a := 16) (b := 16) (by omega) (by decide)) c39)
    refine ev_ret dX2_clear_56 rfl rfl ?_
    exact K σ1 h1 h2
  | succ n ih =>
    intro i hi σ1 h1 h2
    refine ev_iload_n dX2_clear_33 rfl ?_
    refine ev_aload_n dX2_clear_34 rfl ?_
    refine ev_getR dX2_clear_35 fX2_15 ⟨_, hg, rfl⟩ ?_
    refine ev_alen _ dX2_clear_38 hf rfl ?_
    refine ev_icmp_ge 56 dX2_clear_39 (by decide) (fun c39 => absurd c39 (nI_ge (b := 16) (by omega) (by decide))) (fun c39 => ?_)
    refine ev_aload_n dX2_clear_42 rfl ?_
    refine ev_getR dX2_clear_43 fX2_15 ⟨_, hg, rfl⟩ ?_
    refine ev_iload_n dX2_clear_46 rfl ?_
    refine ev_bipush (-6) dX2_clear_47 (by decide) ?_
    refine ev_iastore dX2_clear_49 hf2 hf (vp_in_nI (by omega) (by decide)) ?_
    rw [clN (by omega)]
    refine ev_iinc _ dX2_clear_50 rfl rfl (by decide) ?_
    rw [show nI i + Int32.ofInt 1 = nI (i + 1) from nI_1 i]
    refine ev_goto 33 dX2_clear_53 (by decide) ?_
    refine ih (i + 1) (by omega) _ (fun j => ?_) (fun c hc => by rw [ai_up, if_neg hc]; exact h2 c hc)
    rw [ai_up, if_pos rfl]
    have := fillS h1 j
    rw [Nat.zero_add] at this
    exact this
theorem t_clear {y : ai_L} {g u f : Nat} (hg : y[g]? = some (gvF u f)) (hu : y[u]? = some (.inl 4)) (hf : y[f]? = some (.inl 16)) (hu2 : 2 ≤ u) (hf2 : 2 ≤ f) (h1 : g ≠ u) (h2 : g ≠ f) (h3 : u ≠ f) : ev mX2_clear d 0 [some (.ref g), none] [] y σ 0 0 (Rv y (clP g u f σ)) := by
  refine ev_aload_n dX2_clear_0 rfl ?_
  refine ev_iconst 0 dX2_clear_1 (by decide) ?_
  refine ev_putI dX2_clear_2 fX2_21 ⟨_, hg, rfl⟩ rfl rfl ?_
  refine ev_aload_n dX2_clear_5 rfl ?_
  refine ev_iconst 0 dX2_clear_6 (by decide) ?_
  refine ev_putI dX2_clear_7 fX2_25 ⟨_, hg, rfl⟩ rfl rfl ?_
  refine ev_iconst 0 dX2_clear_10 (by decide) ?_
  refine ev_istore_n dX2_clear_11 (by decide) ?_
  refine clear_l1 hg hu hu2 (fun σ1 a1 a2 => ?_) 4 0 rfl _ (fun j => by rw [if_neg (by omega)]) (fun _ _ => rfl)
  refine ev_iconst 0 dX2_clear_31 (by decide) ?_
  refine ev_istore_n dX2_clear_32 (by decide) ?_
  refine clear_l2 hg hf hf2 (fun σ2 b1 b2 => ?_) 16 0 rfl _ (fun j => by rw [if_neg (by omega)]) (fun _ _ => rfl)
  refine Rv.mk ⟨?_, ?_, fun i hi => ?_, fun i hi => ?_, fun c c1 c2 c3 => ?_⟩
  · rw [b2 g h2, a2 g h1]; simp [ai_up, upd]
  · rw [b2 g h2, a2 g h1]; simp [ai_up, upd]
  · rw [b2 u h3, a1 i, if_pos (by omega)]
  · rw [b1 i, if_pos (by omega)]
  · rw [b2 c c3, a2 c c2, ai_up, if_neg c1, ai_up, if_neg c1]
def rnP (c v a : Nat) (n : Int32) (σ σ' : ai_M) : Prop := σ' c 0 = n ∧ σ' c 1 = 0 ∧ σ' c 2 = 0 ∧ (∀ i, i < 16 → σ' v i = 1) ∧ (∀ i, i < 24 → σ' a i = 0) ∧ ∀ z, z ≠ c → z ≠ v → z ≠ a → σ' z = σ z
abbrev chF (v k u a : Nat) : ai_Q := .inr (1, [none, none, none, some (some v), some (some k), some (some u), some (some a)])
theorem renew_l1 {y : ai_L} {c v k u a : Nat} {n0 : Int32} (hg : y[c]? = some (chF v k u a)) (hu : y[v]? = some (.inl 16)) (hu2 : 2 ≤ v) {σ0 : ai_M} {Q : Option Value → ai_L → ai_M → Prop} (K : ∀ σ1 : ai_M, (∀ j, σ1 v j = if 0 ≤ j ∧ j < 0 + 16 then 1 else σ0 v j) → (∀ z, z ≠ v → σ1 z = σ0 z) → ev mX1_renew d 36 [some (.ref c), some (.int n0), some (.int (nI 16))] [] y σ1 0 0 Q) :
    ∀ n i, i + n = 16 → ∀ σ1 : ai_M, (∀ j, σ1 v j = if 0 ≤ j ∧ j < 0 + i then 1 else σ0 v j) → (∀ z, z ≠ v → σ1 z = σ0 z) → ev mX1_renew d 17 [some (.ref c), some (.int n0), some (.int (nI i))] [] y σ1 0 0 Q := by
  intro n
  induction n with
  | zero =>
    intro i hi σ1 h1 h2
    obtain rfl : i = 16 := by omega
    refine ev_iload_n dX1_renew_17 rfl ?_
    refine ev_bipush 16 dX1_renew_18 (by decide) ?_
    refine ev_icmp_ge 36 dX1_renew_20 (by decide) (fun c20 => ?_) (fun c20 => absurd (nI_le (a := 16) (b := 16) (by omega) (by decide)) c20)
    exact K σ1 h1 h2
  | succ n ih =>
    intro i hi σ1 h1 h2
    refine ev_iload_n dX1_renew_17 rfl ?_
    refine ev_bipush 16 dX1_renew_18 (by decide) ?_
    refine ev_icmp_ge 36 dX1_renew_20 (by decide) (fun c20 => absurd c20 (nI_ge (b := 16) (by omega) (by decide))) (fun c20 => ?_)
    refine ev_aload_n dX1_renew_23 rfl ?_
    refine ev_getR dX1_renew_24 fX1_9 ⟨_, hg, rfl⟩ ?_
    refine ev_iload_n dX1_renew_27 rfl ?_
    refine ev_iconst 1 dX1_renew_28 (by decide) ?_
    refine ev_iastore dX1_renew_29 hu2 hu (vp_in_nI (by omega) (by decide)) ?_
    rw [clN (by omega)]
    refine ev_iinc _ dX1_renew_30 rfl rfl (by decide) ?_
    rw [show nI i + Int32.ofInt 1 = nI (i + 1) from nI_1 i]
    refine ev_goto 17 dX1_renew_33 (by decide) ?_
    refine ih (i + 1) (by omega) _ (fun j => ?_) (fun c hc => by rw [ai_up, if_neg hc]; exact h2 c hc)
    rw [ai_up, if_pos rfl]
    have := fillS h1 j
    rw [Nat.zero_add] at this
    exact this
theorem renew_l2 {y : ai_L} {c v k u a : Nat} {n0 : Int32} (hg : y[c]? = some (chF v k u a)) (hf : y[a]? = some (.inl 24)) (hf2 : 2 ≤ a) {σ0 : ai_M} {Q : Option Value → ai_L → ai_M → Prop} (K : ∀ σ1 : ai_M, (∀ j, σ1 a j = if 0 ≤ j ∧ j < 0 + 24 then 0 else σ0 a j) → (∀ z, z ≠ a → σ1 z = σ0 z) → Q none y σ1) :
    ∀ n i, i + n = 24 → ∀ σ1 : ai_M, (∀ j, σ1 a j = if 0 ≤ j ∧ j < 0 + i then 0 else σ0 a j) → (∀ z, z ≠ a → σ1 z = σ0 z) → ev mX1_renew d 38 [some (.ref c), some (.int n0), some (.int (nI i))] [] y σ1 0 0 Q := by
  intro n
  induction n with
  | zero =>
    intro i hi σ1 h1 h2
    obtain rfl : i = 24 := by omega
    refine ev_iload_n dX1_renew_38 rfl ?_
    refine ev_aload_n dX1_renew_39 rfl ?_
    refine ev_getR dX1_renew_40 fX1_21 ⟨_, hg, rfl⟩ ?_
    refine ev_alen _ dX1_renew_43 hf rfl ?_
    refine ev_icmp_ge 60 dX1_renew_44 (by decide) (fun c44 => ?_) (fun c44 => absurd (nI_le (a := 24) (b := 24) (by omega) (by decide)) c44)
    refine ev_ret dX1_renew_60 rfl rfl ?_
    exact K σ1 h1 h2
  | succ n ih =>
    intro i hi σ1 h1 h2
    refine ev_iload_n dX1_renew_38 rfl ?_
    refine ev_aload_n dX1_renew_39 rfl ?_
    refine ev_getR dX1_renew_40 fX1_21 ⟨_, hg, rfl⟩ ?_
    refine ev_alen _ dX1_renew_43 hf rfl ?_
    refine ev_icmp_ge 60 dX1_renew_44 (by decide) (fun c44 => absurd c44 (nI_ge (b := 24) (by omega) (by decide))) (fun c44 => ?_)
    refine ev_aload_n dX1_renew_47 rfl ?_
    refine ev_getR dX1_renew_48 fX1_21 ⟨_, hg, rfl⟩ ?_
    refine ev_iload_n dX1_renew_51 rfl ?_
    refine ev_iconst 0 dX1_renew_52 (by decide) ?_
    refine ev_iastore dX1_renew_53 hf2 hf (vp_in_nI (by omega) (by decide)) ?_
    rw [clN (by omega)]
    refine ev_iinc _ dX1_renew_54 rfl rfl (by decide) ?_
    rw [show nI i + Int32.ofInt 1 = nI (i + 1) from nI_1 i]
    refine ev_goto 38 dX1_renew_57 (by decide) ?_
    refine ih (i + 1) (by omega) _ (fun j => ?_) (fun c hc => by rw [ai_up, if_neg hc]; exact h2 c hc)
    rw [ai_up, if_pos rfl]
    have := fillS h1 j
    rw [Nat.zero_add] at this
    exact this
theorem t_renew {y : ai_L} {c v k u a : Nat} (n : Int32) (hg : y[c]? = some (chF v k u a)) (hu : y[v]? = some (.inl 16)) (hf : y[a]? = some (.inl 24)) (hu2 : 2 ≤ v) (hf2 : 2 ≤ a) (h1 : c ≠ v) (h2 : c ≠ a) (h3 : v ≠ a) : ev mX1_renew d 0 [some (.ref c), some (.int n), none] [] y σ 0 0 (Rv y (rnP c v a n σ)) := by
  refine ev_aload_n dX1_renew_0 rfl ?_
  refine ev_iload_n dX1_renew_1 rfl ?_
  refine ev_putI dX1_renew_2 fX1_28 ⟨_, hg, rfl⟩ rfl rfl ?_
  refine ev_aload_n dX1_renew_5 rfl ?_
  refine ev_iconst 0 dX1_renew_6 (by decide) ?_
  refine ev_putI dX1_renew_7 fX1_32 ⟨_, hg, rfl⟩ rfl rfl ?_
  refine ev_aload_n dX1_renew_10 rfl ?_
  refine ev_iconst 0 dX1_renew_11 (by decide) ?_
  refine ev_putI dX1_renew_12 fX1_35 ⟨_, hg, rfl⟩ rfl rfl ?_
  refine ev_iconst 0 dX1_renew_15 (by decide) ?_
  refine ev_istore_n dX1_renew_16 (by decide) ?_
  refine renew_l1 hg hu hu2 (fun σ1 a1 a2 => ?_) 16 0 rfl _ (fun j => by rw [if_neg (by omega)]) (fun _ _ => rfl)
  refine ev_iconst 0 dX1_renew_36 (by decide) ?_
  refine ev_istore_n dX1_renew_37 (by decide) ?_
  refine renew_l2 hg hf hf2 (fun σ2 b1 b2 => ?_) 24 0 rfl _ (fun j => by rw [if_neg (by omega)]) (fun _ _ => rfl)
  refine Rv.mk ⟨?_, ?_, ?_, fun i hi => ?_, fun i hi => ?_, fun z c1 c2 c3 => ?_⟩
  · rw [b2 c h2, a2 c h1]; simp [ai_up, upd]
  · rw [b2 c h2, a2 c h1]; simp [ai_up, upd]
  · rw [b2 c h2, a2 c h1]; simp [ai_up, upd]
  · rw [b2 v h3, a1 i, if_pos (by omega)]
  · rw [b1 i, if_pos (by omega)]
  · rw [b2 z c3, a2 z c2, ai_up, if_neg c1, ai_up, if_neg c1, ai_up, if_neg c1]
theorem feet_RB {n : Int32} {σ1 σ2 : ai_M} (hr : rnP 3 4 7 n σ σ1) (hcl : clP 29 30 31 (ai_up σ1 8 0 0) σ2) : RB (ai_up σ2 2 6 0) (emB (ai_up (ai_up (ai_up (ai_set (ai_up β 35 0 n) 36 (fun _ => 1)) 35 2 0) 35 4 0) 35 8 0)) := by
  obtain ⟨r1, r2, r3, r4, r5, r6⟩ := hr
  obtain ⟨k1, k2, k3, k4, k5⟩ := hcl
  have e3 : σ2 3 = σ1 3 := k5 3 (by decide) (by decide) (by decide)
  have e4 : σ2 4 = σ1 4 := k5 4 (by decide) (by decide) (by decide)
  have e7 : σ2 7 = σ1 7 := k5 7 (by decide) (by decide) (by decide)
  have e8 : σ2 8 0 = 0 := by rw [k5 8 (by decide) (by decide) (by decide)]; rfl
  refine ⟨⟨?_, ?_, ?_, e8⟩, fun i hi => ?_, fun i hi => absurd hi (Nat.not_lt_zero i), fun i hi => absurd hi (Nat.not_lt_zero i), fun a b ha hb => ?_, fun i hi => absurd hi (Nat.not_lt_zero i), fun i hi => absurd hi (by show ¬ i < 4 * 0; omega), ⟨k1, ?_, k3, k4⟩⟩
  · show σ2 3 0 = n; rw [e3, r1]
  · show σ2 3 1 = 0; rw [e3, r2]
  · show σ2 3 2 = 0; rw [e3, r3]
  · show σ2 4 i = 1; rw [e4, r4 i hi]
  · show σ2 7 (4 * a + b) = _
    rw [e7, r5 _ (by omega), ← mk_none 16]
    exact mkI_cong (fun i hi => rfl)
  · show σ2 29 1 = _
    rw [k2]; rfl
theorem tc_feet (hw : WF β) (h : RB σ β) (hc : rcC Bst σ β) (n : Int32) : ev mX4_feet (d + 1) 0 [some (.ref 2), some (.int n), none] [] (LY L) σ 0 0 (Ri (LY L) (PC Bst (sp_feet β n) σ)) := by
  obtain ⟨hN, hV, hK, hU, hA, hW, hX, hH⟩ := id h
  refine ev_iload_n dX4_feet_0 rfl ?_
  refine ev_iconst 4 dX4_feet_1 (by decide) ?_
  refine ev_icmp_lt 11 dX4_feet_2 (by decide) (fun c2 => ?_) (fun c2 => ?_)
  · refine ev_bipush (-2) dX4_feet_11 (by decide) ?_
    refine ev_ireturn dX4_feet_13 rfl rfl rfl ?_
    exact Ri.mk (PC.of (by rw [sp_feet, if_pos (fun z => by simp only [inn, Int32.lt_iff_toInt_lt, Int32.le_iff_toInt_le, c0, c1n, c2n, c3n, c4, c10n, c13n, c14n, c15n, c16n, cm1n] at *; omega)]) h hc FrC.rf)
  · refine ev_iload_n dX4_feet_5 rfl ?_
    refine ev_bipush 16 dX4_feet_6 (by decide) ?_
    refine ev_icmp_le 14 dX4_feet_8 (by decide) (fun c8 => ?_) (fun c8 => ?_)
    · have q1 : inn n 4 16 := by simp only [inn, Int32.lt_iff_toInt_lt, Int32.le_iff_toInt_le, c0, c1n, c2n, c3n, c4, c10n, c13n, c14n, c15n, c16n, cm1n] at *; omega
      refine ev_aload_n dX4_feet_14 rfl ?_
      refine ev_getR dX4_feet_15 fX4_10 ⟨_, rfl, rfl⟩ ?_
      refine ev_getI dX4_feet_18 fX4_48 ⟨_, rfl, rfl⟩ ?_
      refine ev_istore_n dX4_feet_21 (by decide) ?_
      refine ev_aload_n dX4_feet_22 rfl ?_
      refine ev_getR dX4_feet_23 fX4_10 ⟨_, rfl, rfl⟩ ?_
      refine ev_iload_n dX4_feet_26 rfl ?_
      refine cVv1 dX4_feet_27 VX4_51 ⟨_, rfl⟩ rfl rfl (t_renew n (c := 3) (v := 4) (k := 5) (u := 6) (a := 7) rfl rfl rfl (by decide) (by decide) (by decide) (by decide) (by decide)) ?_
      intro σ1 hr
      refine ev_aload_n dX4_feet_30 rfl ?_
      refine ev_getR dX4_feet_31 fX4_19 ⟨_, rfl, rfl⟩ ?_
      refine ev_iconst 0 dX4_feet_34 (by decide) ?_
      refine ev_putI dX4_feet_35 fX4_55 ⟨_, rfl, rfl⟩ rfl rfl ?_
      refine ev_aload_n dX4_feet_38 rfl ?_
      refine ev_getR dX4_feet_39 fX4_33 ⟨_, rfl, rfl⟩ ?_
      refine cVv0 dX4_feet_42 VX4_58 ⟨_, rfl⟩ rfl (t_clear (g := 29) (u := 30) (f := 31) rfl rfl rfl (by decide) (by decide) (by decide) (by decide) (by decide)) ?_
      intro σ2 hcl
      refine ev_aload_n dX4_feet_45 rfl ?_
      refine ev_iconst 0 dX4_feet_46 (by decide) ?_
      refine ev_putI dX4_feet_47 fX4_44 ⟨_, rfl, rfl⟩ rfl rfl ?_
      refine ev_iload_n dX4_feet_50 rfl ?_
      refine ev_ireturn dX4_feet_51 rfl rfl rfl ?_
      exact Ri.mk (PC.of (β' := (sp_feet β n).2) (by rw [sp_feet, if_neg (fun z => z q1), hN.1]) (by rw [sp_feet, if_neg (fun z => z q1)]; exact feet_RB hr hcl) (Or.inl rfl) (fun c hc => by rw [ai_up, if_neg (by omega), hcl.2.2.2.2 c (by omega) (by omega) (by omega), ai_up, if_neg (by omega), hr.2.2.2.2.2 c (by omega) (by omega) (by omega)]))
    · refine ev_bipush (-2) dX4_feet_11 (by decide) ?_
      refine ev_ireturn dX4_feet_13 rfl rfl rfl ?_
      exact Ri.mk (PC.of (by rw [sp_feet, if_pos (fun z => by simp only [inn, Int32.lt_iff_toInt_lt, Int32.le_iff_toInt_le, c0, c1n, c2n, c3n, c4, c10n, c13n, c14n, c15n, c16n, cm1n] at *; omega)]) h hc FrC.rf)
end CB6
