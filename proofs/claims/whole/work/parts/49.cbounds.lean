/-- one less than n -/
def dn : Nat → Int32
  | 0 => -1
  | n + 1 => nI n
theorem dn_dec : ∀ n, nI n + Int32.ofInt (-1) = dn n
  | 0 => by decide
  | n + 1 => pk_m1 n
theorem dn_sub : ∀ n, nI n - 1 = dn n
  | 0 => by decide
  | n + 1 => by rw [nI_pred]; rfl
theorem dn_lt : dn 0 < 0 := by decide
theorem nI_nn {n : Nat} (h : n < 2 ^ 31) : ¬ nI n < 0 := by rw [show (0 : Int32) = nI 0 from rfl, nI_ltI h (by decide)]; omega
section SB
variable {β : ai_M} {d L m : Nat} {mv : Bool}
theorem SS.keep {σ1 σ2 : ai_M} (hs : SS σ1 β m) (h : ∀ c, c ≠ 27 → c ≠ 28 → σ2 c = σ1 c) : SS σ2 β m := by
  unfold SS
  rw [h 14 (by decide) (by decide), h 24 (by decide) (by decide), h 25 (by decide) (by decide), h 26 (by decide) (by decide)]
  exact hs
theorem KP.keep {σ1 σ2 : ai_M} (hs : KP σ1 β mv) (h : ∀ c, c ≠ 27 → c ≠ 28 → σ2 c = σ1 c) : KP σ2 β mv := by
  unfold KP
  rw [h 21 (by decide) (by decide), h 22 (by decide) (by decide), h 23 (by decide) (by decide)]
  exact hs
theorem sb_roles (hw : WF β) {σ1 : ai_M} (hs : SS σ1 β m) (hk : KP σ1 β mv) {w u : Nat} (hlt : w < nW β) (hm : m.testBit w = true) (hu : u < nU β) {lt : Option Value} {Q : Option Value → ai_L → ai_M → Prop}
    (K : ∀ (σ2 : ai_M) (l5 : Option Value), (∀ r, 0 ≤ r → r ≤ 4 → σ2 27 (30 * w + 5 * u + r) = nI (rsB β mv w u (4 - r))) → (∀ c, c ≠ 27 → σ2 c = σ1 c) → (∀ k, (k < 30 * w + 5 * u ∨ 30 * w + 5 * u + 5 ≤ k) → σ2 27 k = σ1 27 k) → ev mX3_setBounds (d + 2) 121 [some (.ref 14), some (.int (nI w)), lt, some (.int (nI u)), some (.int (nI (30 * w + 5 * u))), l5] [] (LY L) σ2 0 0 Q) :
    ∀ n, n ≤ 4 → ∀ σ2 : ai_M, (∀ r, n ≤ r → r ≤ 4 → σ2 27 (30 * w + 5 * u + r) = nI (rsB β mv w u (4 - r))) → (∀ c, c ≠ 27 → σ2 c = σ1 c) → (∀ k, (k < 30 * w + 5 * u ∨ 30 * w + 5 * u + 5 ≤ k) → σ2 27 k = σ1 27 k) → ev mX3_setBounds (d + 2) 79 [some (.ref 14), some (.int (nI w)), lt, some (.int (nI u)), some (.int (nI (30 * w + 5 * u))), some (.int (dn n))] [] (LY L) σ2 0 0 Q := by
  have h4 := hw.1.2.2.2.2.2.2.2.2
  have h6 := hw.1.2.2.2.2.1
  intro n
  induction n with
  | zero =>
    intro _ σ2 a1 a2 a3
    refine ev_iload dX3_setBounds_79 rfl ?_
    refine ev_if_lt 121 dX3_setBounds_81 (by decide) (fun c81 => ?_) (fun c81 => absurd dn_lt c81)
    exact K σ2 _ a1 a2 a3
  | succ n ih =>
    intro hn σ2 a1 a2 a3
    show ev mX3_setBounds (d + 2) 79 [some (.ref 14), some (.int (nI w)), lt, some (.int (nI u)), some (.int (nI (30 * w + 5 * u))), some (.int (nI n))] [] (LY L) σ2 0 0 Q
    have f : ∀ c, c ≠ 27 → c ≠ 28 → σ2 c = σ1 c := fun c q _ => a2 c q
    have er : rsB β mv w u (4 - n) = rsB β mv w u (4 - (n + 1)) + lfB β mv w u n := by
      rw [show 4 - n = (4 - (n + 1)) + 1 by omega, rsB, show 3 - (4 - (n + 1)) = n by omega]
    have e1 := a1 (n + 1) (Nat.le_refl _) hn
    have ea : nI (30 * w + 5 * u) + nI n = nI (30 * w + 5 * u + n) := nI_add _ _
    have eb : nI (30 * w + 5 * u) + nI n + 1 = nI (30 * w + 5 * u + (n + 1)) := by rw [ea]; exact nI_add _ 1
    refine ev_iload dX3_setBounds_79 rfl ?_
    refine ev_if_lt 121 dX3_setBounds_81 (by decide) (fun c81 => absurd c81 (nI_nn (by omega))) (fun c81 => ?_)
    refine ev_aload_n dX3_setBounds_84 rfl ?_
    refine ev_getR dX3_setBounds_85 fX3_34 ⟨_, rfl, rfl⟩ ?_
    refine ev_iload dX3_setBounds_88 rfl ?_
    refine ev_iload dX3_setBounds_90 rfl ?_
    refine ev_iadd dX3_setBounds_92 ?_
    refine ev_aload_n dX3_setBounds_93 rfl ?_
    refine ev_getR dX3_setBounds_94 fX3_34 ⟨_, rfl, rfl⟩ ?_
    refine ev_iload dX3_setBounds_97 rfl ?_
    refine ev_iload dX3_setBounds_99 rfl ?_
    refine ev_iadd dX3_setBounds_101 ?_
    refine ev_iconst 1 dX3_setBounds_102 (by decide) ?_
    refine ev_iadd dX3_setBounds_103 ?_
    rw [eb]
    refine ev_iaload dX3_setBounds_104 rfl (vp_in_nI (by omega) (by decide)) ?_
    rw [nI_clamp (by omega), e1]
    refine ev_aload_n dX3_setBounds_105 rfl ?_
    refine ev_iload_n dX3_setBounds_106 rfl ?_
    refine ev_iload_n dX3_setBounds_107 rfl ?_
    refine ev_iload dX3_setBounds_108 rfl ?_
    refine cVp3 dX3_setBounds_110 VX3_135 ⟨_, rfl⟩ rfl rfl rfl rfl (t_lightestFoot hw (hs.keep f) (hk.keep f) hlt hm (by omega) hu) ?_
    refine ev_iadd dX3_setBounds_113 ?_
    rw [nI_add, ← er, ea]
    refine ev_iastore dX3_setBounds_114 (by decide) rfl (vp_in_nI (by omega) (by decide)) ?_
    rw [nI_clamp (by omega)]
    refine ev_iinc _ dX3_setBounds_115 rfl rfl (by decide) ?_
    rw [dn_dec]
    refine ev_goto 79 dX3_setBounds_118 (by decide) ?_
    refine ih (by omega) _ (fun r hr1 hr2 => ?_) (fun c q => by rw [ai_up, if_neg q]; exact a2 c q) (fun k q => ?_)
    · show upd (σ2 27) _ _ _ = _; unfold upd; by_cases q : r = n; rw [if_pos (by omega), q]; rw [if_neg (by omega)]; exact a1 r (by omega) hr2
    · show upd (σ2 27) _ _ _ = _; rw [upd, if_neg (by omega)]; exact a3 k q
theorem sb_units (hw : WF β) {σ1 : ai_M} (hs : SS σ1 β m) (hk : KP σ1 β mv) {w : Nat} (hlt : w < nW β) (hm : m.testBit w = true) {Q : Option Value → ai_L → ai_M → Prop}
    (K : ∀ (σ2 : ai_M) (l3 l4 l5 : Option Value), (∀ u r, u < nU β → r ≤ 4 → σ2 27 (30 * w + 5 * u + r) = nI (rsB β mv w u (4 - r))) → (∀ c, c ≠ 27 → σ2 c = σ1 c) → (∀ k, (k < 30 * w ∨ 30 * w + 30 ≤ k) → σ2 27 k = σ1 27 k) → ev mX3_setBounds (d + 2) 139 [some (.ref 14), some (.int (nI w)), some (.int (nI (mnU β mv w (nU β)))), l3, l4, l5] [] (LY L) σ2 0 0 Q) :
    ∀ n u, u + n = nU β → ∀ (σ2 : ai_M) (l4 l5 : Option Value), (∀ u' r, u' < u → r ≤ 4 → σ2 27 (30 * w + 5 * u' + r) = nI (rsB β mv w u' (4 - r))) → (∀ c, c ≠ 27 → σ2 c = σ1 c) → (∀ k, (k < 30 * w ∨ 30 * w + 30 ≤ k) → σ2 27 k = σ1 27 k) → ev mX3_setBounds (d + 2) 39 [some (.ref 14), some (.int (nI w)), some (.int (nI (mnU β mv w u))), some (.int (nI u)), l4, l5] [] (LY L) σ2 0 0 Q := by
  have h4 := hw.1.2.2.2.2.2.2.2.2
  have h6 := hw.1.2.2.2.2.1
  obtain ⟨r1, r2, r3⟩ := rolN hw hlt
  have hne : ¬ β 42 w = 0 := by rw [r1, show (0 : Int32) = nI 0 from rfl, nI_eq (by omega) (by decide)]; omega
  intro n
  induction n with
  | zero =>
    intro u hu σ2 l4 l5 a1 a2 a3
    obtain rfl : u = nU β := by omega
    have e4 : σ2 14 4 = nI (nU β) := by rw [a2 14 (by decide)]; exact hs.2.1
    refine ev_iload_n dX3_setBounds_39 rfl ?_
    refine ev_aload_n dX3_setBounds_40 rfl ?_
    refine ev_getI dX3_setBounds_41 fX3_52 ⟨_, rfl, rfl⟩ ?_
    rw [e4]
    refine ev_icmp_ge 139 dX3_setBounds_44 (by decide) (fun c44 => ?_) (fun c44 => absurd (nI_le (by omega) (by omega)) c44)
    exact K σ2 _ _ _ a1 a2 a3
  | succ n ih =>
    intro u hu σ2 l4 l5 a1 a2 a3
    have e4 : σ2 14 4 = nI (nU β) := by rw [a2 14 (by decide)]; exact hs.2.1
    have e24 : σ2 24 w = β 42 w := by rw [a2 24 (by decide), hs.2.2.2.1 w hlt, if_pos hm]
    have f : ∀ c, c ≠ 27 → c ≠ 28 → σ2 c = σ1 c := fun c q _ => a2 c q
    have ei : (nI w * 6 + nI u) * 5 = nI (30 * w + 5 * u) := by
      rw [show (6 : Int32) = nI 6 from rfl, show (5 : Int32) = nI 5 from rfl, pk_mul, nI_add, pk_mul]
      congr 1; omega
    have e5 : nI (30 * w + 5 * u) + 4 = nI (30 * w + 5 * u + 4) := nI_add _ 4
    have t1 := rsB_top (β := β) mv w u 4
    have t2 := mnU_top (β := β) (mv := mv) (w := w) u
    refine ev_iload_n dX3_setBounds_39 rfl ?_
    refine ev_aload_n dX3_setBounds_40 rfl ?_
    refine ev_getI dX3_setBounds_41 fX3_52 ⟨_, rfl, rfl⟩ ?_
    rw [e4]
    refine ev_icmp_ge 139 dX3_setBounds_44 (by decide) (fun c44 => absurd c44 (nI_ge (by omega) (by omega))) (fun c44 => ?_)
    refine ev_aload_n dX3_setBounds_47 rfl ?_
    refine ev_getR dX3_setBounds_48 fX3_24 ⟨_, rfl, rfl⟩ ?_
    refine ev_iload_n dX3_setBounds_51 rfl ?_
    refine ev_iaload dX3_setBounds_52 rfl (vp_in_nI (by omega) (by decide)) ?_
    rw [clN (by omega), e24]
    refine ev_if_eq 139 dX3_setBounds_53 (by decide) (fun c53 => absurd c53 hne) (fun c53 => ?_)
    refine ev_iload_n dX3_setBounds_56 rfl ?_
    refine ev_bipush 6 dX3_setBounds_57 (by decide) ?_
    refine ev_imul dX3_setBounds_59 ?_
    refine ev_iload_n dX3_setBounds_60 rfl ?_
    refine ev_iadd dX3_setBounds_61 ?_
    refine ev_iconst 5 dX3_setBounds_62 (by decide) ?_
    refine ev_imul dX3_setBounds_63 ?_
    rw [ei]
    refine ev_istore dX3_setBounds_64 (by decide) ?_
    refine ev_aload_n dX3_setBounds_66 rfl ?_
    refine ev_getR dX3_setBounds_67 fX3_34 ⟨_, rfl, rfl⟩ ?_
    refine ev_iload dX3_setBounds_70 rfl ?_
    refine ev_iconst 4 dX3_setBounds_72 (by decide) ?_
    refine ev_iadd dX3_setBounds_73 ?_
    rw [e5]
    refine ev_iconst 0 dX3_setBounds_74 (by decide) ?_
    refine ev_iastore dX3_setBounds_75 (by decide) rfl (vp_in_nI (by omega) (by decide)) ?_
    rw [nI_clamp (by omega)]
    refine ev_iconst 3 dX3_setBounds_76 (by decide) ?_
    refine ev_istore dX3_setBounds_77 (by decide) ?_
    refine sb_roles hw ((hs.keep f).keep (σ2 := ai_up σ2 27 (30 * w + 5 * u + 4) 0) (fun c q _ => by rw [ai_up, if_neg q])) ((hk.keep f).keep (σ2 := ai_up σ2 27 (30 * w + 5 * u + 4) 0) (fun c q _ => by rw [ai_up, if_neg q])) hlt hm (by omega) (fun σ3 l5 b1 b2 b3 => ?_) 4 (Nat.le_refl 4) _ (fun r q1 q2 => ?_) (fun _ _ => rfl) (fun _ _ => rfl)
    · have e0 := b1 0 (Nat.le_refl 0) (by omega)
      rw [Nat.add_zero, Nat.sub_zero] at e0
      refine ev_iload_n dX3_setBounds_121 rfl ?_
      refine ev_aload_n dX3_setBounds_122 rfl ?_
      refine ev_getR dX3_setBounds_123 fX3_34 ⟨_, rfl, rfl⟩ ?_
      refine ev_iload dX3_setBounds_126 rfl ?_
      refine ev_iaload dX3_setBounds_128 rfl (vp_in_nI (by omega) (by decide)) ?_
      rw [nI_clamp (by omega), e0]
      refine ev_min dX3_setBounds_129 maX3_116 (Nat.le_of_ble_eq_true rfl) ?_
      rw [min_nI (by omega) (by omega)]
      refine ev_istore_n dX3_setBounds_132 (by decide) ?_
      refine ev_iinc _ dX3_setBounds_133 rfl rfl (by decide) ?_
      rw [show nI u + Int32.ofInt 1 = nI (u + 1) from nI_1 u]
      refine ev_goto 39 dX3_setBounds_136 (by decide) ?_
      refine ih (u + 1) (by omega) σ3 _ _ (fun u' r q1 q2 => ?_) (fun c q => ?_) (fun k q => ?_)
      · by_cases q : u' = u
        · subst q; exact b1 r (by omega) q2
        · rw [b3 _ (by omega)]
          show upd (σ2 27) _ _ _ = _
          rw [upd, if_neg (by omega)]; exact a1 u' r (by omega) q2
      · rw [b2 c q, ai_up, if_neg q]; exact a2 c q
      · rw [b3 _ (by omega)]
        show upd (σ2 27) _ _ _ = _
        rw [upd, if_neg (by omega)]; exact a3 k q
    · obtain rfl : r = 4 := by omega
      show upd (σ2 27) _ _ _ = _
      rw [upd, if_pos rfl]; rfl
def BDp (σ β : ai_M) (m : Nat) (mv : Bool) (n : Nat) : Prop := (∀ w, n ≤ w → w ≤ nW β → σ 28 w = nI (wsB β mv (mS m) (nW β - w))) ∧ ∀ w u r, n ≤ w → w < nW β → m.testBit w = true → u < nU β → r ≤ 4 → σ 27 (30 * w + 5 * u + r) = nI (rsB β mv w u (4 - r))
theorem sb_wishes (hw : WF β) {σ1 : ai_M} (hs : SS σ1 β m) (hk : KP σ1 β mv) {Q : Option Value → ai_L → ai_M → Prop}
    (K : ∀ σ2 : ai_M, BD σ2 β m mv → (∀ c, c ≠ 27 → c ≠ 28 → σ2 c = σ1 c) → Q none (LY L) σ2) :
    ∀ n, n ≤ nW β → ∀ (σ2 : ai_M) (l2 l3 l4 l5 : Option Value), BDp σ2 β m mv n → (∀ c, c ≠ 27 → c ≠ 28 → σ2 c = σ1 c) → ev mX3_setBounds (d + 2) 17 [some (.ref 14), some (.int (dn n)), l2, l3, l4, l5] [] (LY L) σ2 0 0 Q := by
  have h4 := hw.1.2.2.2.2.2.2.2.2
  have h6 := hw.1.2.2.2.2.1
  intro n
  induction n with
  | zero =>
    intro _ σ2 l2 l3 l4 l5 a1 a2
    refine ev_iload_n dX3_setBounds_17 rfl ?_
    refine ev_if_lt 161 dX3_setBounds_18 (by decide) (fun c18 => ?_) (fun c18 => absurd dn_lt c18)
    refine ev_ret dX3_setBounds_161 rfl rfl ?_
    exact K σ2 ⟨fun w q => a1.1 w (by omega) q, fun w u r q => a1.2 w u r (by omega) q⟩ a2
  | succ n ih =>
    intro hn σ2 l2 l3 l4 l5 a1 a2
    show ev mX3_setBounds (d + 2) 17 [some (.ref 14), some (.int (nI n)), l2, l3, l4, l5] [] (LY L) σ2 0 0 Q
    have e24 : σ2 24 n = if m.testBit n then β 42 n else 0 := by rw [a2 24 (by decide) (by decide)]; exact hs.2.2.2.1 n (by omega)
    have e4 : σ2 14 4 = nI (nU β) := by rw [a2 14 (by decide) (by decide)]; exact hs.2.1
    have e1 : nI n + 1 = nI (n + 1) := nI_add n 1
    have ews : wsB β mv (mS m) (nW β - n) = wsB β mv (mS m) (nW β - (n + 1)) + ltB β mv (mS m) n := by
      rw [show nW β - n = (nW β - (n + 1)) + 1 by omega, wsB, show nW β - (nW β - (n + 1) + 1) = n by omega]
    have fin : ∀ (σ3 : ai_M) (l3 l4 l5 : Option Value), (m.testBit n = true → ∀ u r, u < nU β → r ≤ 4 → σ3 27 (30 * n + 5 * u + r) = nI (rsB β mv n u (4 - r))) → (∀ c, c ≠ 27 → σ3 c = σ2 c) → (∀ k, (k < 30 * n ∨ 30 * n + 30 ≤ k) → σ3 27 k = σ2 27 k) → ev mX3_setBounds (d + 2) 139 [some (.ref 14), some (.int (nI n)), some (.int (nI (ltB β mv (mS m) n))), l3, l4, l5] [] (LY L) σ3 0 0 Q := by
      intro σ3 l3 l4 l5 b1 b2 b3
      have e28 : σ3 28 (n + 1) = nI (wsB β mv (mS m) (nW β - (n + 1))) := by rw [b2 28 (by decide)]; exact a1.1 (n + 1) (Nat.le_refl _) hn
      refine ev_aload_n dX3_setBounds_139 rfl ?_
      refine ev_getR dX3_setBounds_140 fX3_37 ⟨_, rfl, rfl⟩ ?_
      refine ev_iload_n dX3_setBounds_143 rfl ?_
      refine ev_aload_n dX3_setBounds_144 rfl ?_
      refine ev_getR dX3_setBounds_145 fX3_37 ⟨_, rfl, rfl⟩ ?_
      refine ev_iload_n dX3_setBounds_148 rfl ?_
      refine ev_iconst 1 dX3_setBounds_149 (by decide) ?_
      refine ev_iadd dX3_setBounds_150 ?_
      rw [e1]
      refine ev_iaload dX3_setBounds_151 rfl (vp_in_nI (by omega) (by decide)) ?_
      rw [clN (by omega), e28]
      refine ev_iload_n dX3_setBounds_152 rfl ?_
      refine ev_iadd dX3_setBounds_153 ?_
      rw [nI_add, ← ews]
      refine ev_iastore dX3_setBounds_154 (by decide) rfl (vp_in_nI (by omega) (by decide)) ?_
      rw [clN (by omega)]
      refine ev_iinc _ dX3_setBounds_155 rfl rfl (by decide) ?_
      rw [dn_dec]
      refine ev_goto 17 dX3_setBounds_158 (by decide) ?_
      refine ih (by omega) _ _ _ _ _ ⟨fun w q1 q2 => ?_, fun w u r q1 q2 q3 q4 q5 => ?_⟩ (fun c q1 q2 => by rw [ai_up, if_neg q2, b2 c q1]; exact a2 c q1 q2)
      · show upd (σ3 28) n _ w = _
        unfold upd
        by_cases q : w = n
        · rw [if_pos q, q]
        · rw [if_neg q, b2 28 (by decide)]; exact a1.1 w (by omega) q2
      · show σ3 27 _ = _
        by_cases q : w = n
        · subst q; exact b1 q3 u r q4 q5
        · rw [b3 _ (by omega)]; exact a1.2 w u r (by omega) q2 q3 q4 q5
    cases hm : m.testBit n with
    | false =>
      rw [hm] at e24
      have elt : ltB β mv (mS m) n = 0 := by unfold ltB; rw [show mS m n = m.testBit n from rfl, hm]; rfl
      rw [elt] at fin
      refine ev_iload_n dX3_setBounds_17 rfl ?_
      refine ev_if_lt 161 dX3_setBounds_18 (by decide) (fun c18 => absurd c18 (nI_nn (by omega))) (fun c18 => ?_)
      refine ev_aload_n dX3_setBounds_21 rfl ?_
      refine ev_getR dX3_setBounds_22 fX3_24 ⟨_, rfl, rfl⟩ ?_
      refine ev_iload_n dX3_setBounds_25 rfl ?_
      refine ev_iaload dX3_setBounds_26 rfl (vp_in_nI (by omega) (by decide)) ?_
      rw [clN (by omega), e24]
      refine ev_if_ne 34 dX3_setBounds_27 (by decide) (fun c27 => absurd rfl c27) (fun c27 => ?_)
      refine ev_iconst 0 dX3_setBounds_30 (by decide) ?_
      refine ev_goto 36 dX3_setBounds_31 (by decide) ?_
      refine ev_istore_n dX3_setBounds_36 (by decide) ?_
      refine ev_iconst 0 dX3_setBounds_37 (by decide) ?_
      refine ev_istore_n dX3_setBounds_38 (by decide) ?_
      refine ev_iload_n dX3_setBounds_39 rfl ?_
      refine ev_aload_n dX3_setBounds_40 rfl ?_
      refine ev_getI dX3_setBounds_41 fX3_52 ⟨_, rfl, rfl⟩ ?_
      rw [e4]
      refine ev_icmp_ge 139 dX3_setBounds_44 (by decide) (fun c44 => ?_) (fun c44 => ?_)
      · exact fin σ2 _ _ _ (fun z => absurd (hm.symm.trans z) (by decide)) (fun _ _ => rfl) (fun _ _ => rfl)
      · refine ev_aload_n dX3_setBounds_47 rfl ?_
        refine ev_getR dX3_setBounds_48 fX3_24 ⟨_, rfl, rfl⟩ ?_
        refine ev_iload_n dX3_setBounds_51 rfl ?_
        refine ev_iaload dX3_setBounds_52 rfl (vp_in_nI (by omega) (by decide)) ?_
        rw [clN (by omega), e24]
        refine ev_if_eq 139 dX3_setBounds_53 (by decide) (fun c53 => ?_) (fun c53 => absurd rfl c53)
        exact fin σ2 _ _ _ (fun z => absurd (hm.symm.trans z) (by decide)) (fun _ _ => rfl) (fun _ _ => rfl)
    | true =>
      rw [hm, if_pos rfl] at e24
      have elt : ltB β mv (mS m) n = mnU β mv n (nU β) := by unfold ltB; rw [show mS m n = m.testBit n from rfl, hm]; rfl
      rw [elt] at fin
      obtain ⟨r1, r2, r3⟩ := rolN hw (w := n) (by omega)
      have hne : ¬ β 42 n = 0 := by rw [r1, show (0 : Int32) = nI 0 from rfl, nI_eq (by omega) (by decide)]; omega
      refine ev_iload_n dX3_setBounds_17 rfl ?_
      refine ev_if_lt 161 dX3_setBounds_18 (by decide) (fun c18 => absurd c18 (nI_nn (by omega))) (fun c18 => ?_)
      refine ev_aload_n dX3_setBounds_21 rfl ?_
      refine ev_getR dX3_setBounds_22 fX3_24 ⟨_, rfl, rfl⟩ ?_
      refine ev_iload_n dX3_setBounds_25 rfl ?_
      refine ev_iaload dX3_setBounds_26 rfl (vp_in_nI (by omega) (by decide)) ?_
      rw [clN (by omega), e24]
      refine ev_if_ne 34 dX3_setBounds_27 (by decide) (fun c27 => ?_) (fun c27 => absurd c27 hne)
      refine ev_ldc 1000000 dX3_setBounds_34 kX3_124 ?_
      refine ev_istore_n dX3_setBounds_36 (by decide) ?_
      refine ev_iconst 0 dX3_setBounds_37 (by decide) ?_
      refine ev_istore_n dX3_setBounds_38 (by decide) ?_
      exact sb_units hw (hs.keep a2) (hk.keep a2) (by omega) hm (fun σ3 l3 l4 l5 b1 b2 b3 => fin σ3 l3 l4 l5 (fun _ => b1) b2 b3) (nU β) 0 (by omega) σ2 _ _ (fun u' r q => by omega) (fun _ _ => rfl) (fun _ _ => rfl)
theorem t_setBounds (hw : WF β) {σ : ai_M} (hs : SS σ β m) (hk : KP σ β mv) : ev mX3_setBounds (d + 2) 0 [some (.ref 14), none, none, none, none, none] [] (LY L) σ 0 0 (Rv (LY L) (fun σ2 => BD σ2 β m mv ∧ ∀ c, c ≠ 27 → c ≠ 28 → σ2 c = σ c)) := by
  have h4 := hw.1.2.2.2.2.2.2.2.2
  refine ev_aload_n dX3_setBounds_0 rfl ?_
  refine ev_getR dX3_setBounds_1 fX3_37 ⟨_, rfl, rfl⟩ ?_
  refine ev_aload_n dX3_setBounds_4 rfl ?_
  refine ev_getI dX3_setBounds_5 fX3_46 ⟨_, rfl, rfl⟩ ?_
  rw [hs.1]
  refine ev_iconst 0 dX3_setBounds_8 (by decide) ?_
  refine ev_iastore dX3_setBounds_9 (by decide) rfl (vp_in_nI (by omega) (by decide)) ?_
  rw [clN (by omega)]
  refine ev_aload_n dX3_setBounds_10 rfl ?_
  refine ev_getI dX3_setBounds_11 fX3_46 ⟨_, rfl, rfl⟩ ?_
  rw [show (ai_up σ 28 (nW β) 0) 14 3 = _ from hs.1]
  refine ev_iconst 1 dX3_setBounds_14 (by decide) ?_
  refine ev_isub dX3_setBounds_15 ?_
  rw [dn_sub]
  refine ev_istore_n dX3_setBounds_16 (by decide) ?_
  refine sb_wishes hw (hs.keep (σ2 := ai_up σ 28 (nW β) 0) (fun c _ q => by rw [ai_up, if_neg q])) (hk.keep (σ2 := ai_up σ 28 (nW β) 0) (fun c _ q => by rw [ai_up, if_neg q])) (fun σ2 b1 b2 => Rv.mk ⟨b1, fun c q1 q2 => by rw [b2 c q1 q2, ai_up, if_neg q2]⟩) (nW β) (Nat.le_refl _) _ _ _ _ _ ⟨fun w q1 q2 => ?_, fun w u r q1 q2 => by omega⟩ (fun _ _ _ => rfl)
  obtain rfl : w = nW β := by omega
  show upd (σ 28) _ _ _ = _
  rw [upd, if_pos rfl, Nat.sub_self]; rfl
end SB
