/-! aim: what the search looks at -/
def wsK (β : ai_M) (m k : Nat) : Bool := m.testBit (k / 4) && rol β (k / 4) (k % 4)
def lsN (β : ai_M) (m : Nat) : Nat → Int32
  | 0 => -6
  | k + 1 => if wsK β m k then nI k else lsN β m k
theorem lsN_S {β : ai_M} {m w j : Nat} (hj : j < 4) : lsN β m (4 * w + j + 1) = if m.testBit w && rol β w j then nI (4 * w + j) else lsN β m (4 * w + j) := by
  rw [lsN, wsK, show (4 * w + j) / 4 = w by omega, show (4 * w + j) % 4 = j by omega]
def enB (β : ai_M) (m n : Nat) : Bool := (List.range n).all (fun w => !m.testBit w || decide (okW β (β 41 w) m (nW β) ≤ okC β (β 41 w) (nU β)))
theorem enB_S (β : ai_M) (m n : Nat) : enB β m (n + 1) = (enB β m n && (!m.testBit n || decide (okW β (β 41 n) m (nW β) ≤ okC β (β 41 n) (nU β)))) := by
  unfold enB
  rw [List.range_succ, List.all_append]
  simp
theorem bI_and {p q : Prop} [Decidable p] [Decidable q] : bI p &&& bI q = bI (p ∧ q) := by
  unfold bI
  by_cases hp : p <;> by_cases hq : q <;> simp [hp, hq]
theorem RB.keep {σ σ' β : ai_M} (h : RB σ β) (e : ∀ c, (3 ≤ c ∧ c ≤ 13) ∨ (29 ≤ c ∧ c ≤ 31) → σ' c = σ c) : RB σ' β := by
  unfold RB rcN rcV rcK rcU rcA rcW rcX rcH
  rw [e 3 (by omega), e 4 (by omega), e 5 (by omega), e 6 (by omega), e 7 (by omega), e 8 (by omega), e 9 (by omega), e 10 (by omega), e 11 (by omega), e 12 (by omega), e 13 (by omega), e 29 (by omega), e 30 (by omega), e 31 (by omega)]
  exact h
section AIM
variable {σ β : ai_M} {d L m : Nat}
theorem t_wantsR (hw : WF β) (h : RB σ β) {w r : Nat} (hlt : w < nW β) (hr : r < 4) : ev mX0_wants (d + 1) 0 [some (.ref 8), some (.int (nI w)), some (.int (nI r))] [] (LY L) σ 0 0 (Rp (LY L) σ (bI (rol β w r = true))) := by
  have h4 := hw.1.2.2.2.2.2.2.2.2
  have := t_wants (σ := σ) (d := d) (L := L) (w := nI w) (x := nI r) (vp_in_nI (by omega) (by decide))
  obtain ⟨r1, r2, -⟩ := rolN hw hlt
  have hb := bit_0 (a := (β 42 w).toNatClampNeg) (f := r) (by omega) (by omega)
  rw [← r1] at hb
  rw [clN (by omega), (h.2.2.2.2.2.1 w hlt).2.1, bI_congr (show (inR (nI r) 4 ∧ ¬ (β 42 w >>> (nI r &&& 31)) &&& 1 = 0) ↔ rol β w r = true by
    rw [hb, inR, nI_toInt (by omega)]
    unfold rol
    constructor
    · intro q; simpa using q.2
    · intro q; exact ⟨⟨by omega, by omega⟩, by simp [q]⟩)] at this
  exact this
theorem aa_steps (hw : WF β) {σ0 : ai_M} (h : RB σ0 β) (e5 : σ0 14 5 = nI (nF β)) {w : Nat} (hlt : w < nW β) {Q : Option Value → ai_L → ai_M → Prop} {l5 : Option Value}
    (K : ∀ (σ1 : ai_M) (l4 : Option Value), (∀ f, f < nF β → σ1 26 (16 * w + f) = nI (cst β w f)) → (∀ k, (k < 16 * w ∨ 16 * w + 16 ≤ k) → σ1 26 k = σ0 26 k) → (∀ c, c ≠ 26 → σ1 c = σ0 c) → ev mX3_aimAt (d + 2) 42 [some (.ref 14), some (.ref 3), some (.ref 8), some (.int (nI w)), l4, l5] [] (LY L) σ1 0 0 Q) :
    ∀ n i, i + n = nF β → ∀ (σ1 : ai_M), (∀ f, f < i → σ1 26 (16 * w + f) = nI (cst β w f)) → (∀ k, (k < 16 * w ∨ 16 * w + 16 ≤ k) → σ1 26 k = σ0 26 k) → (∀ c, c ≠ 26 → σ1 c = σ0 c) → ev mX3_aimAt (d + 2) 3 [some (.ref 14), some (.ref 3), some (.ref 8), some (.int (nI w)), some (.int (nI i)), l5] [] (LY L) σ1 0 0 Q := by
  have h4 := hw.1.2.2.2.2.2.2.2.2
  have h16 := hw.1.2.2.1
  obtain ⟨p, hp1, hp2⟩ := (hw.2.2.1 w hlt).2
  intro n
  induction n with
  | zero =>
    intro i hi σ1 a1 a2 a3
    obtain rfl : i = nF β := by omega
    have e5' : σ1 14 5 = nI (nF β) := by rw [a3 14 (by decide)]; exact e5
    refine ev_iload dX3_aimAt_3 rfl ?_
    refine ev_aload_n dX3_aimAt_5 rfl ?_
    refine ev_getI dX3_aimAt_6 fX3_56 ⟨_, rfl, rfl⟩ ?_
    rw [e5']
    refine ev_icmp_ge 42 dX3_aimAt_9 (by decide) (fun c9 => ?_) (fun c9 => absurd (nI_le (by omega) (by omega)) c9)
    exact K σ1 _ a1 a2 a3
  | succ n ih =>
    intro i hi σ1 a1 a2 a3
    have e5' : σ1 14 5 = nI (nF β) := by rw [a3 14 (by decide)]; exact e5
    have h1 : RB σ1 β := h.keep (fun c q => a3 c (by omega))
    have e12 : σ1 12 w = nI p := by rw [(h1.2.2.2.2.2.1 w hlt).2.2.2]; exact hp2
    have ei : nI w * 16 + nI i = nI (16 * w + i) := by rw [show (16 : Int32) = nI 16 from rfl, pk_mul, nI_add, Nat.mul_comm]
    have ec : stp (nF β) i p = cst β w i := by unfold cst; rw [hp2, clN (by omega)]
    refine ev_iload dX3_aimAt_3 rfl ?_
    refine ev_aload_n dX3_aimAt_5 rfl ?_
    refine ev_getI dX3_aimAt_6 fX3_56 ⟨_, rfl, rfl⟩ ?_
    rw [e5']
    refine ev_icmp_ge 42 dX3_aimAt_9 (by decide) (fun c9 => absurd c9 (nI_ge (by omega) (by omega))) (fun c9 => ?_)
    refine ev_aload_n dX3_aimAt_12 rfl ?_
    refine ev_getR dX3_aimAt_13 fX3_31 ⟨_, rfl, rfl⟩ ?_
    refine ev_iload_n dX3_aimAt_16 rfl ?_
    refine ev_bipush 16 dX3_aimAt_17 (by decide) ?_
    refine ev_imul dX3_aimAt_19 ?_
    refine ev_iload dX3_aimAt_20 rfl ?_
    refine ev_iadd dX3_aimAt_22 ?_
    rw [ei]
    refine ev_aload_n dX3_aimAt_23 rfl ?_
    refine ev_aload_n dX3_aimAt_24 rfl ?_
    refine ev_getR dX3_aimAt_25 fX3_82 ⟨_, rfl, rfl⟩ ?_
    refine ev_iload_n dX3_aimAt_28 rfl ?_
    refine ev_iaload dX3_aimAt_29 rfl (vp_in_nI (by omega) (by decide)) ?_
    rw [clN (by omega), e12]
    refine ev_iload dX3_aimAt_30 rfl ?_
    refine cVp2 dX3_aimAt_32 VX3_85 ⟨_, rfl⟩ rfl rfl rfl (t_csteps hw h1.1 (by omega) hp1) ?_
    rw [ec]
    refine ev_iastore dX3_aimAt_35 (by decide) rfl (vp_in_nI (by omega) (by decide)) ?_
    rw [clN (by omega)]
    refine ev_iinc _ dX3_aimAt_36 rfl rfl (by decide) ?_
    rw [show nI i + Int32.ofInt 1 = nI (i + 1) from nI_1 i]
    refine ev_goto 3 dX3_aimAt_39 (by decide) ?_
    refine ih (i + 1) (by omega) _ (fun f hf => ?_) (fun k hk => ?_) (fun c q => by rw [ai_up, if_neg q]; exact a3 c q)
    · show upd (σ1 26) _ _ _ = _
      unfold upd
      by_cases q : f = i
      · rw [if_pos (by omega), q]
      · rw [if_neg (by omega)]; exact a1 f (by omega)
    · show upd (σ1 26) _ _ _ = _
      rw [upd, if_neg (by omega)]; exact a2 k hk
theorem aa_units (hw : WF β) {σ0 : ai_M} (h : RB σ0 β) (e4 : σ0 14 4 = nI (nU β)) {w r : Nat} (hlt : w < nW β) (hr : r < 4) {Q : Option Value → ai_L → ai_M → Prop}
    (K : ∀ (σ1 : ai_M) (l5 : Option Value), (∀ u, u < nU β → σ1 25 (24 * w + 4 * u + r) = nI (mk (opB β w u r) 16)) → (∀ k, (∀ u, u < 6 → k ≠ 24 * w + 4 * u + r) → σ1 25 k = σ0 25 k) → (∀ c, c ≠ 25 → σ1 c = σ0 c) → ev mX3_aimAt (d + 2) 116 [some (.ref 14), some (.ref 3), some (.ref 8), some (.int (nI w)), some (.int (nI r)), l5] [] (LY L) σ1 0 0 Q) :
    ∀ n i, i + n = nU β → ∀ (σ1 : ai_M), (∀ u, u < i → σ1 25 (24 * w + 4 * u + r) = nI (mk (opB β w u r) 16)) → (∀ k, (∀ u, u < 6 → k ≠ 24 * w + 4 * u + r) → σ1 25 k = σ0 25 k) → (∀ c, c ≠ 25 → σ1 c = σ0 c) → ev mX3_aimAt (d + 2) 74 [some (.ref 14), some (.ref 3), some (.ref 8), some (.int (nI w)), some (.int (nI r)), some (.int (nI i))] [] (LY L) σ1 0 0 Q := by
  have h4 := hw.1.2.2.2.2.2.2.2.2
  have h6 := hw.1.2.2.2.2.1
  intro n
  induction n with
  | zero =>
    intro i hi σ1 a1 a2 a3
    obtain rfl : i = nU β := by omega
    have e4' : σ1 14 4 = nI (nU β) := by rw [a3 14 (by decide)]; exact e4
    refine ev_iload dX3_aimAt_74 rfl ?_
    refine ev_aload_n dX3_aimAt_76 rfl ?_
    refine ev_getI dX3_aimAt_77 fX3_52 ⟨_, rfl, rfl⟩ ?_
    rw [e4']
    refine ev_icmp_ge 116 dX3_aimAt_80 (by decide) (fun c80 => ?_) (fun c80 => absurd (nI_le (by omega) (by omega)) c80)
    exact K σ1 _ a1 a2 a3
  | succ n ih =>
    intro i hi σ1 a1 a2 a3
    have e4' : σ1 14 4 = nI (nU β) := by rw [a3 14 (by decide)]; exact e4
    have h1 : RB σ1 β := h.keep (fun c q => a3 c (by omega))
    have ei : (nI w * 6 + nI i) * 4 + nI r = nI (24 * w + 4 * i + r) := by
      rw [show (6 : Int32) = nI 6 from rfl, show (4 : Int32) = nI 4 from rfl, pk_mul, nI_add, pk_mul, nI_add]
      congr 1; omega
    refine ev_iload dX3_aimAt_74 rfl ?_
    refine ev_aload_n dX3_aimAt_76 rfl ?_
    refine ev_getI dX3_aimAt_77 fX3_52 ⟨_, rfl, rfl⟩ ?_
    rw [e4']
    refine ev_icmp_ge 116 dX3_aimAt_80 (by decide) (fun c80 => absurd c80 (nI_ge (by omega) (by omega))) (fun c80 => ?_)
    refine ev_aload_n dX3_aimAt_83 rfl ?_
    refine ev_getR dX3_aimAt_84 fX3_28 ⟨_, rfl, rfl⟩ ?_
    refine ev_iload_n dX3_aimAt_87 rfl ?_
    refine ev_bipush 6 dX3_aimAt_88 (by decide) ?_
    refine ev_imul dX3_aimAt_90 ?_
    refine ev_iload dX3_aimAt_91 rfl ?_
    refine ev_iadd dX3_aimAt_93 ?_
    refine ev_iconst 4 dX3_aimAt_94 (by decide) ?_
    refine ev_imul dX3_aimAt_95 ?_
    refine ev_iload dX3_aimAt_96 rfl ?_
    refine ev_iadd dX3_aimAt_98 ?_
    rw [ei]
    refine ev_aload_n dX3_aimAt_99 rfl ?_
    refine ev_aload_n dX3_aimAt_100 rfl ?_
    refine ev_iload_n dX3_aimAt_101 rfl ?_
    refine ev_iload dX3_aimAt_102 rfl ?_
    refine ev_iload dX3_aimAt_104 rfl ?_
    refine cVp4 dX3_aimAt_106 VX3_91 ⟨_, rfl⟩ rfl rfl rfl rfl rfl (t_openFeet hw h1 hlt (by omega) hr) ?_
    refine ev_iastore dX3_aimAt_109 (by decide) rfl (vp_in_nI (by omega) (by decide)) ?_
    rw [nI_clamp (by omega)]
    refine ev_iinc _ dX3_aimAt_110 rfl rfl (by decide) ?_
    rw [show nI i + Int32.ofInt 1 = nI (i + 1) from nI_1 i]
    refine ev_goto 74 dX3_aimAt_113 (by decide) ?_
    refine ih (i + 1) (by omega) _ (fun u hu => ?_) (fun k hk => ?_) (fun c q => by rw [ai_up, if_neg q]; exact a3 c q)
    · show upd (σ1 25) _ _ _ = _
      unfold upd
      by_cases q : u = i
      · rw [if_pos (by omega), q]
      · rw [if_neg (by omega)]; exact a1 u (by omega)
    · show upd (σ1 25) _ _ _ = _
      rw [upd, if_neg (hk i (by omega))]; exact a2 k hk
/-- what stands behind aimAt's roles, j of them -/
def aaR (σ0 β : ai_M) (m w j : Nat) (σ1 : ai_M) : Prop := (∀ u r, u < nU β → r < j → σ1 25 (24 * w + 4 * u + r) = nI (mk (opB β w u r) 16)) ∧ (∀ k, (k < 24 * w ∨ 24 * w + 24 ≤ k) → σ1 25 k = σ0 25 k) ∧ (∀ c, c ≠ 14 → c ≠ 25 → σ1 c = σ0 c) ∧ (∀ k, k ≠ 11 → σ1 14 k = σ0 14 k) ∧ σ1 14 11 = lsN β m (4 * w + j)
theorem aa_roles (hw : WF β) {σ0 : ai_M} (h : RB σ0 β) (e4 : σ0 14 4 = nI (nU β)) {w : Nat} (hlt : w < nW β) (hm : m.testBit w = true) :
    ∀ n j, j + n = 4 → ∀ (σ1 : ai_M) (l5 : Option Value), aaR σ0 β m w j σ1 → ev mX3_aimAt (d + 2) 45 [some (.ref 14), some (.ref 3), some (.ref 8), some (.int (nI w)), some (.int (nI j)), l5] [] (LY L) σ1 0 0 (Rv (LY L) (aaR σ0 β m w 4)) := by
  have h4 := hw.1.2.2.2.2.2.2.2.2
  have h6 := hw.1.2.2.2.2.1
  intro n
  induction n with
  | zero =>
    intro j hj σ1 l5 ha
    obtain rfl : j = 4 := by omega
    refine ev_iload dX3_aimAt_45 rfl ?_
    refine ev_iconst 4 dX3_aimAt_47 (by decide) ?_
    refine ev_icmp_ge 122 dX3_aimAt_48 (by decide) (fun c48 => ?_) (fun c48 => absurd (nI_le (a := 4) (b := 4) (by omega) (by decide)) c48)
    refine ev_ret dX3_aimAt_122 rfl rfl ?_
    exact Rv.mk ha
  | succ n ih =>
    intro j hj σ1 l5 ha
    obtain ⟨a1, a2, a3, a4, a5⟩ := id ha
    have h1 : RB σ1 β := h.keep (fun c q => a3 c (by omega) (by omega))
    have e4' : σ1 14 4 = nI (nU β) := by rw [a4 4 (by decide)]; exact e4
    have ei : nI w * 4 + nI j = nI (4 * w + j) := by rw [show (4 : Int32) = nI 4 from rfl, pk_mul, nI_add, Nat.mul_comm]
    have fin : ∀ σ2 : ai_M, (∀ c, c ≠ 14 → σ2 c = σ1 c) → (∀ k, k ≠ 11 → σ2 14 k = σ1 14 k) → σ2 14 11 = lsN β m (4 * w + j + 1) → ev mX3_aimAt (d + 2) 71 [some (.ref 14), some (.ref 3), some (.ref 8), some (.int (nI w)), some (.int (nI j)), l5] [] (LY L) σ2 0 0 (Rv (LY L) (aaR σ0 β m w 4)) := by
      intro σ2 b1 b2 b3
      have h2 : RB σ2 β := h1.keep (fun c q => b1 c (by omega))
      refine ev_iconst 0 dX3_aimAt_71 (by decide) ?_
      refine ev_istore dX3_aimAt_72 (by decide) ?_
      refine aa_units hw h2 (by rw [b2 4 (by decide)]; exact e4') hlt (by omega) (fun σ3 q5 k1 k2 k3 => ?_) (nU β) 0 (by omega) σ2 (fun u q => by omega) (fun _ _ => rfl) (fun _ _ => rfl)
      refine ev_iinc _ dX3_aimAt_116 rfl rfl (by decide) ?_
      rw [show nI j + Int32.ofInt 1 = nI (j + 1) from nI_1 j]
      refine ev_goto 45 dX3_aimAt_119 (by decide) ?_
      refine ih (j + 1) (by omega) σ3 _ ⟨fun u r hu hr => ?_, fun k hk => ?_, fun c q1 q2 => ?_, fun k q => ?_, ?_⟩
      · by_cases q : r = j
        · subst q; exact k1 u hu
        · rw [k2 _ (fun u' hu' => by omega), b1 25 (by decide)]; exact a1 u r hu (by omega)
      · rw [k2 _ (fun u' hu' => by omega), b1 25 (by decide)]; exact a2 k hk
      · rw [k3 c q2, b1 c q1]; exact a3 c q1 q2
      · rw [k3 14 (by decide), b2 k q]; exact a4 k q
      · rw [k3 14 (by decide)]; exact b3
    have es := lsN_S (β := β) (m := m) (w := w) (j := j) (by omega)
    rw [hm, Bool.true_and] at es
    cases hrol : rol β w j with
    | true =>
      rw [hrol, if_pos rfl] at es
      refine ev_iload dX3_aimAt_45 rfl ?_
      refine ev_iconst 4 dX3_aimAt_47 (by decide) ?_
      refine ev_icmp_ge 122 dX3_aimAt_48 (by decide) (fun c48 => absurd c48 (nI_ge (b := 4) (by omega) (by decide))) (fun c48 => ?_)
      refine ev_aload_n dX3_aimAt_51 rfl ?_
      refine ev_iload_n dX3_aimAt_52 rfl ?_
      refine ev_iload dX3_aimAt_53 rfl ?_
      refine cVp2 dX3_aimAt_55 VX3_87 ⟨_, rfl⟩ rfl rfl rfl (t_wantsR hw h1 hlt (by omega)) ?_
      refine ev_if_eq 71 dX3_aimAt_58 (by decide) (fun c58 => absurd c58 (bI_n.mpr hrol)) (fun c58 => ?_)
      refine ev_aload_n dX3_aimAt_61 rfl ?_
      refine ev_iload_n dX3_aimAt_62 rfl ?_
      refine ev_iconst 4 dX3_aimAt_63 (by decide) ?_
      refine ev_imul dX3_aimAt_64 ?_
      refine ev_iload dX3_aimAt_65 rfl ?_
      refine ev_iadd dX3_aimAt_67 ?_
      rw [ei]
      refine ev_putI dX3_aimAt_68 fX3_57 ⟨_, rfl, rfl⟩ rfl rfl ?_
      exact fin _ (fun c q => by rw [ai_up, if_neg q]) (fun k q => by rw [ai_up, if_pos rfl, upd, if_neg q]) (by rw [es]; rfl)
    | false =>
      rw [hrol, if_neg (by decide)] at es
      refine ev_iload dX3_aimAt_45 rfl ?_
      refine ev_iconst 4 dX3_aimAt_47 (by decide) ?_
      refine ev_icmp_ge 122 dX3_aimAt_48 (by decide) (fun c48 => absurd c48 (nI_ge (b := 4) (by omega) (by decide))) (fun c48 => ?_)
      refine ev_aload_n dX3_aimAt_51 rfl ?_
      refine ev_iload_n dX3_aimAt_52 rfl ?_
      refine ev_iload dX3_aimAt_53 rfl ?_
      refine cVp2 dX3_aimAt_55 VX3_87 ⟨_, rfl⟩ rfl rfl rfl (t_wantsR hw h1 hlt (by omega)) ?_
      refine ev_if_eq 71 dX3_aimAt_58 (by decide) (fun c58 => ?_) (fun c58 => absurd (bI_0.mpr (by rw [hrol]; decide)) c58)
      exact fin _ (fun c q => rfl) (fun k q => rfl) (by rw [es]; exact a5)
def aaP (σ0 β : ai_M) (m w : Nat) (σ1 : ai_M) : Prop := (∀ u r, u < nU β → r < 4 → σ1 25 (24 * w + 4 * u + r) = nI (mk (opB β w u r) 16)) ∧ (∀ k, (k < 24 * w ∨ 24 * w + 24 ≤ k) → σ1 25 k = σ0 25 k) ∧ (∀ c, c ≠ 14 → c ≠ 25 → c ≠ 26 → σ1 c = σ0 c) ∧ (∀ k, k ≠ 11 → σ1 14 k = σ0 14 k) ∧ σ1 14 11 = lsN β m (4 * w + 4) ∧ (∀ f, f < nF β → σ1 26 (16 * w + f) = nI (cst β w f)) ∧ ∀ k, (k < 16 * w ∨ 16 * w + 16 ≤ k) → σ1 26 k = σ0 26 k
theorem t_aimAt (hw : WF β) (h : RB σ β) (e4 : σ 14 4 = nI (nU β)) (e5 : σ 14 5 = nI (nF β)) {w : Nat} (hlt : w < nW β) (hm : m.testBit w = true) (e11 : σ 14 11 = lsN β m (4 * w)) : ev mX3_aimAt (d + 2) 0 [some (.ref 14), some (.ref 3), some (.ref 8), some (.int (nI w)), none, none] [] (LY L) σ 0 0 (Rv (LY L) (aaP σ β m w)) := by
  refine ev_iconst 0 dX3_aimAt_0 (by decide) ?_
  refine ev_istore dX3_aimAt_1 (by decide) ?_
  refine aa_steps hw h e5 hlt (fun σ1 l4 a1 a2 a3 => ?_) (nF β) 0 (by omega) σ (fun f q => by omega) (fun _ _ => rfl) (fun _ _ => rfl)
  refine ev_iconst 0 dX3_aimAt_42 (by decide) ?_
  refine ev_istore dX3_aimAt_43 (by decide) ?_
  have h1 : RB σ1 β := h.keep (fun c q => a3 c (by omega))
  refine (aa_roles hw h1 (by rw [a3 14 (by decide)]; exact e4) hlt hm 4 0 rfl σ1 _ ⟨fun u r _ q => by omega, fun _ _ => rfl, fun _ _ _ => rfl, fun _ _ => rfl, by rw [a3 14 (by decide)]; exact e11⟩).mono ?_
  rintro _ _ σ2 ⟨rfl, rfl, k1, k2, k3, k4, k5⟩
  exact Rv.mk ⟨k1, fun k q => by rw [k2 k q, a3 25 (by decide)], fun c q1 q2 q3 => by rw [k3 c q1 q2, a3 c q3], fun k q => by rw [k4 k q, a3 14 (by decide)], k5, fun f q => by rw [k3 26 (by decide) (by decide)]; exact a1 f q, fun k q => by rw [k3 26 (by decide) (by decide)]; exact a2 k q⟩
/-- aim, i wishes of it -/
def amP (σ0 β : ai_M) (m i : Nat) (σ1 : ai_M) : Prop := (∀ c, c ≠ 14 → (c < 24 ∨ 26 < c) → σ1 c = σ0 c) ∧ (∀ k, k ≠ 11 → k ≠ 12 → σ1 14 k = σ0 14 k) ∧ σ1 14 11 = lsN β m (4 * i) ∧ σ1 14 12 = bI (enB β m i = true) ∧ (∀ w, w < i → σ1 24 w = if m.testBit w then β 42 w else 0) ∧ ∀ w, w < i → m.testBit w = true → (∀ f, f < nF β → σ1 26 (16 * w + f) = nI (cst β w f)) ∧ ∀ u r, u < nU β → r < 4 → σ1 25 (24 * w + 4 * u + r) = nI (mk (opB β w u r) 16)
theorem aim_loop (hw : WF β) {σ0 : ai_M} (h : RB σ0 β) (e3 : σ0 14 3 = nI (nW β)) (e4 : σ0 14 4 = nI (nU β)) (e5 : σ0 14 5 = nI (nF β)) (hm31 : m < 2 ^ 31) :
    ∀ n i, i + n = nW β → ∀ (σ1 : ai_M) (l5 : Option Value), amP σ0 β m i σ1 → ev mX3_aim (d + 3) 45 [some (.ref 14), some (.ref 3), some (.ref 8), some (.int (nI m)), some (.int (nI i)), l5] [] (LY L) σ1 0 0 (Rv (LY L) (amP σ0 β m (nW β))) := by
  have h4 := hw.1.2.2.2.2.2.2.2.2
  have h6 := hw.1.2.2.2.2.1
  intro n
  induction n with
  | zero =>
    intro i hi σ1 l5 ha
    obtain rfl : i = nW β := by omega
    have e3' : σ1 14 3 = nI (nW β) := by rw [ha.2.1 3 (by decide) (by decide)]; exact e3
    refine ev_iload dX3_aim_45 rfl ?_
    refine ev_aload_n dX3_aim_47 rfl ?_
    refine ev_getI dX3_aim_48 fX3_46 ⟨_, rfl, rfl⟩ ?_
    rw [e3']
    refine ev_icmp_ge 143 dX3_aim_51 (by decide) (fun c51 => ?_) (fun c51 => absurd (nI_le (by omega) (by omega)) c51)
    refine ev_ret dX3_aim_143 rfl rfl ?_
    exact Rv.mk ha
  | succ n ih =>
    intro i hi σ1 l5 ha
    obtain ⟨a1, a2, a3, a4, a5, a6⟩ := id ha
    have h1 : RB σ1 β := h.keep (fun c q => a1 c (by omega) (by omega))
    have e3' : σ1 14 3 = nI (nW β) := by rw [a2 3 (by decide) (by decide)]; exact e3
    have hb := bit_0 (a := m) (f := i) hm31 (by omega)
    have hwr := h1.2.2.2.2.2.1 i (by omega)
    have hin : vp_in (nI i) 4 := vp_in_nI (by omega) (by decide)
    have ic : (nI i).toNatClampNeg = i := clN (by omega)
    have en := enB_S β m i
    have s0 := lsN_S (β := β) (m := m) (w := i) (j := 0) (by decide)
    have s1 := lsN_S (β := β) (m := m) (w := i) (j := 1) (by decide)
    have s2 := lsN_S (β := β) (m := m) (w := i) (j := 2) (by decide)
    have s3 := lsN_S (β := β) (m := m) (w := i) (j := 3) (by decide)
    cases hm : m.testBit i with
    | false =>
      rw [hm] at s0 s1 s2 s3 en
      have elast : lsN β m (4 * (i + 1)) = lsN β m (4 * i) := by
        rw [show 4 * (i + 1) = 4 * i + 3 + 1 by omega, s3, if_neg (by simp), show 4 * i + 3 = 4 * i + 2 + 1 by omega, s2, if_neg (by simp), show 4 * i + 2 = 4 * i + 1 + 1 by omega, s1, if_neg (by simp), show 4 * i + 1 = 4 * i + 0 + 1 by omega, s0, if_neg (by simp), Nat.add_zero]
      refine ev_iload dX3_aim_45 rfl ?_
      refine ev_aload_n dX3_aim_47 rfl ?_
      refine ev_getI dX3_aim_48 fX3_46 ⟨_, rfl, rfl⟩ ?_
      rw [e3']
      refine ev_icmp_ge 143 dX3_aim_51 (by decide) (fun c51 => absurd c51 (nI_ge (by omega) (by omega))) (fun c51 => ?_)
      refine ev_iload_n dX3_aim_54 rfl ?_
      refine ev_iload dX3_aim_55 rfl ?_
      refine ev_ishr dX3_aim_57 ?_
      refine ev_iconst 1 dX3_aim_58 (by decide) ?_
      refine ev_iand dX3_aim_59 ?_
      refine ev_if_eq 67 dX3_aim_60 (by decide) (fun c60 => ?_) (fun c60 => absurd (hb.mpr hm) c60)
      refine ev_iconst 0 dX3_aim_67 (by decide) ?_
      refine ev_istore dX3_aim_68 (by decide) ?_
      refine ev_aload_n dX3_aim_70 rfl ?_
      refine ev_getR dX3_aim_71 fX3_24 ⟨_, rfl, rfl⟩ ?_
      refine ev_iload dX3_aim_74 rfl ?_
      refine ev_iload dX3_aim_76 rfl ?_
      refine ev_if_eq 91 dX3_aim_78 (by decide) (fun c78 => ?_) (fun c78 => absurd rfl c78)
      refine ev_iconst 0 dX3_aim_91 (by decide) ?_
      refine ev_iastore dX3_aim_92 (by decide) rfl hin ?_
      rw [ic]
      refine ev_iload dX3_aim_93 rfl ?_
      refine ev_if_eq 137 dX3_aim_95 (by decide) (fun c95 => ?_) (fun c95 => absurd rfl c95)
      refine ev_iinc _ dX3_aim_137 rfl rfl (by decide) ?_
      rw [show nI i + Int32.ofInt 1 = nI (i + 1) from nI_1 i]
      refine ev_goto 45 dX3_aim_140 (by decide) ?_
      refine ih (i + 1) (by omega) _ _ ⟨fun c q1 q2 => by rw [ai_up, if_neg (by omega)]; exact a1 c q1 q2, a2, by rw [elast]; exact a3, ?_, fun w hw' => ?_, fun w hw' hwm => ?_⟩
      · show σ1 14 12 = _
        rw [a4]
        refine bI_congr ?_
        rw [en]; simp
      · show upd (σ1 24) i 0 w = _
        unfold upd
        by_cases q : w = i
        · rw [if_pos q, q, hm]; rfl
        · rw [if_neg q]; exact a5 w (by omega)
      · have hne : w ≠ i := fun q => by rw [q, hm] at hwm; cases hwm
        exact a6 w (by omega) hwm
    | true =>
      rw [hm] at en
      have cW := cnt_le (fun w => m.testBit w && decide (β 41 w = β 41 i)) (nW β)
      have cU := cnt_le (fun u => decide (β 37 u = β 41 i)) (nU β)
      have fin : ∀ (σ2 σ3 : ai_M) (q5 : Option Value), aaP (ai_up σ1 24 i (β 42 i)) β m i σ2 → (∀ c, c ≠ 14 → σ3 c = σ2 c) → (∀ k, k ≠ 12 → σ3 14 k = σ2 14 k) → σ3 14 12 = bI (enB β m (i + 1) = true) → ev mX3_aim (d + 3) 137 [some (.ref 14), some (.ref 3), some (.ref 8), some (.int (nI m)), some (.int (nI i)), q5] [] (LY L) σ3 0 0 (Rv (LY L) (amP σ0 β m (nW β))) := by
        rintro σ2 σ3 q5 ⟨k1, k2, k3, k4, k5, k6, k7⟩ z1 z2 z3
        refine ev_iinc _ dX3_aim_137 rfl rfl (by decide) ?_
        rw [show nI i + Int32.ofInt 1 = nI (i + 1) from nI_1 i]
        refine ev_goto 45 dX3_aim_140 (by decide) ?_
        refine ih (i + 1) (by omega) _ _ ⟨fun c q1 q2 => ?_, fun k q1 q2 => ?_, ?_, z3, fun w hw' => ?_, fun w hw' hwm => ⟨fun f hf => ?_, fun u r hu hr => ?_⟩⟩
        · rw [z1 c q1, k3 c q1 (by omega) (by omega), ai_up, if_neg (by omega)]; exact a1 c q1 q2
        · rw [z2 k q2, k4 k q1]; exact a2 k q1 q2
        · rw [z2 11 (by decide), k5, show 4 * i + 4 = 4 * (i + 1) by omega]
        · rw [z1 24 (by decide), k3 24 (by decide) (by decide) (by decide)]
          show upd (σ1 24) i _ w = _
          unfold upd
          by_cases q : w = i
          · rw [if_pos q, q, hm]; rfl
          · rw [if_neg q]; exact a5 w (by omega)
        · rw [z1 26 (by decide)]
          by_cases q : w = i
          · subst q; exact k6 f hf
          · have h16 := hw.1.2.2.1
            rw [k7 _ (by omega)]; exact (a6 w (by omega) hwm).1 f hf
        · rw [z1 25 (by decide)]
          by_cases q : w = i
          · subst q; exact k1 u r hu hr
          · rw [k2 _ (by omega)]; exact (a6 w (by omega) hwm).2 u r hu hr
      have h2 : RB (ai_up σ1 24 i (β 42 i)) β := h1.keep (fun c q => by rw [ai_up, if_neg (by omega)])
      have iff := nI_ltI (a := okC β (β 41 i) (nU β)) (b := okW β (β 41 i) m (nW β)) (by unfold okC; omega) (by unfold okW; omega)
      have yes : nI (okW β (β 41 i) m (nW β)) ≤ nI (okC β (β 41 i) (nU β)) → bI (enB β m i = true) = bI (enB β m (i + 1) = true) := fun c => by
        have q : okW β (β 41 i) m (nW β) ≤ okC β (β 41 i) (nU β) := Nat.not_lt.mp (fun q => Int32.not_lt.mpr c (iff.mpr q))
        refine bI_congr ?_
        rw [en]; simp [q]
      have no : ¬ nI (okW β (β 41 i) m (nW β)) ≤ nI (okC β (β 41 i) (nU β)) → ¬ enB β m (i + 1) = true := fun c => by
        have q : ¬ okW β (β 41 i) m (nW β) ≤ okC β (β 41 i) (nU β) := Nat.not_le.mpr (iff.mp (Int32.not_le.mp c))
        rw [en]; simp [q]
      refine ev_iload dX3_aim_45 rfl ?_
      refine ev_aload_n dX3_aim_47 rfl ?_
      refine ev_getI dX3_aim_48 fX3_46 ⟨_, rfl, rfl⟩ ?_
      rw [e3']
      refine ev_icmp_ge 143 dX3_aim_51 (by decide) (fun c51 => absurd c51 (nI_ge (by omega) (by omega))) (fun c51 => ?_)
      refine ev_iload_n dX3_aim_54 rfl ?_
      refine ev_iload dX3_aim_55 rfl ?_
      refine ev_ishr dX3_aim_57 ?_
      refine ev_iconst 1 dX3_aim_58 (by decide) ?_
      refine ev_iand dX3_aim_59 ?_
      refine ev_if_eq 67 dX3_aim_60 (by decide) (fun c60 => absurd (hb.mp c60) (by rw [hm]; decide)) (fun c60 => ?_)
      refine ev_iconst 1 dX3_aim_63 (by decide) ?_
      refine ev_goto 68 dX3_aim_64 (by decide) ?_
      refine ev_istore dX3_aim_68 (by decide) ?_
      refine ev_aload_n dX3_aim_70 rfl ?_
      refine ev_getR dX3_aim_71 fX3_24 ⟨_, rfl, rfl⟩ ?_
      refine ev_iload dX3_aim_74 rfl ?_
      refine ev_iload dX3_aim_76 rfl ?_
      refine ev_if_eq 91 dX3_aim_78 (by decide) (fun c78 => absurd c78 (by decide)) (fun c78 => ?_)
      refine ev_aload_n dX3_aim_81 rfl ?_
      refine ev_getR dX3_aim_82 fX3_67 ⟨_, rfl, rfl⟩ ?_
      refine ev_iload dX3_aim_85 rfl ?_
      refine ev_iaload dX3_aim_87 rfl hin ?_
      rw [ic, hwr.2.1]
      refine ev_goto 92 dX3_aim_88 (by decide) ?_
      refine ev_iastore dX3_aim_92 (by decide) rfl hin ?_
      rw [ic]
      refine ev_iload dX3_aim_93 rfl ?_
      refine ev_if_eq 137 dX3_aim_95 (by decide) (fun c95 => absurd c95 (by decide)) (fun c95 => ?_)
      refine ev_aload_n dX3_aim_98 rfl ?_
      refine ev_aload_n dX3_aim_99 rfl ?_
      refine ev_aload_n dX3_aim_100 rfl ?_
      refine ev_iload dX3_aim_101 rfl ?_
      refine cVv3 dX3_aim_103 VX3_68 ⟨_, rfl⟩ rfl rfl rfl rfl (t_aimAt (m := m) hw h2 ((a2 4 (by decide) (by decide)).trans e4) ((a2 5 (by decide) (by decide)).trans e5) (by omega) hm a3) ?_
      intro σ2 hp
      have h3 : RB σ2 β := h2.keep (fun c q => hp.2.2.1 c (by omega) (by omega) (by omega))
      have e12 : σ2 14 12 = bI (enB β m i = true) := (hp.2.2.2.1 12 (by decide)).trans a4
      have e9 := (h3.2.2.2.2.2.1 i (by omega)).1
      refine ev_aload_n dX3_aim_106 rfl ?_
      refine ev_aload_n dX3_aim_107 rfl ?_
      refine ev_getR dX3_aim_108 fX3_72 ⟨_, rfl, rfl⟩ ?_
      refine ev_iload dX3_aim_111 rfl ?_
      refine ev_iaload dX3_aim_113 rfl hin ?_
      rw [ic, e9]
      refine ev_iload_n dX3_aim_114 rfl ?_
      refine cVp2 dX3_aim_115 VX3_75 ⟨_, rfl⟩ rfl rfl rfl ((t_ckW (d := d + 2) hw h3 (β 41 i) hm31)) ?_
      refine ev_aload_n dX3_aim_118 rfl ?_
      refine ev_aload_n dX3_aim_119 rfl ?_
      refine ev_getR dX3_aim_120 fX3_72 ⟨_, rfl, rfl⟩ ?_
      refine ev_iload dX3_aim_123 rfl ?_
      refine ev_iaload dX3_aim_125 rfl hin ?_
      rw [ic, e9]
      refine cVp1 dX3_aim_126 VX3_79 ⟨_, rfl⟩ rfl rfl ((t_ckU (d := d + 2) hw h3 (β 41 i))) ?_
      refine ev_icmp_le 137 dX3_aim_129 (by decide) (fun c129 => ?_) (fun c129 => ?_)
      · first | exact fin σ2 σ2 _ hp (fun _ _ => rfl) (fun _ _ => rfl) (e12.trans (yes c129)) | exact fin σ2 (ai_up σ2 14 12 0) _ hp (fun c q => by rw [ai_up, if_neg q]) (fun k q => by rw [ai_up, if_pos rfl, upd, if_neg q]) (bI_f (no c129))
      · refine ev_aload_n dX3_aim_132 rfl ?_
        refine ev_iconst 0 dX3_aim_133 (by decide) ?_
        refine ev_putI dX3_aim_134 fX3_60 ⟨_, rfl, rfl⟩ rfl rfl ?_
        first | exact fin σ2 σ2 _ hp (fun _ _ => rfl) (fun _ _ => rfl) (e12.trans (yes c129)) | exact fin σ2 (ai_up σ2 14 12 0) _ hp (fun c q => by rw [ai_up, if_neg q]) (fun k q => by rw [ai_up, if_pos rfl, upd, if_neg q]) (bI_f (no c129))
/-- what aim comes to -/
def amQ (σ β : ai_M) (m : Nat) (σ1 : ai_M) : Prop := SS σ1 β m ∧ σ1 21 1 = 0 ∧ σ1 14 11 = lsN β m (4 * nW β) ∧ σ1 14 12 = bI (enB β m (nW β) = true) ∧ ∀ c, c ≠ 14 → (c < 21 ∨ 26 < c) → σ1 c = σ c
theorem t_aim (hw : WF β) (h : RB σ β) (hm31 : m < 2 ^ 31) : ev mX3_aim (d + 3) 0 [some (.ref 14), some (.ref 3), some (.ref 8), some (.int (nI m)), none, none] [] (LY L) σ 0 0 (Rv (LY L) (amQ σ β m)) := by
  have e8 : σ 8 0 = nI (nW β) := h.1.2.2.2.trans hw.1.2.2.2.2.2.2.2.1
  have eU : σ 3 1 = nI (nU β) := h.1.2.1.trans hw.1.2.2.2.1
  have eF : σ 3 0 = nI (nF β) := h.1.1.trans hw.1.1
  refine ev_aload_n dX3_aim_0 rfl ?_
  refine ev_aload_n dX3_aim_1 rfl ?_
  refine ev_getI dX3_aim_2 fX3_40 ⟨_, rfl, rfl⟩ ?_
  rw [e8]
  refine ev_putI dX3_aim_5 fX3_46 ⟨_, rfl, rfl⟩ rfl rfl ?_
  refine ev_aload_n dX3_aim_8 rfl ?_
  refine ev_aload_n dX3_aim_9 rfl ?_
  refine ev_getI dX3_aim_10 fX3_47 ⟨_, rfl, rfl⟩ ?_
  rw [show (ai_up σ 14 3 (nI (nW β))) 3 1 = _ from eU]
  refine ev_putI dX3_aim_13 fX3_52 ⟨_, rfl, rfl⟩ rfl rfl ?_
  refine ev_aload_n dX3_aim_16 rfl ?_
  refine ev_aload_n dX3_aim_17 rfl ?_
  refine ev_getI dX3_aim_18 fX3_53 ⟨_, rfl, rfl⟩ ?_
  rw [show (ai_up (ai_up σ 14 3 (nI (nW β))) 14 4 (nI (nU β))) 3 0 = _ from eF]
  refine ev_putI dX3_aim_21 fX3_56 ⟨_, rfl, rfl⟩ rfl rfl ?_
  refine ev_aload_n dX3_aim_24 rfl ?_
  refine ev_bipush (-6) dX3_aim_25 (by decide) ?_
  refine ev_putI dX3_aim_27 fX3_57 ⟨_, rfl, rfl⟩ rfl rfl ?_
  refine ev_aload_n dX3_aim_30 rfl ?_
  refine ev_iconst 1 dX3_aim_31 (by decide) ?_
  refine ev_putI dX3_aim_32 fX3_60 ⟨_, rfl, rfl⟩ rfl rfl ?_
  refine ev_aload_n dX3_aim_35 rfl ?_
  refine ev_getR dX3_aim_36 fX3_21 ⟨_, rfl, rfl⟩ ?_
  refine cVv0 dX3_aim_39 VX3_64 ⟨_, rfl⟩ rfl (t_clear (g := 21) (u := 22) (f := 23) rfl rfl rfl (by decide) (by decide) (by decide) (by decide) (by decide)) ?_
  rintro σ2 ⟨k1, k2, k3, k4, k5⟩
  refine ev_iconst 0 dX3_aim_42 (by decide) ?_
  refine ev_istore dX3_aim_43 (by decide) ?_
  have k14 := k5 14 (by decide) (by decide) (by decide)
  have hc : ∀ c, c ≠ 14 → (c < 21 ∨ 23 < c) → σ2 c = σ c := fun c q1 q2 => by
    rw [k5 c (by omega) (by omega) (by omega)]
    simp only [ai_up, if_neg q1]
  have h2 : RB σ2 β := h.keep (fun c q => hc c (by omega) (by omega))
  refine (aim_loop (m := m) hw h2 (by rw [k14]; rfl) (by rw [k14]; rfl) (by rw [k14]; rfl) hm31 (nW β) 0 (by omega) σ2 _ ⟨fun _ _ _ => rfl, fun _ _ _ => rfl, by rw [k14]; rfl, by rw [k14]; rfl, fun w q => by omega, fun w q => by omega⟩).mono ?_
  rintro _ _ σ3 ⟨rfl, rfl, g1, g2, g3, g4, g5, g6⟩
  refine Rv.mk ⟨⟨by rw [g2 3 (by decide) (by decide), k14]; rfl, by rw [g2 4 (by decide) (by decide), k14]; rfl, by rw [g2 5 (by decide) (by decide), k14]; rfl, g5, g6⟩, ?_, g3, g4, fun c q1 q2 => ?_⟩
  · rw [g1 21 (by decide) (by omega), k2]
  · rw [g1 c q1 (by omega), hc c q1 (by omega)]
end AIM
