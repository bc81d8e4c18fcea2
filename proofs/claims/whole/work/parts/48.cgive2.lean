section CG2
variable {σ0 β : ai_M} {d L m l : Nat} {mv : Bool}
/-- giveUnit and giveFoot at a prefix -/
def UU (σ0 β : ai_M) (L m : Nat) (mv : Bool) (l dd w : Nat) (vs : List Nat) : Prop := ∀ (b : Option (List Nat)) (c : Nat) (σ : ai_M), GI σ0 β m mv l vs b c σ → (l ≠ 0 → c < l) → c ≤ l + 16 → (vs.length = (plM β m).length → wtP β mv (plM β m) vs < lst β mv m b) → ev mX3_giveUnit dd 0 [some (.ref 14), some (.int (nI w)), some (.int (nI (wtP β mv (plM β m) vs))), none] [] (LY L) σ 0 0 (Rv (LY L) (Pst σ0 β m mv l vs b c (gon β (mS m) vs)))
def FF (σ0 β : ai_M) (L m : Nat) (mv : Bool) (l dd w r : Nat) (vs : List Nat) (X : List (List Nat)) : Prop := ∀ (b : Option (List Nat)) (c : Nat) (σ : ai_M), GI σ0 β m mv l vs b c σ → (l ≠ 0 → c < l) → c ≤ l + 16 → ev mX3_giveFoot dd 0 [some (.ref 14), some (.int (nI w)), some (.int (nI r)), some (.int (nI (wtP β mv (plM β m) vs))), none, none, none, none, none, none] [] (LY L) σ 0 0 (Rv (LY L) (Pst σ0 β m mv l vs b c X))
theorem gF (hw : WF β) (ha : AM σ0 β m mv l) {n w : Nat} (hn : w + n + 1 = nW β) (hm : m.testBit w = true) (IU : ∀ dd, 6 * n + 3 ≤ dd → ∀ vs, vs.length = lnU β (mS m) (w + 1) → UU σ0 β L m mv l dd (w + 1) vs) :
    ∀ (j r : Nat), r + j = 4 → ∀ dd, 6 * n + 4 + j ≤ dd → ∀ (vs : List Nat) (u : Nat), vs.length = lnR β (mS m) w r → vs.getD (lnU β (mS m) w) 0 = u → u < nU β → kdB β w u = true → FF σ0 β L m mv l dd w r vs (gon β (mS m) vs) := by
  have h4 := hw.1.2.2.2.2.2.2.2.2
  have h16 := hw.1.2.2.1
  have hp20 : (plM β m).length ≤ 20 := (pls_ok hw (mS m)).1
  intro j
  induction j using Nat.strongRecOn with
  | _ j ih =>
    intro r hr dd hdd vs u hl hu1 hu hk b c σ h hcl hc
    obtain ⟨k, rfl⟩ : ∃ k, dd = k + 1 := ⟨dd - 1, by omega⟩
    have ha' := h.1.AM ha
    obtain ⟨n1, n2, n3, n4⟩ := nxR_spec (rol β w) j r
    have hlw : lnU β (mS m) w < vs.length := by rw [hl]; have := lnR_le (β := β) (S := mS m) w (i := 0) (j := r) (by omega); rw [lnR_0] at this; omega
    have hlw1 : lnR β (mS m) w 4 ≤ (plM β m).length := by
      have := lnU_le (β := β) (S := mS m) (i := w + 1) (j := nW β) (by omega)
      rw [lnU_y hm] at this; exact this
    have hlen : vs.length ≤ (plM β m).length := by rw [hl]; exact Nat.le_trans (lnR_le w (by omega)) hlw1
    have e19 : σ 19 w = nI u := by rw [← hu1]; exact h.2.2.2.2.2.1.2.2.1 _ w (pl_unit (by omega) hm) hlw
    have hwt : wtP β mv (plM β m) vs ≤ 20320 := GI.wt hw hlen
    have eln : lnR β (mS m) w (nxR (rol β w) r j) = lnR β (mS m) w r := ln_skip n1 n3
    refine gf_head hw ha' e19 hu hn hm hr (by omega) h.2.2.2.1 (lst_lt hw h.2.2.2.2.2.2) (fun hle => ?_) (fun l6 hlt => ?_)
    · refine Rv.mk ⟨b, c, Gone.no (fun z => h.2.2.2.2.2.2.none z) (fun x hx => ?_) (fun x hx => ?_) hc, h⟩
      · have := lowF (S := mS m) (mv := mv) hn hm (fun vs x => lowU n (w + 1) (by omega) vs x) j r hr vs u x hl hu1 hu hk hx
        exact Nat.le_trans hle this
      · have h2 := sub_len _ _ _ hx
        have h1 := wtP_top h16 mv (plM β m) x
        have h3 : (pls β (mS m)).length ≤ 20 := hp20
        have h5 : vs.length ≤ (pls β (mS m)).length := hlen
        omega
    · by_cases hz : nxR (rol β w) r j = 4
      · rw [hz] at eln ⊢
        have hl2 : vs.length = lnU β (mS m) (w + 1) := by rw [lnU_y hm, eln]; exact hl
        refine ev_iload dX3_giveFoot_59 rfl ?_
        refine ev_iconst 4 dX3_giveFoot_61 (by decide) ?_
        refine ev_icmp_lt 74 dX3_giveFoot_62 (by decide) (fun c62 => absurd c62 (by decide)) (fun c62 => ?_)
        refine ev_aload_n dX3_giveFoot_65 rfl ?_
        refine ev_iload_n dX3_giveFoot_66 rfl ?_
        refine ev_iconst 1 dX3_giveFoot_67 (by decide) ?_
        refine ev_iadd dX3_giveFoot_68 ?_
        rw [show nI w + 1 = nI (w + 1) from nI_add w 1]
        refine ev_iload_n dX3_giveFoot_69 rfl ?_
        refine cVv2 dX3_giveFoot_70 VX3_103 ⟨_, rfl⟩ rfl rfl rfl (IU k (by omega) vs hl2 b c σ h hcl hc (fun _ => by omega)) ?_
        intro σ2 g2
        refine ev_ret dX3_giveFoot_73 rfl rfl ?_
        exact Rv.mk g2
      · have hz4 : nxR (rol β w) r j < 4 := by omega
        have hrol := n4 (by omega)
        generalize nxR (rol β w) r j = r' at *
        have hl2 : vs.length = lnR β (mS m) w r' := by rw [eln]; exact hl
        have lt4 : nI r' < 4 := (nI_ltI (b := 4) (by omega) (by decide)).mpr hz4
        refine ev_iload dX3_giveFoot_59 rfl ?_
        refine ev_iconst 4 dX3_giveFoot_61 (by decide) ?_
        refine ev_icmp_lt 74 dX3_giveFoot_62 (by decide) (fun c62 => ?_) (fun c62 => absurd lt4 c62)
        refine gf_role hw ha (by omega) hm hz4 hrol hl2 hu1 hu hk (fun f b c σ hf hfit g gcl gc => ?_) h hcl hc
        exact ih (3 - r') (by omega) (r' + 1) (by omega) k (by omega) (vs ++ [f]) u (by rw [lnR_y hrol, List.length_append, hl2]; rfl) (by rw [getD_snoc hlw]; exact hu1) hu hk b c σ g gcl gc
theorem gu_loop (hw : WF β) (ha : AM σ0 β m mv l) {w k : Nat} {vs : List Nat} (hlt : w < nW β) (hm : m.testBit w = true) (hl : vs.length = lnU β (mS m) w)
    (HU : ∀ u, u < nU β → FF σ0 β L m mv l k w 0 (vs ++ [u]) (if kdB β w u then gon β (mS m) (vs ++ [u]) else [])) :
    ∀ (n u : Nat), u + n = nU β → ∀ (b : Option (List Nat)) (c : Nat) (σ : ai_M), GI σ0 β m mv l vs b c σ → c ≤ l + 16 → ev mX3_giveUnit (k + 1) 34 [some (.ref 14), some (.int (nI w)), some (.int (nI (wtP β mv (plM β m) vs))), some (.int (nI u))] [] (LY L) σ 0 0 (Rv (LY L) (Pst σ0 β m mv l vs b c (subF β (plM β m) ((plM β m).length - vs.length - 1) vs u))) := by
  have h4 := hw.1.2.2.2.2.2.2.2.2
  have h6 := hw.1.2.2.2.2.1
  have h16 := hw.1.2.2.1
  have hl100 := ha.2.2.2.2.2
  have hpl : (plM β m)[vs.length]? = some (w, none) := by rw [hl]; exact pl_unit hlt hm
  have hlim : lim β (plM β m) vs.length = nU β := lim_u hpl
  intro n
  induction n with
  | zero =>
    intro u hf b c σ h hc
    obtain rfl : u = nU β := by omega
    have ha' := h.1.AM ha
    rw [subF_ge (by rw [hlim]; exact Nat.le_refl _)]
    refine ev_iload_n dX3_giveUnit_34 rfl ?_
    refine ev_aload_n dX3_giveUnit_35 rfl ?_
    refine ev_getI dX3_giveUnit_36 fX3_52 ⟨_, rfl, rfl⟩ ?_
    rw [ha'.1.2.1]
    refine ev_icmp_ge 109 dX3_giveUnit_39 (by decide) (fun c39 => ?_) (fun c39 => absurd (nI_le (by omega) (by omega)) c39)
    refine ev_ret dX3_giveUnit_109 rfl rfl ?_
    exact Rv.mk ⟨b, c, Gone.nil hc, h⟩
  | succ n ih =>
    intro u hf b c σ h hc
    have ha' := h.1.AM ha
    have hbit := mk_test (p := tkB (plM β m) vs true) (n := 16) (f := u) (by decide) (by omega)
    by_cases hov : l ≠ 0 ∧ l ≤ c
    · refine ev_iload_n dX3_giveUnit_34 rfl ?_
      refine ev_aload_n dX3_giveUnit_35 rfl ?_
      refine ev_getI dX3_giveUnit_36 fX3_52 ⟨_, rfl, rfl⟩ ?_
      rw [ha'.1.2.1]
      refine ev_icmp_ge 109 dX3_giveUnit_39 (by decide) (fun c39 => absurd c39 (nI_ge (by omega) (by omega))) (fun c39 => ?_)
      refine ev_aload_n dX3_giveUnit_42 rfl ?_
      refine cVp0 dX3_giveUnit_43 VX3_152 ⟨_, rfl⟩ rfl (t_over ha'.2.2.2.2.1 h.2.2.2.2.1 (by omega) (by omega)) ?_
      refine ev_if_ne 109 dX3_giveUnit_46 (by decide) (fun c46 => ?_) (fun c46 => absurd c46 (bI_n.mpr hov))
      refine ev_ret dX3_giveUnit_109 rfl rfl ?_
      exact Rv.mk ⟨b, c, Gone.over hov.1 hov.2 hc, h⟩
    · rw [gonF_lt (by rw [hlim]; omega)]
      by_cases hnt : tkB (plM β m) vs true u = false
      · have efit : fit β (plM β m) vs u = kdB β w u := by rw [fit_u hlt hm hl, hnt]; simp
        rw [efit]
        have g := h.unit (u := u) hpl
        have ewt : wtP β mv (plM β m) (vs ++ [u]) = wtP β mv (plM β m) vs := wt_u hlt hm hl
        have hcall := HU u (by omega) b c _ g (fun z => by omega) hc
        rw [ewt] at hcall
        refine ev_iload_n dX3_giveUnit_34 rfl ?_
        refine ev_aload_n dX3_giveUnit_35 rfl ?_
        refine ev_getI dX3_giveUnit_36 fX3_52 ⟨_, rfl, rfl⟩ ?_
        rw [ha'.1.2.1]
        refine ev_icmp_ge 109 dX3_giveUnit_39 (by decide) (fun c39 => absurd c39 (nI_ge (by omega) (by omega))) (fun c39 => ?_)
        refine ev_aload_n dX3_giveUnit_42 rfl ?_
        refine cVp0 dX3_giveUnit_43 VX3_152 ⟨_, rfl⟩ rfl (t_over ha'.2.2.2.2.1 h.2.2.2.2.1 (by omega) (by omega)) ?_
        refine ev_if_ne 109 dX3_giveUnit_46 (by decide) (fun c46 => absurd (bI_n.mp c46) hov) (fun c46 => ?_)
        refine ev_aload_n dX3_giveUnit_49 rfl ?_
        refine ev_getI dX3_giveUnit_50 fX3_125 ⟨_, rfl, rfl⟩ ?_
        rw [h.2.1]
        refine ev_iload_n dX3_giveUnit_53 rfl ?_
        refine ev_ishr dX3_giveUnit_54 ?_
        refine ev_iconst 1 dX3_giveUnit_55 (by decide) ?_
        refine ev_iand dX3_giveUnit_56 ?_
        refine ev_if_ne 103 dX3_giveUnit_57 (by decide) (fun c57 => absurd (hbit.mpr hnt) c57) (fun c57 => ?_)
        refine ev_aload_n dX3_giveUnit_60 rfl ?_
        refine ev_getR dX3_giveUnit_61 fX3_18 ⟨_, rfl, rfl⟩ ?_
        refine ev_getR dX3_giveUnit_64 fX3_143 ⟨_, rfl, rfl⟩ ?_
        refine ev_iload_n dX3_giveUnit_67 rfl ?_
        refine ev_iload_n dX3_giveUnit_68 rfl ?_
        refine ev_iastore dX3_giveUnit_69 (by decide) rfl (vp_in_nI (by omega) (by decide)) ?_
        rw [clN (by omega)]
        refine ev_aload_n dX3_giveUnit_70 rfl ?_
        refine ev_dup dX3_giveUnit_71 rfl ?_
        refine ev_getI dX3_giveUnit_72 fX3_125 ⟨_, rfl, rfl⟩ ?_
        rw [show (ai_up σ 19 w (nI u)) 14 13 = _ from h.2.1]
        refine ev_iconst 1 dX3_giveUnit_75 (by decide) ?_
        refine ev_iload_n dX3_giveUnit_76 rfl ?_
        refine ev_ishl dX3_giveUnit_77 ?_
        refine ev_ior dX3_giveUnit_78 ?_
        rw [mk_set _ (by decide) (by omega)]
        refine ev_putI dX3_giveUnit_79 fX3_125 ⟨_, rfl, rfl⟩ rfl rfl ?_
        refine ev_aload_n dX3_giveUnit_82 rfl ?_
        refine ev_iload_n dX3_giveUnit_83 rfl ?_
        refine ev_iconst 0 dX3_giveUnit_84 (by decide) ?_
        refine ev_iload_n dX3_giveUnit_85 rfl ?_
        refine cVv3 dX3_giveUnit_86 VX3_156 ⟨_, rfl⟩ rfl rfl rfl rfl (hcall) ?_
        rintro σ2 ⟨b', c', g1, g2⟩
        refine ev_aload_n dX3_giveUnit_89 rfl ?_
        refine ev_dup dX3_giveUnit_90 rfl ?_
        refine ev_getI dX3_giveUnit_91 fX3_125 ⟨_, rfl, rfl⟩ ?_
        rw [g2.2.1]
        refine ev_iconst 1 dX3_giveUnit_94 (by decide) ?_
        refine ev_iload_n dX3_giveUnit_95 rfl ?_
        refine ev_ishl dX3_giveUnit_96 ?_
        refine ev_iconst (-1) dX3_giveUnit_97 (by decide) ?_
        refine ev_ixor dX3_giveUnit_98 ?_
        refine ev_iand dX3_giveUnit_99 ?_
        rw [mk_clear _ (by decide) (by omega)]
        refine ev_putI dX3_giveUnit_100 fX3_125 ⟨_, rfl, rfl⟩ rfl rfl ?_
        refine ev_iinc _ dX3_giveUnit_103 rfl rfl (by decide) ?_
        rw [show nI u + Int32.ofInt 1 = nI (u + 1) from nI_1 u]
        refine ev_goto 34 dX3_giveUnit_106 (by decide) ?_
        have hc' := g1.le hc
        refine (ih (u + 1) (by omega) b' c' _ (g2.unitBack hpl hnt) hc').mono ?_
        rintro _ _ σ3 ⟨rfl, rfl, b2, c2, q1, q2⟩
        exact Rv.mk ⟨b2, c2, g1.app q1, q2⟩
      · have efit : fit β (plM β m) vs u = false := by rw [fit_u hlt hm hl]; simp only [Bool.not_eq_false] at hnt; rw [hnt]; simp
        rw [efit, if_neg (by decide), List.nil_append]
        refine ev_iload_n dX3_giveUnit_34 rfl ?_
        refine ev_aload_n dX3_giveUnit_35 rfl ?_
        refine ev_getI dX3_giveUnit_36 fX3_52 ⟨_, rfl, rfl⟩ ?_
        rw [ha'.1.2.1]
        refine ev_icmp_ge 109 dX3_giveUnit_39 (by decide) (fun c39 => absurd c39 (nI_ge (by omega) (by omega))) (fun c39 => ?_)
        refine ev_aload_n dX3_giveUnit_42 rfl ?_
        refine cVp0 dX3_giveUnit_43 VX3_152 ⟨_, rfl⟩ rfl (t_over ha'.2.2.2.2.1 h.2.2.2.2.1 (by omega) (by omega)) ?_
        refine ev_if_ne 109 dX3_giveUnit_46 (by decide) (fun c46 => absurd (bI_n.mp c46) hov) (fun c46 => ?_)
        refine ev_aload_n dX3_giveUnit_49 rfl ?_
        refine ev_getI dX3_giveUnit_50 fX3_125 ⟨_, rfl, rfl⟩ ?_
        rw [h.2.1]
        refine ev_iload_n dX3_giveUnit_53 rfl ?_
        refine ev_ishr dX3_giveUnit_54 ?_
        refine ev_iconst 1 dX3_giveUnit_55 (by decide) ?_
        refine ev_iand dX3_giveUnit_56 ?_
        refine ev_if_ne 103 dX3_giveUnit_57 (by decide) (fun c57 => ?_) (fun c57 => absurd (hbit.mp c57) hnt)
        refine ev_iinc _ dX3_giveUnit_103 rfl rfl (by decide) ?_
        rw [show nI u + Int32.ofInt 1 = nI (u + 1) from nI_1 u]
        refine ev_goto 34 dX3_giveUnit_106 (by decide) ?_
        exact ih (u + 1) (by omega) b c σ h hc
theorem gU (hw : WF β) (ha : AM σ0 β m mv l) : ∀ (n w : Nat), w + n = nW β → ∀ dd, 6 * n + 3 ≤ dd → ∀ vs, vs.length = lnU β (mS m) w → UU σ0 β L m mv l dd w vs := by
  have h4 := hw.1.2.2.2.2.2.2.2.2
  have h16 := hw.1.2.2.1
  intro n
  induction n with
  | zero =>
    intro w hwn dd hdd vs hl b c σ h hcl hc hlt
    obtain rfl : w = nW β := by omega
    obtain ⟨k, rfl⟩ : ∃ k, dd = k + 3 := ⟨dd - 3, by omega⟩
    have ha' := h.1.AM ha
    rw [gon_end hl]
    refine ev_iload_n dX3_giveUnit_0 rfl ?_
    refine ev_aload_n dX3_giveUnit_1 rfl ?_
    refine ev_getI dX3_giveUnit_2 fX3_46 ⟨_, rfl, rfl⟩ ?_
    rw [ha'.1.1]
    refine ev_icmp_lt 14 dX3_giveUnit_5 (by decide) (fun c5 => absurd ((nI_ltI (by omega) (by omega)).mp c5) (Nat.lt_irrefl _)) (fun c5 => ?_)
    refine ev_aload_n dX3_giveUnit_8 rfl ?_
    refine ev_iload_n dX3_giveUnit_9 rfl ?_
    refine cVv1 dX3_giveUnit_10 VX3_149 ⟨_, rfl⟩ rfl rfl (t_reach (d := k) hw ha h hl (hlt hl) hcl) ?_
    intro σ2 g2
    refine ev_ret dX3_giveUnit_13 rfl rfl ?_
    exact Rv.mk g2
  | succ n ih =>
    intro w hwn dd hdd vs hl b c σ h hcl hc hlt
    obtain ⟨k, rfl⟩ : ∃ k, dd = k + 1 := ⟨dd - 1, by omega⟩
    have ha' := h.1.AM ha
    have e24 := ha'.1.2.2.2.1 w (by omega)
    have ltw : nI w < nI (nW β) := (nI_ltI (by omega) (by omega)).mpr (by omega)
    cases hS : m.testBit w with
    | false =>
      rw [hS] at e24
      have hl2 : vs.length = lnU β (mS m) (w + 1) := by rw [lnU_n hS]; exact hl
      refine ev_iload_n dX3_giveUnit_0 rfl ?_
      refine ev_aload_n dX3_giveUnit_1 rfl ?_
      refine ev_getI dX3_giveUnit_2 fX3_46 ⟨_, rfl, rfl⟩ ?_
      rw [ha'.1.1]
      refine ev_icmp_lt 14 dX3_giveUnit_5 (by decide) (fun c5 => ?_) (fun c5 => absurd ltw c5)
      refine ev_aload_n dX3_giveUnit_14 rfl ?_
      refine ev_getR dX3_giveUnit_15 fX3_24 ⟨_, rfl, rfl⟩ ?_
      refine ev_iload_n dX3_giveUnit_18 rfl ?_
      refine ev_iaload dX3_giveUnit_19 rfl (vp_in_nI (by omega) (by decide)) ?_
      rw [clN (by omega), e24]
      refine ev_if_ne 32 dX3_giveUnit_20 (by decide) (fun c20 => absurd rfl c20) (fun c20 => ?_)
      refine ev_aload_n dX3_giveUnit_23 rfl ?_
      refine ev_iload_n dX3_giveUnit_24 rfl ?_
      refine ev_iconst 1 dX3_giveUnit_25 (by decide) ?_
      refine ev_iadd dX3_giveUnit_26 ?_
      rw [show nI w + 1 = nI (w + 1) from nI_add w 1]
      refine ev_iload_n dX3_giveUnit_27 rfl ?_
      refine cVv2 dX3_giveUnit_28 VX3_103 ⟨_, rfl⟩ rfl rfl rfl (ih (w + 1) (by omega) k (by omega) vs hl2 b c σ h hcl hc hlt) ?_
      intro σ2 g2
      refine ev_ret dX3_giveUnit_31 rfl rfl ?_
      exact Rv.mk g2
    | true =>
      rw [hS] at e24
      obtain ⟨r1, r2, r3⟩ := rolN hw (w := w) (by omega)
      have hne : ¬ β 42 w = 0 := by rw [r1, show (0 : Int32) = nI 0 from rfl, nI_eq (by omega) (by decide)]; omega
      have hlen : vs.length < (plM β m).length := by rw [hl]; exact len_u (by omega) hS
      rw [gon_F hlen]
      have HU : ∀ u, u < nU β → FF σ0 β L m mv l k w 0 (vs ++ [u]) (if kdB β w u then gon β (mS m) (vs ++ [u]) else []) := by
        intro u hu
        have hlu : (vs ++ [u]).length = lnR β (mS m) w 0 := by rw [lnR_0, List.length_append, hl]; rfl
        have hgu : (vs ++ [u]).getD (lnU β (mS m) w) 0 = u := by rw [← hl]; exact getD_last
        cases hk : kdB β w u with
        | true =>
          rw [if_pos rfl]
          exact gF hw ha (n := n) (by omega) hS (fun dd hdd vs hl => ih (w + 1) (by omega) dd hdd vs hl) 4 0 rfl k (by omega) (vs ++ [u]) u hlu hgu hu hk
        | false =>
          rw [if_neg (by decide)]
          intro b c σ h hcl hc
          obtain ⟨k', rfl⟩ : ∃ k', k = k' + 1 := ⟨k - 1, by omega⟩
          have hwt : wtP β mv (plM β m) (vs ++ [u]) ≤ 20320 := GI.wt hw (by rw [List.length_append, List.length_singleton]; omega)
          have e19 : σ 19 w = nI u := by have := h.2.2.2.2.2.1.2.2.1 _ w (pl_unit (by omega) hS) (by rw [List.length_append, List.length_singleton, hl]; omega); rw [hgu] at this; exact this
          have hbad := rs_bad (mv := mv) hw (w := w) (u := u) (by omega) hk
          have htop := lst_lt (mv := mv) hw h.2.2.2.2.2.2
          refine gf_head (j := 4) (n := n) hw (h.1.AM ha) e19 hu (by omega) hS rfl (by omega) h.2.2.2.1 htop (fun _ => Rv.mk ⟨b, c, Gone.nil hc, h⟩) (fun l6 hq => ?_)
          exact absurd hq (by omega)
      refine ev_iload_n dX3_giveUnit_0 rfl ?_
      refine ev_aload_n dX3_giveUnit_1 rfl ?_
      refine ev_getI dX3_giveUnit_2 fX3_46 ⟨_, rfl, rfl⟩ ?_
      rw [ha'.1.1]
      refine ev_icmp_lt 14 dX3_giveUnit_5 (by decide) (fun c5 => ?_) (fun c5 => absurd ltw c5)
      refine ev_aload_n dX3_giveUnit_14 rfl ?_
      refine ev_getR dX3_giveUnit_15 fX3_24 ⟨_, rfl, rfl⟩ ?_
      refine ev_iload_n dX3_giveUnit_18 rfl ?_
      refine ev_iaload dX3_giveUnit_19 rfl (vp_in_nI (by omega) (by decide)) ?_
      rw [clN (by omega), e24]
      refine ev_if_ne 32 dX3_giveUnit_20 (by decide) (fun c20 => ?_) (fun c20 => absurd c20 hne)
      refine ev_iconst 0 dX3_giveUnit_32 (by decide) ?_
      refine ev_istore_n dX3_giveUnit_33 (by decide) ?_
      exact gu_loop hw ha (by omega) hS hl HU (nU β) 0 (by omega) b c σ h hc
end CG2
