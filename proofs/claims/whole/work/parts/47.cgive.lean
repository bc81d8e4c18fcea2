section CG
variable {σ0 β σ : ai_M} {d L m l c : Nat} {mv : Bool} {vs : List Nat} {b : Option (List Nat)}
theorem gf_head (hw : WF β) (ha : AM σ β m mv l) {w u r j n wt ls : Nat} {Q : Option Value → ai_L → ai_M → Prop} (e19 : σ 19 w = nI u) (hu : u < nU β) (hn : w + n + 1 = nW β) (hm : m.testBit w = true) (hr : r + j = 4) (hwt : wt ≤ 100000) (e15 : σ 14 15 = nI ls) (hls : ls ≤ 1000000)
    (K1 : ls ≤ wt + rsB β mv w u j + wsB β mv (mS m) n → Q none (LY L) σ)
    (K2 : ∀ l6, wt + rsB β mv w u j + wsB β mv (mS m) n < ls → ev mX3_giveFoot (d + 1) 59 [some (.ref 14), some (.int (nI w)), some (.int (nI r)), some (.int (nI wt)), some (.int (nI u)), some (.int (nI (nxR (rol β w) r j))), l6, none, none, none] [] (LY L) σ 0 0 Q) :
    ev mX3_giveFoot (d + 1) 0 [some (.ref 14), some (.int (nI w)), some (.int (nI r)), some (.int (nI wt)), none, none, none, none, none, none] [] (LY L) σ 0 0 Q := by
  have h4 := hw.1.2.2.2.2.2.2.2.2
  have h6 := hw.1.2.2.2.2.1
  obtain ⟨n1, n2, n3, n4⟩ := nxR_spec (rol β w) j r
  have hr4 : nxR (rol β w) r j ≤ 4 := by omega
  have esk := rs_skip (mv := mv) (u := u) hr n1 hr4 n3
  have eb := ha.2.2.1.2 w u _ (by omega) hm hu hr4
  rw [← esk] at eb
  have ew := ha.2.2.1.1 (w + 1) (by omega)
  rw [show nW β - (w + 1) = n by omega] at ew
  have t1 := rsB_top (β := β) mv w u j
  have t2 := wsB_top (β := β) mv (mS m) n
  have ei : (nI w * 6 + nI u) * 5 + nI (nxR (rol β w) r j) = nI (30 * w + 5 * u + nxR (rol β w) r j) := by
    rw [show (6 : Int32) = nI 6 from rfl, show (5 : Int32) = nI 5 from rfl, pk_mul, nI_add, pk_mul, nI_add]
    congr 1; omega
  have iff : nI wt + (nI (rsB β mv w u j) + nI (wsB β mv (mS m) n)) < nI ls ↔ wt + rsB β mv w u j + wsB β mv (mS m) n < ls := by
    rw [nI_add, nI_add, nI_ltI (by omega) (by omega)]; omega
  refine ev_aload_n dX3_giveFoot_0 rfl ?_
  refine ev_getR dX3_giveFoot_1 fX3_18 ⟨_, rfl, rfl⟩ ?_
  refine ev_getR dX3_giveFoot_4 fX3_143 ⟨_, rfl, rfl⟩ ?_
  refine ev_iload_n dX3_giveFoot_7 rfl ?_
  refine ev_iaload dX3_giveFoot_8 rfl (vp_in_nI (by omega) (by decide)) ?_
  rw [clN (by omega), e19]
  refine ev_istore dX3_giveFoot_9 (by decide) ?_
  refine ev_aload_n dX3_giveFoot_11 rfl ?_
  refine ev_iload_n dX3_giveFoot_12 rfl ?_
  refine ev_iload_n dX3_giveFoot_13 rfl ?_
  refine cVp2 dX3_giveFoot_14 VX3_160 ⟨_, rfl⟩ rfl rfl rfl (t_wishedFrom hw ha.1 (by omega) hm hr) ?_
  refine ev_istore dX3_giveFoot_17 (by decide) ?_
  refine ev_aload_n dX3_giveFoot_19 rfl ?_
  refine ev_getR dX3_giveFoot_20 fX3_34 ⟨_, rfl, rfl⟩ ?_
  refine ev_iload_n dX3_giveFoot_23 rfl ?_
  refine ev_bipush 6 dX3_giveFoot_24 (by decide) ?_
  refine ev_imul dX3_giveFoot_26 ?_
  refine ev_iload dX3_giveFoot_27 rfl ?_
  refine ev_iadd dX3_giveFoot_29 ?_
  refine ev_iconst 5 dX3_giveFoot_30 (by decide) ?_
  refine ev_imul dX3_giveFoot_31 ?_
  refine ev_iload dX3_giveFoot_32 rfl ?_
  refine ev_iadd dX3_giveFoot_34 ?_
  rw [ei]
  refine ev_iaload dX3_giveFoot_35 rfl (vp_in_nI (by omega) (by decide)) ?_
  rw [nI_clamp (by omega), eb]
  refine ev_aload_n dX3_giveFoot_36 rfl ?_
  refine ev_getR dX3_giveFoot_37 fX3_37 ⟨_, rfl, rfl⟩ ?_
  refine ev_iload_n dX3_giveFoot_40 rfl ?_
  refine ev_iconst 1 dX3_giveFoot_41 (by decide) ?_
  refine ev_iadd dX3_giveFoot_42 ?_
  rw [show nI w + 1 = nI (w + 1) from nI_add w 1]
  refine ev_iaload dX3_giveFoot_43 rfl (vp_in_nI (by omega) (by decide)) ?_
  rw [clN (by omega), ew]
  refine ev_iadd dX3_giveFoot_44 ?_
  refine ev_istore dX3_giveFoot_45 (by decide) ?_
  refine ev_iload_n dX3_giveFoot_47 rfl ?_
  refine ev_iload dX3_giveFoot_48 rfl ?_
  refine ev_iadd dX3_giveFoot_50 ?_
  refine ev_aload_n dX3_giveFoot_51 rfl ?_
  refine ev_getI dX3_giveFoot_52 fX3_110 ⟨_, rfl, rfl⟩ ?_
  rw [e15]
  refine ev_icmp_lt 59 dX3_giveFoot_55 (by decide) (fun c55 => ?_) (fun c55 => ?_)
  · rw [iff] at c55
    exact K2 _ c55
  · refine ev_ret dX3_giveFoot_58 rfl rfl ?_
    rw [iff] at c55
    exact K1 (by omega)
theorem bits_fit {w u r f : Nat} (hlt : w < nW β) (hm : m.testBit w = true) (hr : r < 4) (hrol : rol β w r = true) (hl : vs.length = lnR β (mS m) w r) (hu1 : vs.getD (lnU β (mS m) w) 0 = u) (hu : u < nU β) (hk : kdB β w u = true) : (opB β w u r f && !tkB (plM β m) vs false f) = (decide (f < nF β) && fit β (plM β m) vs f) := by
  rw [fit_r hlt hm hr hrol hl, hu1]
  by_cases hf : f < nF β
  · rw [op_of hu hk hf]; simp [hf]
  · have : opB β w u r f = false := by unfold opB; simp [hf]
    rw [this]; simp [hf]
theorem gf_loop (hw : WF β) (ha : AM σ0 β m mv l) {w r u k : Nat} (hlt : w < nW β) (hm : m.testBit w = true) (hr : r < 4) (hrol : rol β w r = true) (hl : vs.length = lnR β (mS m) w r) (hu1 : vs.getD (lnU β (mS m) w) 0 = u) (hu : u < nU β) (hk : kdB β w u = true) {l2 l6 : Option Value}
    (HF : ∀ (f : Nat) (b : Option (List Nat)) (c : Nat) (σ : ai_M), f < nF β → fit β (plM β m) vs f = true → GI σ0 β m mv l (vs ++ [f]) b c σ → (l ≠ 0 → c < l) → c ≤ l + 16 → ev mX3_giveFoot k 0 [some (.ref 14), some (.int (nI w)), some (.int (nI (r + 1))), some (.int (nI (wtP β mv (plM β m) (vs ++ [f])))), none, none, none, none, none, none] [] (LY L) σ 0 0 (Rv (LY L) (Pst σ0 β m mv l (vs ++ [f]) b c (gon β (mS m) (vs ++ [f]))))) :
    ∀ (n f : Nat), f + n = nF β → ∀ (b : Option (List Nat)) (c : Nat) (σ : ai_M), GI σ0 β m mv l vs b c σ → c ≤ l + 16 → ev mX3_giveFoot (k + 1) 142 [some (.ref 14), some (.int (nI w)), l2, some (.int (nI (wtP β mv (plM β m) vs))), some (.int (nI u)), some (.int (nI r)), l6, some (.int (nI (4 * w + r))), some (.int (nI (mk (fun f => opB β w u r f && !tkB (plM β m) vs false f) 16))), some (.int (nI f))] [] (LY L) σ 0 0 (Rv (LY L) (Pst σ0 β m mv l vs b c (subF β (plM β m) ((plM β m).length - vs.length - 1) vs f))) := by
  have h4 := hw.1.2.2.2.2.2.2.2.2
  have h6 := hw.1.2.2.2.2.1
  have h16 := hw.1.2.2.1
  have hl100 := ha.2.2.2.2.2
  have hpl : (plM β m)[vs.length]? = some (w, some r) := by rw [hl]; exact pl_role hlt hm hr hrol
  have hlim : lim β (plM β m) vs.length = nF β := lim_f hpl
  have hlen : vs.length ≤ (plM β m).length := Nat.le_of_lt (List.getElem?_eq_some_iff.mp hpl).1
  intro n
  induction n with
  | zero =>
    intro f hf b c σ h hc
    obtain rfl : f = nF β := by omega
    have ha' := h.1.AM ha
    rw [subF_ge (by rw [hlim]; exact Nat.le_refl _)]
    refine ev_iload dX3_giveFoot_142 rfl ?_
    refine ev_aload_n dX3_giveFoot_144 rfl ?_
    refine ev_getI dX3_giveFoot_145 fX3_56 ⟨_, rfl, rfl⟩ ?_
    rw [ha'.1.2.2.1]
    refine ev_icmp_ge 236 dX3_giveFoot_148 (by decide) (fun c148 => ?_) (fun c148 => absurd (nI_le (by omega) (by omega)) c148)
    refine ev_ret dX3_giveFoot_236 rfl rfl ?_
    exact Rv.mk ⟨b, c, Gone.nil hc, h⟩
  | succ n ih =>
    intro f hf b c σ h hc
    have ha' := h.1.AM ha
    have hbit := mk_test (p := fun f => opB β w u r f && !tkB (plM β m) vs false f) (n := 16) (f := f) (by decide) (by omega)
    rw [bits_fit hlt hm hr hrol hl hu1 hu hk, show decide (f < nF β) = true from decide_eq_true (by omega), Bool.true_and] at hbit
    by_cases hov : l ≠ 0 ∧ l ≤ c
    · refine ev_iload dX3_giveFoot_142 rfl ?_
      refine ev_aload_n dX3_giveFoot_144 rfl ?_
      refine ev_getI dX3_giveFoot_145 fX3_56 ⟨_, rfl, rfl⟩ ?_
      rw [ha'.1.2.2.1]
      refine ev_icmp_ge 236 dX3_giveFoot_148 (by decide) (fun c148 => absurd c148 (nI_ge (by omega) (by omega))) (fun c148 => ?_)
      refine ev_aload_n dX3_giveFoot_151 rfl ?_
      refine cVp0 dX3_giveFoot_152 VX3_152 ⟨_, rfl⟩ rfl (t_over ha'.2.2.2.2.1 h.2.2.2.2.1 (by omega) (by omega)) ?_
      refine ev_if_ne 236 dX3_giveFoot_155 (by decide) (fun c155 => ?_) (fun c155 => absurd c155 (bI_n.mpr hov))
      refine ev_ret dX3_giveFoot_236 rfl rfl ?_
      exact Rv.mk ⟨b, c, Gone.over hov.1 hov.2 hc, h⟩
    · rw [gonF_lt (by rw [hlim]; omega)]
      by_cases hfit : fit β (plM β m) vs f = true
      · rw [if_pos hfit]
        have g := h.foot (f := f) hpl hr
        have ga := g.1.AM ha
        have hnt : tkB (plM β m) vs false f = false := by
          rw [fit_r hlt hm hr hrol hl, Bool.and_eq_true] at hfit
          simpa using hfit.2
        have ewt : wtP β mv (plM β m) (vs ++ [f]) = wtP β mv (plM β m) vs + wgB β mv w u r f := by rw [wt_r hlt hm hr hrol hl, hu1]
        refine ev_iload dX3_giveFoot_142 rfl ?_
        refine ev_aload_n dX3_giveFoot_144 rfl ?_
        refine ev_getI dX3_giveFoot_145 fX3_56 ⟨_, rfl, rfl⟩ ?_
        rw [ha'.1.2.2.1]
        refine ev_icmp_ge 236 dX3_giveFoot_148 (by decide) (fun c148 => absurd c148 (nI_ge (by omega) (by omega))) (fun c148 => ?_)
        refine ev_aload_n dX3_giveFoot_151 rfl ?_
        refine cVp0 dX3_giveFoot_152 VX3_152 ⟨_, rfl⟩ rfl (t_over ha'.2.2.2.2.1 h.2.2.2.2.1 (by omega) (by omega)) ?_
        refine ev_if_ne 236 dX3_giveFoot_155 (by decide) (fun c155 => absurd (bI_n.mp c155) hov) (fun c155 => ?_)
        refine ev_iload dX3_giveFoot_158 rfl ?_
        refine ev_iload dX3_giveFoot_160 rfl ?_
        refine ev_ishr dX3_giveFoot_162 ?_
        refine ev_iconst 1 dX3_giveFoot_163 (by decide) ?_
        refine ev_iand dX3_giveFoot_164 ?_
        refine ev_if_eq 230 dX3_giveFoot_165 (by decide) (fun c165 => absurd (hbit.mp c165) (by rw [hfit]; decide)) (fun c165 => ?_)
        refine ev_aload_n dX3_giveFoot_168 rfl ?_
        refine ev_getR dX3_giveFoot_169 fX3_18 ⟨_, rfl, rfl⟩ ?_
        refine ev_getR dX3_giveFoot_172 fX3_146 ⟨_, rfl, rfl⟩ ?_
        refine ev_iload dX3_giveFoot_175 rfl ?_
        refine ev_iload dX3_giveFoot_177 rfl ?_
        refine ev_iastore dX3_giveFoot_179 (by decide) rfl (vp_in_nI (by omega) (by decide)) ?_
        rw [clN (by omega)]
        refine ev_aload_n dX3_giveFoot_180 rfl ?_
        refine ev_dup dX3_giveFoot_181 rfl ?_
        refine ev_getI dX3_giveFoot_182 fX3_128 ⟨_, rfl, rfl⟩ ?_
        rw [show (ai_up σ 20 (4 * w + r) (nI f)) 14 14 = _ from h.2.2.1]
        refine ev_iconst 1 dX3_giveFoot_185 (by decide) ?_
        refine ev_iload dX3_giveFoot_186 rfl ?_
        refine ev_ishl dX3_giveFoot_188 ?_
        refine ev_ior dX3_giveFoot_189 ?_
        rw [mk_set _ (by decide) (by omega)]
        refine ev_putI dX3_giveFoot_190 fX3_128 ⟨_, rfl, rfl⟩ rfl rfl ?_
        refine ev_aload_n dX3_giveFoot_193 rfl ?_
        refine ev_iload_n dX3_giveFoot_194 rfl ?_
        refine ev_iload dX3_giveFoot_195 rfl ?_
        refine ev_iconst 1 dX3_giveFoot_197 (by decide) ?_
        refine ev_iadd dX3_giveFoot_198 ?_
        rw [show nI r + 1 = nI (r + 1) from nI_add r 1]
        refine ev_iload_n dX3_giveFoot_199 rfl ?_
        refine ev_aload_n dX3_giveFoot_200 rfl ?_
        refine ev_iload_n dX3_giveFoot_201 rfl ?_
        refine ev_iload dX3_giveFoot_202 rfl ?_
        refine ev_iload dX3_giveFoot_204 rfl ?_
        refine ev_iload dX3_giveFoot_206 rfl ?_
        refine cVp4 dX3_giveFoot_208 VX3_139 ⟨_, rfl⟩ rfl rfl rfl rfl rfl (t_weigh hw ga.1 ga.2.1 hlt hm hr (by omega) (by omega)) ?_
        refine ev_iadd dX3_giveFoot_211 ?_
        rw [nI_add, ← ewt]
        refine cVv3 dX3_giveFoot_212 VX3_156 ⟨_, rfl⟩ rfl rfl rfl rfl (HF f b c _ (by omega) hfit g (fun z => by omega) hc) ?_
        rintro σ2 ⟨b', c', g1, g2⟩
        refine ev_aload_n dX3_giveFoot_215 rfl ?_
        refine ev_dup dX3_giveFoot_216 rfl ?_
        refine ev_getI dX3_giveFoot_217 fX3_128 ⟨_, rfl, rfl⟩ ?_
        rw [g2.2.2.1]
        refine ev_iconst 1 dX3_giveFoot_220 (by decide) ?_
        refine ev_iload dX3_giveFoot_221 rfl ?_
        refine ev_ishl dX3_giveFoot_223 ?_
        refine ev_iconst (-1) dX3_giveFoot_224 (by decide) ?_
        refine ev_ixor dX3_giveFoot_225 ?_
        refine ev_iand dX3_giveFoot_226 ?_
        rw [mk_clear _ (by decide) (by omega)]
        refine ev_putI dX3_giveFoot_227 fX3_128 ⟨_, rfl, rfl⟩ rfl rfl ?_
        refine ev_iinc _ dX3_giveFoot_230 rfl rfl (by decide) ?_
        rw [show nI f + Int32.ofInt 1 = nI (f + 1) from nI_1 f]
        refine ev_goto 142 dX3_giveFoot_233 (by decide) ?_
        have hc' := g1.le hc
        refine (ih (f + 1) (by omega) b' c' _ (g2.footBack hpl hnt) hc').mono ?_
        rintro _ _ σ3 ⟨rfl, rfl, b2, c2, q1, q2⟩
        exact Rv.mk ⟨b2, c2, g1.app q1, q2⟩
      · rw [if_neg hfit, List.nil_append]
        refine ev_iload dX3_giveFoot_142 rfl ?_
        refine ev_aload_n dX3_giveFoot_144 rfl ?_
        refine ev_getI dX3_giveFoot_145 fX3_56 ⟨_, rfl, rfl⟩ ?_
        rw [ha'.1.2.2.1]
        refine ev_icmp_ge 236 dX3_giveFoot_148 (by decide) (fun c148 => absurd c148 (nI_ge (by omega) (by omega))) (fun c148 => ?_)
        refine ev_aload_n dX3_giveFoot_151 rfl ?_
        refine cVp0 dX3_giveFoot_152 VX3_152 ⟨_, rfl⟩ rfl (t_over ha'.2.2.2.2.1 h.2.2.2.2.1 (by omega) (by omega)) ?_
        refine ev_if_ne 236 dX3_giveFoot_155 (by decide) (fun c155 => absurd (bI_n.mp c155) hov) (fun c155 => ?_)
        refine ev_iload dX3_giveFoot_158 rfl ?_
        refine ev_iload dX3_giveFoot_160 rfl ?_
        refine ev_ishr dX3_giveFoot_162 ?_
        refine ev_iconst 1 dX3_giveFoot_163 (by decide) ?_
        refine ev_iand dX3_giveFoot_164 ?_
        refine ev_if_eq 230 dX3_giveFoot_165 (by decide) (fun c165 => ?_) (fun c165 => absurd (hbit.mpr (by simpa using hfit)) c165)
        refine ev_iinc _ dX3_giveFoot_230 rfl rfl (by decide) ?_
        rw [show nI f + Int32.ofInt 1 = nI (f + 1) from nI_1 f]
        refine ev_goto 142 dX3_giveFoot_233 (by decide) ?_
        exact ih (f + 1) (by omega) b c σ h hc
theorem gf_role (hw : WF β) (ha : AM σ0 β m mv l) {w r u k : Nat} (hlt : w < nW β) (hm : m.testBit w = true) (hr : r < 4) (hrol : rol β w r = true) (hl : vs.length = lnR β (mS m) w r) (hu1 : vs.getD (lnU β (mS m) w) 0 = u) (hu : u < nU β) (hk : kdB β w u = true) {l2 l6 : Option Value}
    (HF : ∀ (f : Nat) (b : Option (List Nat)) (c : Nat) (σ : ai_M), f < nF β → fit β (plM β m) vs f = true → GI σ0 β m mv l (vs ++ [f]) b c σ → (l ≠ 0 → c < l) → c ≤ l + 16 → ev mX3_giveFoot k 0 [some (.ref 14), some (.int (nI w)), some (.int (nI (r + 1))), some (.int (nI (wtP β mv (plM β m) (vs ++ [f])))), none, none, none, none, none, none] [] (LY L) σ 0 0 (Rv (LY L) (Pst σ0 β m mv l (vs ++ [f]) b c (gon β (mS m) (vs ++ [f])))))
    (h : GI σ0 β m mv l vs b c σ) (hcl : l ≠ 0 → c < l) (hc : c ≤ l + 16) :
    ev mX3_giveFoot (k + 1) 74 [some (.ref 14), some (.int (nI w)), l2, some (.int (nI (wtP β mv (plM β m) vs))), some (.int (nI u)), some (.int (nI r)), l6, none, none, none] [] (LY L) σ 0 0 (Rv (LY L) (Pst σ0 β m mv l vs b c (gon β (mS m) vs))) := by
  have h4 := hw.1.2.2.2.2.2.2.2.2
  have h6 := hw.1.2.2.2.2.1
  have h16 := hw.1.2.2.1
  have hl100 := ha.2.2.2.2.2
  have ha' := h.1.AM ha
  have hpl : (plM β m)[vs.length]? = some (w, some r) := by rw [hl]; exact pl_role hlt hm hr hrol
  have hlim : lim β (plM β m) vs.length = nF β := lim_f hpl
  have hlen : vs.length < (plM β m).length := (List.getElem?_eq_some_iff.mp hpl).1
  have e4 : nI w * 4 + nI r = nI (4 * w + r) := by rw [show (4 : Int32) = nI 4 from rfl, pk_mul, nI_add, Nat.mul_comm]
  have eo := (ha'.1.2.2.2.2 w hlt hm).2 u r hu hr
  have ei : (nI w * 6 + nI u) * 4 + nI r = nI (24 * w + 4 * u + r) := by
    rw [show (6 : Int32) = nI 6 from rfl, show (4 : Int32) = nI 4 from rfl, pk_mul, nI_add, pk_mul, nI_add]
    congr 1; omega
  have hbits : ∀ f, (opB β w u r f && !tkB (plM β m) vs false f) = (decide (f < nF β) && fit β (plM β m) vs f) := fun f => bits_fit hlt hm hr hrol hl hu1 hu hk
  have loop := gf_loop (L := L) (l2 := l2) (l6 := l6) hw ha hlt hm hr hrol hl hu1 hu hk HF (nF β) 0 (by omega) b c σ h hc
  rw [← gon_F hlen] at loop
  refine ev_iload_n dX3_giveFoot_74 rfl ?_
  refine ev_iconst 4 dX3_giveFoot_75 (by decide) ?_
  refine ev_imul dX3_giveFoot_76 ?_
  refine ev_iload dX3_giveFoot_77 rfl ?_
  refine ev_iadd dX3_giveFoot_79 ?_
  rw [e4]
  refine ev_istore dX3_giveFoot_80 (by decide) ?_
  refine ev_aload_n dX3_giveFoot_82 rfl ?_
  refine ev_getR dX3_giveFoot_83 fX3_28 ⟨_, rfl, rfl⟩ ?_
  refine ev_iload_n dX3_giveFoot_86 rfl ?_
  refine ev_bipush 6 dX3_giveFoot_87 (by decide) ?_
  refine ev_imul dX3_giveFoot_89 ?_
  refine ev_iload dX3_giveFoot_90 rfl ?_
  refine ev_iadd dX3_giveFoot_92 ?_
  refine ev_iconst 4 dX3_giveFoot_93 (by decide) ?_
  refine ev_imul dX3_giveFoot_94 ?_
  refine ev_iload dX3_giveFoot_95 rfl ?_
  refine ev_iadd dX3_giveFoot_97 ?_
  rw [ei]
  refine ev_iaload dX3_giveFoot_98 rfl (vp_in_nI (by omega) (by decide)) ?_
  rw [nI_clamp (by omega), eo]
  refine ev_aload_n dX3_giveFoot_99 rfl ?_
  refine ev_getI dX3_giveFoot_100 fX3_128 ⟨_, rfl, rfl⟩ ?_
  rw [h.2.2.1]
  refine ev_iconst (-1) dX3_giveFoot_103 (by decide) ?_
  refine ev_ixor dX3_giveFoot_104 ?_
  refine ev_iand dX3_giveFoot_105 ?_
  rw [mk_andnot _ _ (by decide)]
  refine ev_istore dX3_giveFoot_106 (by decide) ?_
  refine ev_aload_n dX3_giveFoot_108 rfl ?_
  refine ev_getI dX3_giveFoot_109 fX3_121 ⟨_, rfl, rfl⟩ ?_
  rw [ha'.2.2.2.2.1]
  by_cases q : l = 0
  · refine ev_if_le 139 dX3_giveFoot_112 (by decide) (fun c112 => ?_) (fun c112 => absurd (by rw [q]; exact Int32.le_refl _) c112)
    refine ev_iconst 0 dX3_giveFoot_139 (by decide) ?_
    refine ev_istore dX3_giveFoot_140 (by decide) ?_
    exact loop
  · have hno : ¬ nI l ≤ 0 := by rw [show (0 : Int32) = nI 0 from rfl, nI_leI (by omega) (by decide)]; omega
    have hls := ha'.2.2.2.1 w r hlt hr hm hrol
    by_cases hlast : σ 14 11 = nI (4 * w + r)
    · have hone := hls.mp hlast
      have elen := gon_last h16 (by rw [hl]; exact hone) hlim
      have ecnt : cnt (fun f => opB β w u r f && !tkB (plM β m) vs false f) 16 = (gon β (mS m) vs).length := by rw [elen]; exact cnt_cong (fun i _ => hbits i)
      have hcle := cnt_le (fun f => opB β w u r f && !tkB (plM β m) vs false f) 16
      have hcl' := hcl q
      have hsm := mk_small (p := fun f => opB β w u r f && !tkB (plM β m) vs false f) (n := 16) (by decide)
      refine ev_if_le 139 dX3_giveFoot_112 (by decide) (fun c112 => absurd c112 hno) (fun c112 => ?_)
      refine ev_iload dX3_giveFoot_115 rfl ?_
      refine ev_aload_n dX3_giveFoot_117 rfl ?_
      refine ev_getI dX3_giveFoot_118 fX3_57 ⟨_, rfl, rfl⟩ ?_
      rw [hlast]
      refine ev_icmp_ne 139 dX3_giveFoot_121 (by decide) (fun c121 => absurd rfl c121) (fun c121 => ?_)
      refine ev_aload_n dX3_giveFoot_124 rfl ?_
      refine ev_dup dX3_giveFoot_125 rfl ?_
      refine ev_getI dX3_giveFoot_126 fX3_113 ⟨_, rfl, rfl⟩ ?_
      rw [h.2.2.2.2.1]
      refine ev_iload dX3_giveFoot_129 rfl ?_
      refine cSp1 dX3_giveFoot_131 SX3_163 rfl rfl (t_bitCount hsm) ?_
      rw [bcN_mk, ecnt]
      refine ev_iadd dX3_giveFoot_134 ?_
      rw [nI_add]
      refine ev_putI dX3_giveFoot_135 fX3_113 ⟨_, rfl, rfl⟩ rfl rfl ?_
      refine ev_ret dX3_giveFoot_138 rfl rfl ?_
      refine Rv.mk ⟨b, c + (gon β (mS m) vs).length, ⟨fun z => absurd z q, fun _ => ⟨rfl, Nat.le_add_right _ _, Nat.le_refl _, fun _ => rfl, by omega⟩⟩, h.1.up14 (by decide) (by decide), h.2.1, h.2.2.1, h.2.2.2.1, rfl, h.2.2.2.2.2.1, ?_⟩
      have hb0 := h.2.2.2.2.2.2.none q
      have h7 := h.2.2.2.2.2.2
      subst hb0
      exact h7
    · refine ev_if_le 139 dX3_giveFoot_112 (by decide) (fun c112 => absurd c112 hno) (fun c112 => ?_)
      refine ev_iload dX3_giveFoot_115 rfl ?_
      refine ev_aload_n dX3_giveFoot_117 rfl ?_
      refine ev_getI dX3_giveFoot_118 fX3_57 ⟨_, rfl, rfl⟩ ?_
      refine ev_icmp_ne 139 dX3_giveFoot_121 (by decide) (fun c121 => ?_) (fun c121 => absurd c121.symm hlast)
      refine ev_iconst 0 dX3_giveFoot_139 (by decide) ?_
      refine ev_istore dX3_giveFoot_140 (by decide) ?_
      exact loop
end CG
