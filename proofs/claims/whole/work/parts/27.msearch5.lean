theorem ok_y {β : ai_M} {w u r f : Nat} (h1 : canB β f u r = true) (h2 : β 43 w = 0 ∨ β 36 f = β 43 w) (h3 : β 45 (4 * w + r) = -6 ∨ β 45 (4 * w + r) = nI f) : okB β w u r f = true := by
  unfold okB
  rw [h1]
  rcases h2 with h2 | h2 <;> rcases h3 with h3 | h3 <;> simp [h2, h3]
theorem ok_n1 {β : ai_M} {w u r f : Nat} (h1 : ¬ canB β f u r = true) : ¬ okB β w u r f = true := by
  unfold okB; simp [h1]
theorem ok_n2 {β : ai_M} {w u r f : Nat} (h1 : ¬ β 43 w = 0) (h2 : ¬ β 36 f = β 43 w) : ¬ okB β w u r f = true := by
  unfold okB; simp [h1, h2]
theorem ok_n3 {β : ai_M} {w u r f : Nat} (h1 : ¬ β 45 (4 * w + r) = -6) (h2 : ¬ β 45 (4 * w + r) = nI f) : ¬ okB β w u r f = true := by
  unfold okB; simp [h1, h2]
section MS5
variable {σ β : ai_M} {d L : Nat} {pl : PLt} {vs : List Nat}
theorem VL16 (hw : WF β) (h : VL β pl vs) : ∀ (p z : Nat), vs[p]? = some z → z < 16 := by
  intro p z hz
  have := h.2 p z hz
  have h1 := hw.1.2.2.1
  have h2 := hw.1.2.2.2.2.1
  unfold lim at this
  split at this <;> omega
theorem t_fits (hw : WF β) (h : RM σ β) (hp : PLok β pl) (hm : MS σ pl vs) (hl : vs.length < pl.length) (hvl : VL β pl vs) {v : Nat} (hv : v < lim β pl vs.length) : ev mX5_fits (d + 1) 0 [some (.ref 35), some (.int (nI vs.length)), some (.int (nI v)), none, none, none, none] [] (LY L) σ 0 0 (Rp (LY L) σ (bI (fit β pl vs v = true))) := by
  have h20 := hp.1
  have h16 := hw.1.2.2.1
  have hu6 := hw.1.2.2.2.2.1
  have hw4 := hw.1.2.2.2.2.2.2.2.2
  obtain ⟨m0, m1, m2, m3, m4, mV, mK, mU, mW, mX, mHu, mHf⟩ := id h
  obtain ⟨⟨w, o⟩, ho⟩ : ∃ q, pl[vs.length]? = some q := ⟨_, List.getElem?_eq_getElem hl⟩
  have e1 := hm.2.1 _ w o ho
  have hwo := hp.2.1 _ w o ho
  have hin : vp_in (nI vs.length) 20 := vp_in_nI (by omega) (by decide)
  have ic : (nI vs.length).toNatClampNeg = vs.length := clN (by omega)
  have hinw : vp_in (nI w) 4 := vp_in_nI (by omega) (by decide)
  have icw : (nI w).toNatClampNeg = w := clN (by omega)
  have h161 := VL16 hw hvl
  cases o with
  | none =>
    rw [lim_u ho] at hv
    have efit : fit β pl vs v = (kdB β w v && !(tkB pl vs true v)) := by unfold fit; rw [ho]
    have fin : ∀ x : Int32, x = bI (kdB β w v = true) → ev mX5_fits (d + 1) 142 [some (.ref 35), some (.int (nI vs.length)), some (.int (nI v)), some (.int 1), some (.int (nI w)), some (.int x), none] [] (LY L) σ 0 0 (Rp (LY L) σ (bI (fit β pl vs v = true))) := by
      intro x hx
      subst hx
      refine ev_iconst 0 dX5_fits_142 (by decide) ?_
      refine ev_istore dX5_fits_143 (by decide) ?_
      have := fits_loop (d := d + 1) (L := L) (w := w) (v := v) (P := kdB β w v = true) (u := true) hw hp hm hl (by omega) h161 vs.length 0 (by omega)
      rw [bI_congr (show (kdB β w v = true ∧ tkU pl vs true v 0 = false) ↔ kdB β w v = true from ⟨fun q => q.1, fun q => ⟨q, rfl⟩⟩), bI_congr (show (kdB β w v = true ∧ tkB pl vs true v = false) ↔ fit β pl vs v = true by rw [efit]; simp)] at this
      exact this
    refine ev_aload_n dX5_fits_0 rfl ?_
    refine ev_getR dX5_fits_1 fX5_53 ⟨_, rfl, rfl⟩ ?_
    refine ev_iload_n dX5_fits_4 rfl ?_
    refine ev_iaload dX5_fits_5 rfl hin ?_
    rw [ic, e1.2]
    refine ev_iconst (-1) dX5_fits_6 (by decide) ?_
    refine ev_icmp_ne 14 dX5_fits_7 (by decide) (fun c7 => absurd rfl c7) (fun c7 => ?_)
    refine ev_iconst 1 dX5_fits_10 (by decide) ?_
    refine ev_goto 15 dX5_fits_11 (by decide) ?_
    refine ev_istore_n dX5_fits_15 (by decide) ?_
    refine ev_aload_n dX5_fits_16 rfl ?_
    refine ev_getR dX5_fits_17 fX5_50 ⟨_, rfl, rfl⟩ ?_
    refine ev_iload_n dX5_fits_20 rfl ?_
    refine ev_iaload dX5_fits_21 rfl hin ?_
    rw [ic, e1.1]
    refine ev_istore dX5_fits_22 (by decide) ?_
    refine ev_iload_n dX5_fits_24 rfl ?_
    refine ev_if_eq 54 dX5_fits_25 (by decide) (fun c25 => absurd c25 (by decide)) (fun c25 => ?_)
    refine ev_aload_n dX5_fits_28 rfl ?_
    refine ev_getR dX5_fits_29 fX5_17 ⟨_, rfl, rfl⟩ ?_
    refine ev_iload_n dX5_fits_32 rfl ?_
    refine ev_iaload dX5_fits_33 rfl (vp_in_nI (by omega) (by decide)) ?_
    rw [clN (by omega), mK v (by omega)]
    refine ev_aload_n dX5_fits_34 rfl ?_
    refine ev_getR dX5_fits_35 fX5_29 ⟨_, rfl, rfl⟩ ?_
    refine ev_iload dX5_fits_38 rfl ?_
    refine ev_iaload dX5_fits_40 rfl hinw ?_
    rw [icw, (mW w (by omega)).1]
    refine ev_icmp_ne 48 dX5_fits_41 (by decide) (fun c41 => ?_) (fun c41 => ?_)
    · refine ev_iconst 0 dX5_fits_48 (by decide) ?_
      refine ev_istore dX5_fits_49 (by decide) ?_
      refine ev_goto 142 dX5_fits_51 (by decide) ?_
      first | exact fin _ (bI_t (decide_eq_true c41)) | exact fin _ (bI_f (by rw [kdB, decide_eq_true_eq]; exact c41))
    · refine ev_iconst 1 dX5_fits_44 (by decide) ?_
      refine ev_goto 49 dX5_fits_45 (by decide) ?_
      refine ev_istore dX5_fits_49 (by decide) ?_
      refine ev_goto 142 dX5_fits_51 (by decide) ?_
      first | exact fin _ (bI_t (decide_eq_true c41)) | exact fin _ (bI_f (by rw [kdB, decide_eq_true_eq]; exact c41))
  | some r =>
    rw [lim_f ho] at hv
    have hr4 := hwo.2 r rfl
    have efit : fit β pl vs v = (okB β w (cuB pl vs) r v && !(tkB pl vs false v)) := by unfold fit; rw [ho]
    have hup := (up_lt hp ho).1
    have ecu := hm.2.2 _ _ (cu_at hp ho (Nat.le_refl vs.length))
    rw [List.take_length] at ecu
    have e4 : 4 * nI w + nI r = nI (4 * w + r) := by rw [show (4 : Int32) = nI 4 from rfl, pk_mul, nI_add]
    have er : rc (some r) = nI r := rfl
    have fin : ∀ (x : Int32) (l6 : Option Value), x = bI (okB β w (cuB pl vs) r v = true) → ev mX5_fits (d + 1) 142 [some (.ref 35), some (.int (nI vs.length)), some (.int (nI v)), some (.int 0), some (.int (nI w)), some (.int x), l6] [] (LY L) σ 0 0 (Rp (LY L) σ (bI (fit β pl vs v = true))) := by
      intro x l6 hx
      subst hx
      refine ev_iconst 0 dX5_fits_142 (by decide) ?_
      refine ev_istore dX5_fits_143 (by decide) ?_
      have := fits_loop (d := d + 1) (L := L) (w := w) (v := v) (P := okB β w (cuB pl vs) r v = true) (u := false) hw hp hm hl (by omega) h161 vs.length 0 (by omega)
      rw [bI_congr (show (okB β w (cuB pl vs) r v = true ∧ tkU pl vs false v 0 = false) ↔ okB β w (cuB pl vs) r v = true from ⟨fun q => q.1, fun q => ⟨q, rfl⟩⟩), bI_congr (show (okB β w (cuB pl vs) r v = true ∧ tkB pl vs false v = false) ↔ fit β pl vs v = true by rw [efit]; simp)] at this
      exact this
    have hne : ¬ rc (some r) = -1 := fun q => by have := (rc_m1 hwo.2).mp q; cases this
    refine ev_aload_n dX5_fits_0 rfl ?_
    refine ev_getR dX5_fits_1 fX5_53 ⟨_, rfl, rfl⟩ ?_
    refine ev_iload_n dX5_fits_4 rfl ?_
    refine ev_iaload dX5_fits_5 rfl hin ?_
    rw [ic, e1.2]
    refine ev_iconst (-1) dX5_fits_6 (by decide) ?_
    refine ev_icmp_ne 14 dX5_fits_7 (by decide) (fun c7 => ?_) (fun c7 => absurd c7 hne)
    refine ev_iconst 0 dX5_fits_14 (by decide) ?_
    refine ev_istore_n dX5_fits_15 (by decide) ?_
    refine ev_aload_n dX5_fits_16 rfl ?_
    refine ev_getR dX5_fits_17 fX5_50 ⟨_, rfl, rfl⟩ ?_
    refine ev_iload_n dX5_fits_20 rfl ?_
    refine ev_iaload dX5_fits_21 rfl hin ?_
    rw [ic, e1.1]
    refine ev_istore dX5_fits_22 (by decide) ?_
    refine ev_iload_n dX5_fits_24 rfl ?_
    refine ev_if_eq 54 dX5_fits_25 (by decide) (fun c25 => ?_) (fun c25 => absurd rfl c25)
    refine ev_aload_n dX5_fits_54 rfl ?_
    refine ev_getR dX5_fits_55 fX5_41 ⟨_, rfl, rfl⟩ ?_
    refine ev_iconst 4 dX5_fits_58 (by decide) ?_
    refine ev_iload dX5_fits_59 rfl ?_
    refine ev_imul dX5_fits_61 ?_
    refine ev_aload_n dX5_fits_62 rfl ?_
    refine ev_getR dX5_fits_63 fX5_53 ⟨_, rfl, rfl⟩ ?_
    refine ev_iload_n dX5_fits_66 rfl ?_
    refine ev_iaload dX5_fits_67 rfl hin ?_
    rw [ic, e1.2, er]
    refine ev_iadd dX5_fits_68 ?_
    rw [e4]
    refine ev_iaload dX5_fits_69 rfl (vp_in_nI (by omega) (by decide)) ?_
    rw [clN (by omega), mX _ (by omega)]
    refine ev_istore dX5_fits_70 (by decide) ?_
    refine ev_aload_n dX5_fits_72 rfl ?_
    refine ev_iload_n dX5_fits_73 rfl ?_
    refine ev_aload_n dX5_fits_74 rfl ?_
    refine ev_getR dX5_fits_75 fX5_56 ⟨_, rfl, rfl⟩ ?_
    refine ev_aload_n dX5_fits_78 rfl ?_
    refine ev_iload_n dX5_fits_79 rfl ?_
    refine cVp1 dX5_fits_80 VX5_117 ⟨_, rfl⟩ rfl rfl (t_unitPlace hp hm hl) ?_
    refine ev_iaload dX5_fits_83 rfl (vp_in_nI (by omega) (by decide)) ?_
    rw [clN (by omega), ecu]
    refine ev_aload_n dX5_fits_84 rfl ?_
    refine ev_getR dX5_fits_85 fX5_53 ⟨_, rfl, rfl⟩ ?_
    refine ev_iload_n dX5_fits_88 rfl ?_
    refine ev_iaload dX5_fits_89 rfl hin ?_
    rw [ic, e1.2, er]
    refine cVp3 dX5_fits_90 VX5_92 ⟨_, rfl⟩ rfl rfl rfl rfl (t_can hw h v (cuB pl vs) r) ?_
    refine ev_if_eq 139 dX5_fits_93 (by decide) (fun c93 => ?_) (fun c93 => ?_)
    · refine ev_iconst 0 dX5_fits_139 (by decide) ?_
      refine ev_istore dX5_fits_140 (by decide) ?_
      first | exact fin _ _ (bI_f (ok_n1 (bI_0.mp c93))) | exact fin _ _ (bI_f (ok_n2 c103 c119)) | exact fin _ _ (bI_f (ok_n3 c126 c132)) | exact fin _ _ (bI_t (ok_y (bI_n.mp c93) (by first | exact Or.inl c103 | exact Or.inr c119) (by first | exact Or.inl c126 | exact Or.inr c132)))
    · refine ev_aload_n dX5_fits_96 rfl ?_
      refine ev_getR dX5_fits_97 fX5_35 ⟨_, rfl, rfl⟩ ?_
      refine ev_iload dX5_fits_100 rfl ?_
      refine ev_iaload dX5_fits_102 rfl hinw ?_
      rw [icw, (mW w (by omega)).2.2.1]
      refine ev_if_eq 122 dX5_fits_103 (by decide) (fun c103 => ?_) (fun c103 => ?_)
      · refine ev_iload dX5_fits_122 rfl ?_
        refine ev_bipush (-6) dX5_fits_124 (by decide) ?_
        refine ev_icmp_eq 135 dX5_fits_126 (by decide) (fun c126 => ?_) (fun c126 => ?_)
        · refine ev_iconst 1 dX5_fits_135 (by decide) ?_
          refine ev_goto 140 dX5_fits_136 (by decide) ?_
          refine ev_istore dX5_fits_140 (by decide) ?_
          first | exact fin _ _ (bI_f (ok_n1 (bI_0.mp c93))) | exact fin _ _ (bI_f (ok_n2 c103 c119)) | exact fin _ _ (bI_f (ok_n3 c126 c132)) | exact fin _ _ (bI_t (ok_y (bI_n.mp c93) (by first | exact Or.inl c103 | exact Or.inr c119) (by first | exact Or.inl c126 | exact Or.inr c132)))
        · refine ev_iload dX5_fits_129 rfl ?_
          refine ev_iload_n dX5_fits_131 rfl ?_
          refine ev_icmp_ne 139 dX5_fits_132 (by decide) (fun c132 => ?_) (fun c132 => ?_)
          · refine ev_iconst 0 dX5_fits_139 (by decide) ?_
            refine ev_istore dX5_fits_140 (by decide) ?_
            first | exact fin _ _ (bI_f (ok_n1 (bI_0.mp c93))) | exact fin _ _ (bI_f (ok_n2 c103 c119)) | exact fin _ _ (bI_f (ok_n3 c126 c132)) | exact fin _ _ (bI_t (ok_y (bI_n.mp c93) (by first | exact Or.inl c103 | exact Or.inr c119) (by first | exact Or.inl c126 | exact Or.inr c132)))
          · refine ev_iconst 1 dX5_fits_135 (by decide) ?_
            refine ev_goto 140 dX5_fits_136 (by decide) ?_
            refine ev_istore dX5_fits_140 (by decide) ?_
            first | exact fin _ _ (bI_f (ok_n1 (bI_0.mp c93))) | exact fin _ _ (bI_f (ok_n2 c103 c119)) | exact fin _ _ (bI_f (ok_n3 c126 c132)) | exact fin _ _ (bI_t (ok_y (bI_n.mp c93) (by first | exact Or.inl c103 | exact Or.inr c119) (by first | exact Or.inl c126 | exact Or.inr c132)))
      · refine ev_aload_n dX5_fits_106 rfl ?_
        refine ev_getR dX5_fits_107 fX5_13 ⟨_, rfl, rfl⟩ ?_
        refine ev_iload_n dX5_fits_110 rfl ?_
        refine ev_iaload dX5_fits_111 rfl (vp_in_nI (by omega) (by decide)) ?_
        rw [clN (by omega), mV v (by omega)]
        refine ev_aload_n dX5_fits_112 rfl ?_
        refine ev_getR dX5_fits_113 fX5_35 ⟨_, rfl, rfl⟩ ?_
        refine ev_iload dX5_fits_116 rfl ?_
        refine ev_iaload dX5_fits_118 rfl hinw ?_
        rw [icw, (mW w (by omega)).2.2.1]
        refine ev_icmp_ne 139 dX5_fits_119 (by decide) (fun c119 => ?_) (fun c119 => ?_)
        · refine ev_iconst 0 dX5_fits_139 (by decide) ?_
          refine ev_istore dX5_fits_140 (by decide) ?_
          first | exact fin _ _ (bI_f (ok_n1 (bI_0.mp c93))) | exact fin _ _ (bI_f (ok_n2 c103 c119)) | exact fin _ _ (bI_f (ok_n3 c126 c132)) | exact fin _ _ (bI_t (ok_y (bI_n.mp c93) (by first | exact Or.inl c103 | exact Or.inr c119) (by first | exact Or.inl c126 | exact Or.inr c132)))
        · refine ev_iload dX5_fits_122 rfl ?_
          refine ev_bipush (-6) dX5_fits_124 (by decide) ?_
          refine ev_icmp_eq 135 dX5_fits_126 (by decide) (fun c126 => ?_) (fun c126 => ?_)
          · refine ev_iconst 1 dX5_fits_135 (by decide) ?_
            refine ev_goto 140 dX5_fits_136 (by decide) ?_
            refine ev_istore dX5_fits_140 (by decide) ?_
            first | exact fin _ _ (bI_f (ok_n1 (bI_0.mp c93))) | exact fin _ _ (bI_f (ok_n2 c103 c119)) | exact fin _ _ (bI_f (ok_n3 c126 c132)) | exact fin _ _ (bI_t (ok_y (bI_n.mp c93) (by first | exact Or.inl c103 | exact Or.inr c119) (by first | exact Or.inl c126 | exact Or.inr c132)))
          · refine ev_iload dX5_fits_129 rfl ?_
            refine ev_iload_n dX5_fits_131 rfl ?_
            refine ev_icmp_ne 139 dX5_fits_132 (by decide) (fun c132 => ?_) (fun c132 => ?_)
            · refine ev_iconst 0 dX5_fits_139 (by decide) ?_
              refine ev_istore dX5_fits_140 (by decide) ?_
              first | exact fin _ _ (bI_f (ok_n1 (bI_0.mp c93))) | exact fin _ _ (bI_f (ok_n2 c103 c119)) | exact fin _ _ (bI_f (ok_n3 c126 c132)) | exact fin _ _ (bI_t (ok_y (bI_n.mp c93) (by first | exact Or.inl c103 | exact Or.inr c119) (by first | exact Or.inl c126 | exact Or.inr c132)))
            · refine ev_iconst 1 dX5_fits_135 (by decide) ?_
              refine ev_goto 140 dX5_fits_136 (by decide) ?_
              refine ev_istore dX5_fits_140 (by decide) ?_
              first | exact fin _ _ (bI_f (ok_n1 (bI_0.mp c93))) | exact fin _ _ (bI_f (ok_n2 c103 c119)) | exact fin _ _ (bI_f (ok_n3 c126 c132)) | exact fin _ _ (bI_t (ok_y (bI_n.mp c93) (by first | exact Or.inl c103 | exact Or.inr c119) (by first | exact Or.inl c126 | exact Or.inr c132)))
end MS5
