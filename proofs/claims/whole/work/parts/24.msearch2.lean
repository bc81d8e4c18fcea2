/-- values stay below their limits -/
def VL (β : ai_M) (pl : PLt) (vs : List Nat) : Prop := vs.length ≤ pl.length ∧ ∀ (p v : Nat), vs[p]? = some v → v < lim β pl p
theorem take_S {vs : List Nat} {p v : Nat} (h : vs[p]? = some v) : vs.take (p + 1) = vs.take p ++ [v] := by
  rw [List.take_succ, h]; rfl
theorem lim_f {β : ai_M} {pl : PLt} {p w r : Nat} (h : pl[p]? = some (w, some r)) : lim β pl p = nF β := by unfold lim; rw [h]
theorem lim_u {β : ai_M} {pl : PLt} {p w : Nat} (h : pl[p]? = some (w, none)) : lim β pl p = nU β := by unfold lim; rw [h]
theorem up_lt {β : ai_M} {pl : PLt} (hp : PLok β pl) {p w r : Nat} (h : pl[p]? = some (w, some r)) : upI pl p < p ∧ isU pl p = false := by
  have iu := isU_iff h
  have hu : ¬ isU pl p = true := fun q => by have := iu.mp q; cases this
  refine ⟨?_, by simpa using hu⟩
  cases p with
  | zero => have := hp.2.2 w (some r) h; cases this
  | succ k => unfold upI; rw [if_neg hu]; have := upI_le pl k; omega
theorem cu_at {β : ai_M} {pl : PLt} (hp : PLok β pl) {vs : List Nat} {p w r : Nat} (h : pl[p]? = some (w, some r)) (hl : p ≤ vs.length) : vs[upI pl p]? = some (cuB pl (vs.take p)) := by
  have hu := (up_lt hp h).1
  unfold cuB
  rw [List.length_take, Nat.min_eq_left hl, List.getD_eq_getElem?_getD, List.getElem?_take_of_lt hu, List.getElem?_eq_getElem (by omega)]
  rfl
theorem mvB_no {β : ai_M} {mv : Bool} {w u r f : Nat} (h : β 46 w = -6) : mvB β mv w u r f = 0 := by unfold mvB; rw [if_neg (by simp [h])]
theorem mvB_y1 {β : ai_M} {w u r f : Nat} (h : ¬ β 46 w = -6) (h2 : ¬ β 46 w = nI u) : mvB β true w u r f = 1 := by unfold mvB; rw [if_pos (by simp [h, h2])]
theorem mvB_y2 {β : ai_M} {w u r f : Nat} (h : ¬ β 46 w = -6) (h2 : ¬ β 47 (4 * w + r) = nI f) : mvB β true w u r f = 1 := by unfold mvB; rw [if_pos (by simp [h, h2])]
theorem mvB_n2 {β : ai_M} {mv : Bool} {w u r f : Nat} (h : β 46 w = nI u) (h2 : β 47 (4 * w + r) = nI f) : mvB β mv w u r f = 0 := by unfold mvB; rw [if_neg (by simp [h, h2])]
theorem pm1_u {β : ai_M} {mv : Bool} {pl : PLt} {vs : List Nat} {v w : Nat} (h : pl[vs.length]? = some (w, none)) : pm1 β mv pl vs v = 0 := by unfold pm1; rw [h]
theorem pc1_u {β : ai_M} {pl : PLt} {vs : List Nat} {v w : Nat} (h : pl[vs.length]? = some (w, none)) : pc1 β pl vs v = 0 := by unfold pc1; rw [h]
section MS2
variable {σ β : ai_M} {d L : Nat} {pl : PLt} {vs : List Nat}
theorem plF (hw : WF β) {w : Nat} (h : w < nW β) : β 44 w = nI (β 44 w).toNatClampNeg ∧ (β 44 w).toNatClampNeg < nF β := by
  obtain ⟨-, p, h1, h2⟩ := hw.2.2.1 w h
  have h16 := hw.1.2.2.1
  have e : (β 44 w).toNatClampNeg = p := by rw [h2]; exact clN (by omega)
  rw [e]; exact ⟨h2, h1⟩
theorem cost_loop (hw : WF β) (h : RM σ β) (hp : PLok β pl) (hm : MS σ pl vs) (hv : VL β pl vs) {k0 : Int32} (hk : k0 = nI vs.length - 1) : ∀ n p, p + n = vs.length → ev mX5_costTo (d + 1) 4 [some (.ref 35), some (.int k0), some (.int (nI (csP β pl (vs.take p)))), some (.int (nI p))] [] (LY L) σ 0 0 (Rp (LY L) σ (nI (csP β pl vs))) := by
  have h20 := hp.1
  have hl := hv.1
  have hw4 := hw.1.2.2.2.2.2.2.2.2
  intro n
  induction n with
  | zero =>
    intro p hpn
    obtain rfl : p = vs.length := by omega
    rw [List.take_length]
    refine ev_iload_n dX5_costTo_4 rfl ?_
    refine ev_iload_n dX5_costTo_5 rfl ?_
    refine ev_icmp_gt 53 dX5_costTo_6 (by decide) (fun c6 => ?_) (fun c6 => absurd (by rw [hk, Int32.lt_iff_toInt_lt]; cases hz : vs.length with | zero => decide | succ z => rw [nI_pred, nI_toInt (by omega), nI_toInt (by omega)]; omega) c6)
    refine ev_iload_n dX5_costTo_53 rfl ?_
    refine ev_ireturn dX5_costTo_54 rfl rfl rfl ?_
    exact Rp.mk rfl
  | succ n ih =>
    intro p hpn
    obtain ⟨v, hq⟩ : ∃ q, vs[p]? = some q := ⟨_, List.getElem?_eq_getElem (by omega)⟩
    obtain ⟨⟨w, o⟩, ho⟩ : ∃ q, pl[p]? = some q := ⟨_, List.getElem?_eq_getElem (by omega)⟩
    have e1 := hm.2.1 p w o ho
    have e2 := hm.2.2 p v hq
    have hwo := hp.2.1 p w o ho
    have iff := rc_m1 hwo.2
    have hno : ¬ k0 < nI p := by
      rw [hk, Int32.lt_iff_toInt_lt]
      have : nI vs.length - nI 1 = nI (vs.length - 1) := pk_sub (by omega)
      rw [show nI vs.length - 1 = nI (vs.length - 1) from this, nI_toInt (by omega), nI_toInt (by omega)]; omega
    have hin : vp_in (nI p) 20 := vp_in_nI (by omega) (by decide)
    have ic : (nI p).toNatClampNeg = p := clN (by omega)
    have hlen : (vs.take p).length = p := by rw [List.length_take]; omega
    have fin : ∀ z, z = pc1 β pl (vs.take p) v → ev mX5_costTo (d + 1) 45 [some (.ref 35), some (.int k0), some (.int (nI (csP β pl (vs.take p)))), some (.int (nI p))] [.int (nI z), .int (nI (csP β pl (vs.take p)))] (LY L) σ 0 0 (Rp (LY L) σ (nI (csP β pl vs))) := by
      intro z hz
      subst hz
      refine ev_iadd dX5_costTo_45 ?_
      rw [nI_add, ← csP_S, ← take_S hq]
      refine ev_istore_n dX5_costTo_46 (by decide) ?_
      refine ev_iinc _ dX5_costTo_47 rfl rfl (by decide) ?_
      rw [show nI p + Int32.ofInt 1 = nI (p + 1) from nI_1 p]
      refine ev_goto 4 dX5_costTo_50 (by decide) ?_
      exact ih (p + 1) (by omega)
    refine ev_iload_n dX5_costTo_4 rfl ?_
    refine ev_iload_n dX5_costTo_5 rfl ?_
    refine ev_icmp_gt 53 dX5_costTo_6 (by decide) (fun c6 => absurd c6 hno) (fun c6 => ?_)
    refine ev_iload_n dX5_costTo_9 rfl ?_
    refine ev_aload_n dX5_costTo_10 rfl ?_
    refine ev_getR dX5_costTo_11 fX5_53 ⟨_, rfl, rfl⟩ ?_
    refine ev_iload_n dX5_costTo_14 rfl ?_
    refine ev_iaload dX5_costTo_15 rfl hin ?_
    rw [ic, e1.2]
    refine ev_iconst (-1) dX5_costTo_16 (by decide) ?_
    refine ev_icmp_ne 24 dX5_costTo_17 (by decide) (fun c17 => ?_) (fun c17 => ?_)
    · obtain ⟨r, rfl⟩ : ∃ r, o = some r := by cases o with | none => exact absurd rfl c17 | some r => exact ⟨r, rfl⟩
      have hvf := hv.2 p v hq
      rw [lim_f ho] at hvf
      refine ev_aload_n dX5_costTo_24 rfl ?_
      refine ev_aload_n dX5_costTo_25 rfl ?_
      refine ev_getR dX5_costTo_26 fX5_56 ⟨_, rfl, rfl⟩ ?_
      refine ev_iload_n dX5_costTo_29 rfl ?_
      refine ev_iaload dX5_costTo_30 rfl hin ?_
      rw [ic, e2]
      refine ev_aload_n dX5_costTo_31 rfl ?_
      refine ev_getR dX5_costTo_32 fX5_38 ⟨_, rfl, rfl⟩ ?_
      refine ev_aload_n dX5_costTo_35 rfl ?_
      refine ev_getR dX5_costTo_36 fX5_50 ⟨_, rfl, rfl⟩ ?_
      refine ev_iload_n dX5_costTo_39 rfl ?_
      refine ev_iaload dX5_costTo_40 rfl hin ?_
      rw [ic, e1.1]
      refine ev_iaload dX5_costTo_41 rfl (vp_in_nI (by omega) (by decide)) ?_
      rw [clN (by omega), (h.2.2.2.2.2.2.2.2.1 w (by omega)).2.2.2, (plF hw hwo.1).1]
      refine cVp2 dX5_costTo_42 VX5_121 ⟨_, rfl⟩ rfl rfl rfl (t_msteps hw h hvf (plF hw hwo.1).2) ?_
      first | exact fin 0 (by unfold pc1; rw [hlen, ho, iff.mp c17]) | exact fin _ (by unfold pc1; rw [hlen, ho]; rfl)
    · refine ev_iconst 0 dX5_costTo_20 (by decide) ?_
      refine ev_goto 45 dX5_costTo_21 (by decide) ?_
      first | exact fin 0 (by unfold pc1; rw [hlen, ho, iff.mp c17]) | exact fin _ (by unfold pc1; rw [hlen, ho]; rfl)
theorem t_costTo (hw : WF β) (h : RM σ β) (hp : PLok β pl) (hm : MS σ pl vs) (hv : VL β pl vs) {k : Int32} (hk : k = nI vs.length - 1) : ev mX5_costTo (d + 1) 0 [some (.ref 35), some (.int k), none, none] [] (LY L) σ 0 0 (Rp (LY L) σ (nI (csP β pl vs))) := by
  refine ev_iconst 0 dX5_costTo_0 (by decide) ?_
  refine ev_istore_n dX5_costTo_1 (by decide) ?_
  refine ev_iconst 0 dX5_costTo_2 (by decide) ?_
  refine ev_istore_n dX5_costTo_3 (by decide) ?_
  exact cost_loop hw h hp hm hv hk vs.length 0 (by omega)
theorem moves_loop (hw : WF β) (h : RM σ β) (hp : PLok β pl) (hm : MS σ pl vs) (hv : VL β pl vs) {k0 : Int32} (hk : k0 = nI vs.length - 1) : ∀ n p, p + n = vs.length → ∀ (l4 l5 : Option Value), ev mX5_movesTo (d + 1) 4 [some (.ref 35), some (.int k0), some (.int (nI (mvP β true pl (vs.take p)))), some (.int (nI p)), l4, l5] [] (LY L) σ 0 0 (Rp (LY L) σ (nI (mvP β true pl vs))) := by
  have h20 := hp.1
  have hl := hv.1
  have hw4 := hw.1.2.2.2.2.2.2.2.2
  obtain ⟨m0, m1, m2, m3, m4, mV, mK, mU, mW, mX, mHu, mHf⟩ := id h
  intro n
  induction n with
  | zero =>
    intro p hpn l4 l5
    obtain rfl : p = vs.length := by omega
    rw [List.take_length]
    refine ev_iload_n dX5_movesTo_4 rfl ?_
    refine ev_iload_n dX5_movesTo_5 rfl ?_
    refine ev_icmp_gt 110 dX5_movesTo_6 (by decide) (fun c6 => ?_) (fun c6 => absurd (by rw [hk, Int32.lt_iff_toInt_lt]; cases hz : vs.length with | zero => decide | succ z => rw [nI_pred, nI_toInt (by omega), nI_toInt (by omega)]; omega) c6)
    refine ev_iload_n dX5_movesTo_110 rfl ?_
    refine ev_ireturn dX5_movesTo_111 rfl rfl rfl ?_
    exact Rp.mk rfl
  | succ n ih =>
    intro p hpn l4 l5
    obtain ⟨v, hq⟩ : ∃ q, vs[p]? = some q := ⟨_, List.getElem?_eq_getElem (by omega)⟩
    obtain ⟨⟨w, o⟩, ho⟩ : ∃ q, pl[p]? = some q := ⟨_, List.getElem?_eq_getElem (by omega)⟩
    have e1 := hm.2.1 p w o ho
    have e2 := hm.2.2 p v hq
    have hwo := hp.2.1 p w o ho
    have iff := rc_m1 hwo.2
    have hno : ¬ k0 < nI p := by
      rw [hk, Int32.lt_iff_toInt_lt]
      have : nI vs.length - nI 1 = nI (vs.length - 1) := pk_sub (by omega)
      rw [show nI vs.length - 1 = nI (vs.length - 1) from this, nI_toInt (by omega), nI_toInt (by omega)]; omega
    have hin : vp_in (nI p) 20 := vp_in_nI (by omega) (by decide)
    have hinw : vp_in (nI w) 4 := vp_in_nI (by omega) (by decide)
    have ic : (nI p).toNatClampNeg = p := clN (by omega)
    have icw : (nI w).toNatClampNeg = w := clN (by omega)
    have hlen : (vs.take p).length = p := by rw [List.length_take]; omega
    have fin : ∀ (z : Nat) (q4 q5 : Option Value), z = mvP β true pl (vs.take p) + pm1 β true pl (vs.take p) v → ev mX5_movesTo (d + 1) 104 [some (.ref 35), some (.int k0), some (.int (nI z)), some (.int (nI p)), q4, q5] [] (LY L) σ 0 0 (Rp (LY L) σ (nI (mvP β true pl vs))) := by
      intro z q4 q5 hz
      rw [← mvP_S, ← take_S hq] at hz
      subst hz
      refine ev_iinc _ dX5_movesTo_104 rfl rfl (by decide) ?_
      rw [show nI p + Int32.ofInt 1 = nI (p + 1) from nI_1 p]
      refine ev_goto 4 dX5_movesTo_107 (by decide) ?_
      exact ih (p + 1) (by omega) _ _
    have epm : ∀ r, o = some r → pm1 β true pl (vs.take p) v = mvB β true w (cuB pl (vs.take p)) r v := by
      rintro r rfl
      unfold pm1; rw [hlen, ho]
    refine ev_iload_n dX5_movesTo_4 rfl ?_
    refine ev_iload_n dX5_movesTo_5 rfl ?_
    refine ev_icmp_gt 110 dX5_movesTo_6 (by decide) (fun c6 => absurd c6 hno) (fun c6 => ?_)
    refine ev_aload_n dX5_movesTo_9 rfl ?_
    refine ev_getR dX5_movesTo_10 fX5_50 ⟨_, rfl, rfl⟩ ?_
    refine ev_iload_n dX5_movesTo_13 rfl ?_
    refine ev_iaload dX5_movesTo_14 rfl hin ?_
    rw [ic, e1.1]
    refine ev_istore dX5_movesTo_15 (by decide) ?_
    refine ev_aload_n dX5_movesTo_17 rfl ?_
    refine ev_getR dX5_movesTo_18 fX5_53 ⟨_, rfl, rfl⟩ ?_
    refine ev_iload_n dX5_movesTo_21 rfl ?_
    refine ev_iaload dX5_movesTo_22 rfl hin ?_
    rw [ic, e1.2]
    refine ev_iconst (-1) dX5_movesTo_23 (by decide) ?_
    refine ev_icmp_eq 104 dX5_movesTo_24 (by decide) (fun c24 => ?_) (fun c24 => ?_)
    · first | exact absurd c94 (by decide) | exact absurd rfl c94 | exact fin _ _ _ (by rw [epm r rfl, mvB_no c36]; rfl) | exact fin _ _ _ (by rw [pm1_u (by rw [hlen, ho, iff.mp c24])]; rfl) | (rw [nI_1]; exact fin _ _ _ (by rw [epm r rfl, mvB_y1 c36 c56])) | (rw [nI_1]; exact fin _ _ _ (by rw [epm r rfl, mvB_y2 c36 c81])) | (rw [show (0 : Int32) = nI 0 from rfl, nI_add]; exact fin _ _ _ (by rw [epm r rfl, mvB_n2 c56 c81]))
    · obtain ⟨r, rfl⟩ : ∃ r, o = some r := by cases o with | none => exact absurd rfl c24 | some r => exact ⟨r, rfl⟩
      refine ev_aload_n dX5_movesTo_27 rfl ?_
      refine ev_getR dX5_movesTo_28 fX5_44 ⟨_, rfl, rfl⟩ ?_
      refine ev_iload dX5_movesTo_31 rfl ?_
      refine ev_iaload dX5_movesTo_33 rfl hinw ?_
      rw [icw, mHu w (by omega)]
      refine ev_bipush (-6) dX5_movesTo_34 (by decide) ?_
      refine ev_icmp_eq 104 dX5_movesTo_36 (by decide) (fun c36 => ?_) (fun c36 => ?_)
      · first | exact absurd c94 (by decide) | exact absurd rfl c94 | exact fin _ _ _ (by rw [epm r rfl, mvB_no c36]; rfl) | exact fin _ _ _ (by rw [pm1_u (by rw [hlen, ho, iff.mp c24])]; rfl) | (rw [nI_1]; exact fin _ _ _ (by rw [epm r rfl, mvB_y1 c36 c56])) | (rw [nI_1]; exact fin _ _ _ (by rw [epm r rfl, mvB_y2 c36 c81])) | (rw [show (0 : Int32) = nI 0 from rfl, nI_add]; exact fin _ _ _ (by rw [epm r rfl, mvB_n2 c56 c81]))
      · have hr4 := hwo.2 r rfl
        have ecu := hm.2.2 _ _ (cu_at hp ho (by omega : p ≤ vs.length))
        have hup := (up_lt hp ho).1
        have e4 : 4 * nI w + nI r = nI (4 * w + r) := by rw [show (4 : Int32) = nI 4 from rfl, pk_mul, nI_add]
        refine ev_aload_n dX5_movesTo_39 rfl ?_
        refine ev_getR dX5_movesTo_40 fX5_44 ⟨_, rfl, rfl⟩ ?_
        refine ev_iload dX5_movesTo_43 rfl ?_
        refine ev_iaload dX5_movesTo_45 rfl hinw ?_
        rw [icw, mHu w (by omega)]
        refine ev_aload_n dX5_movesTo_46 rfl ?_
        refine ev_getR dX5_movesTo_47 fX5_56 ⟨_, rfl, rfl⟩ ?_
        refine ev_aload_n dX5_movesTo_50 rfl ?_
        refine ev_iload_n dX5_movesTo_51 rfl ?_
        refine cVp1 dX5_movesTo_52 VX5_117 ⟨_, rfl⟩ rfl rfl (t_unitPlace hp hm (by omega)) ?_
        refine ev_iaload dX5_movesTo_55 rfl (vp_in_nI (by omega) (by decide)) ?_
        rw [clN (by omega), ecu]
        refine ev_icmp_ne 88 dX5_movesTo_56 (by decide) (fun c56 => ?_) (fun c56 => ?_)
        · refine ev_iconst 0 dX5_movesTo_88 (by decide) ?_
          refine ev_istore dX5_movesTo_89 (by decide) ?_
          refine ev_iload_n dX5_movesTo_91 rfl ?_
          refine ev_iload dX5_movesTo_92 rfl ?_
          refine ev_if_eq 101 dX5_movesTo_94 (by decide) (fun c94 => ?_) (fun c94 => ?_)
          · refine ev_iconst 1 dX5_movesTo_101 (by decide) ?_
            refine ev_iadd dX5_movesTo_102 ?_
            refine ev_istore_n dX5_movesTo_103 (by decide) ?_
            first | exact absurd c94 (by decide) | exact absurd rfl c94 | exact fin _ _ _ (by rw [epm r rfl, mvB_no c36]; rfl) | exact fin _ _ _ (by rw [pm1_u (by rw [hlen, ho, iff.mp c24])]; rfl) | (rw [nI_1]; exact fin _ _ _ (by rw [epm r rfl, mvB_y1 c36 c56])) | (rw [nI_1]; exact fin _ _ _ (by rw [epm r rfl, mvB_y2 c36 c81])) | (rw [show (0 : Int32) = nI 0 from rfl, nI_add]; exact fin _ _ _ (by rw [epm r rfl, mvB_n2 c56 c81]))
          · refine ev_iconst 0 dX5_movesTo_97 (by decide) ?_
            refine ev_goto 102 dX5_movesTo_98 (by decide) ?_
            refine ev_iadd dX5_movesTo_102 ?_
            refine ev_istore_n dX5_movesTo_103 (by decide) ?_
            first | exact absurd c94 (by decide) | exact absurd rfl c94 | exact fin _ _ _ (by rw [epm r rfl, mvB_no c36]; rfl) | exact fin _ _ _ (by rw [pm1_u (by rw [hlen, ho, iff.mp c24])]; rfl) | (rw [nI_1]; exact fin _ _ _ (by rw [epm r rfl, mvB_y1 c36 c56])) | (rw [nI_1]; exact fin _ _ _ (by rw [epm r rfl, mvB_y2 c36 c81])) | (rw [show (0 : Int32) = nI 0 from rfl, nI_add]; exact fin _ _ _ (by rw [epm r rfl, mvB_n2 c56 c81]))
        · refine ev_aload_n dX5_movesTo_59 rfl ?_
          refine ev_getR dX5_movesTo_60 fX5_47 ⟨_, rfl, rfl⟩ ?_
          refine ev_iconst 4 dX5_movesTo_63 (by decide) ?_
          refine ev_iload dX5_movesTo_64 rfl ?_
          refine ev_imul dX5_movesTo_66 ?_
          refine ev_aload_n dX5_movesTo_67 rfl ?_
          refine ev_getR dX5_movesTo_68 fX5_53 ⟨_, rfl, rfl⟩ ?_
          refine ev_iload_n dX5_movesTo_71 rfl ?_
          refine ev_iaload dX5_movesTo_72 rfl hin ?_
          rw [ic, e1.2, show rc (some r) = nI r from rfl]
          refine ev_iadd dX5_movesTo_73 ?_
          rw [e4]
          refine ev_iaload dX5_movesTo_74 rfl (vp_in_nI (by omega) (by decide)) ?_
          rw [clN (by omega), mHf _ (by omega)]
          refine ev_aload_n dX5_movesTo_75 rfl ?_
          refine ev_getR dX5_movesTo_76 fX5_56 ⟨_, rfl, rfl⟩ ?_
          refine ev_iload_n dX5_movesTo_79 rfl ?_
          refine ev_iaload dX5_movesTo_80 rfl hin ?_
          rw [ic, e2]
          refine ev_icmp_ne 88 dX5_movesTo_81 (by decide) (fun c81 => ?_) (fun c81 => ?_)
          · refine ev_iconst 0 dX5_movesTo_88 (by decide) ?_
            refine ev_istore dX5_movesTo_89 (by decide) ?_
            refine ev_iload_n dX5_movesTo_91 rfl ?_
            refine ev_iload dX5_movesTo_92 rfl ?_
            refine ev_if_eq 101 dX5_movesTo_94 (by decide) (fun c94 => ?_) (fun c94 => ?_)
            · refine ev_iconst 1 dX5_movesTo_101 (by decide) ?_
              refine ev_iadd dX5_movesTo_102 ?_
              refine ev_istore_n dX5_movesTo_103 (by decide) ?_
              first | exact absurd c94 (by decide) | exact absurd rfl c94 | exact fin _ _ _ (by rw [epm r rfl, mvB_no c36]; rfl) | exact fin _ _ _ (by rw [pm1_u (by rw [hlen, ho, iff.mp c24])]; rfl) | (rw [nI_1]; exact fin _ _ _ (by rw [epm r rfl, mvB_y1 c36 c56])) | (rw [nI_1]; exact fin _ _ _ (by rw [epm r rfl, mvB_y2 c36 c81])) | (rw [show (0 : Int32) = nI 0 from rfl, nI_add]; exact fin _ _ _ (by rw [epm r rfl, mvB_n2 c56 c81]))
            · refine ev_iconst 0 dX5_movesTo_97 (by decide) ?_
              refine ev_goto 102 dX5_movesTo_98 (by decide) ?_
              refine ev_iadd dX5_movesTo_102 ?_
              refine ev_istore_n dX5_movesTo_103 (by decide) ?_
              first | exact absurd c94 (by decide) | exact absurd rfl c94 | exact fin _ _ _ (by rw [epm r rfl, mvB_no c36]; rfl) | exact fin _ _ _ (by rw [pm1_u (by rw [hlen, ho, iff.mp c24])]; rfl) | (rw [nI_1]; exact fin _ _ _ (by rw [epm r rfl, mvB_y1 c36 c56])) | (rw [nI_1]; exact fin _ _ _ (by rw [epm r rfl, mvB_y2 c36 c81])) | (rw [show (0 : Int32) = nI 0 from rfl, nI_add]; exact fin _ _ _ (by rw [epm r rfl, mvB_n2 c56 c81]))
          · refine ev_iconst 1 dX5_movesTo_84 (by decide) ?_
            refine ev_goto 89 dX5_movesTo_85 (by decide) ?_
            refine ev_istore dX5_movesTo_89 (by decide) ?_
            refine ev_iload_n dX5_movesTo_91 rfl ?_
            refine ev_iload dX5_movesTo_92 rfl ?_
            refine ev_if_eq 101 dX5_movesTo_94 (by decide) (fun c94 => ?_) (fun c94 => ?_)
            · refine ev_iconst 1 dX5_movesTo_101 (by decide) ?_
              refine ev_iadd dX5_movesTo_102 ?_
              refine ev_istore_n dX5_movesTo_103 (by decide) ?_
              first | exact absurd c94 (by decide) | exact absurd rfl c94 | exact fin _ _ _ (by rw [epm r rfl, mvB_no c36]; rfl) | exact fin _ _ _ (by rw [pm1_u (by rw [hlen, ho, iff.mp c24])]; rfl) | (rw [nI_1]; exact fin _ _ _ (by rw [epm r rfl, mvB_y1 c36 c56])) | (rw [nI_1]; exact fin _ _ _ (by rw [epm r rfl, mvB_y2 c36 c81])) | (rw [show (0 : Int32) = nI 0 from rfl, nI_add]; exact fin _ _ _ (by rw [epm r rfl, mvB_n2 c56 c81]))
            · refine ev_iconst 0 dX5_movesTo_97 (by decide) ?_
              refine ev_goto 102 dX5_movesTo_98 (by decide) ?_
              refine ev_iadd dX5_movesTo_102 ?_
              refine ev_istore_n dX5_movesTo_103 (by decide) ?_
              first | exact absurd c94 (by decide) | exact absurd rfl c94 | exact fin _ _ _ (by rw [epm r rfl, mvB_no c36]; rfl) | exact fin _ _ _ (by rw [pm1_u (by rw [hlen, ho, iff.mp c24])]; rfl) | (rw [nI_1]; exact fin _ _ _ (by rw [epm r rfl, mvB_y1 c36 c56])) | (rw [nI_1]; exact fin _ _ _ (by rw [epm r rfl, mvB_y2 c36 c81])) | (rw [show (0 : Int32) = nI 0 from rfl, nI_add]; exact fin _ _ _ (by rw [epm r rfl, mvB_n2 c56 c81]))
theorem t_movesTo (hw : WF β) (h : RM σ β) (hp : PLok β pl) (hm : MS σ pl vs) (hv : VL β pl vs) {k : Int32} (hk : k = nI vs.length - 1) : ev mX5_movesTo (d + 1) 0 [some (.ref 35), some (.int k), none, none, none, none] [] (LY L) σ 0 0 (Rp (LY L) σ (nI (mvP β true pl vs))) := by
  refine ev_iconst 0 dX5_movesTo_0 (by decide) ?_
  refine ev_istore_n dX5_movesTo_1 (by decide) ?_
  refine ev_iconst 0 dX5_movesTo_2 (by decide) ?_
  refine ev_istore_n dX5_movesTo_3 (by decide) ?_
  exact moves_loop hw h hp hm hv hk vs.length 0 (by omega) _ _
end MS2
