section MF
variable {β : ai_M} {d L : Nat} {pl : PLt} {mv : Bool} {b : Option (List Nat)} {σ0 σ : ai_M}
/-- the giving x in the reference's best rows -/
def BR (σ : ai_M) (pl : PLt) (x : List Nat) : Prop := (∀ w, w < 4 → σ 51 w = uOf pl x w) ∧ ∀ k, k < 16 → σ 52 k = fOf pl x k
theorem keepBound_ok (hw : WF β) (hr : RM σ0 β) (hp : PLok β pl) {x : List Nat} (h : NS0 σ0 β mv pl b x σ) (hx : x.length = pl.length) : ev mX5_keepBound (d + 2) 0 [some (.ref 35)] [] (LY L) σ 0 0 (Rv (LY L) (fun σ1 => NS0 σ0 β mv pl (some x) x σ1 ∧ σ1 51 = σ 51 ∧ σ1 52 = σ 52)) := by
  have h20 := hp.1
  have e17 := h.2.2.1.1
  have e22 := h.2.1.1
  have ek : nI pl.length - 1 = nI x.length - 1 := by rw [hx]
  have fin : ∀ m : Int32, m = nI (mvP β mv pl x) → ev mX5_keepBound (d + 2) 22 [some (.ref 35)] [.int m, .ref 35] (LY L) σ 0 0 (Rv (LY L) (fun σ1 => NS0 σ0 β mv pl (some x) x σ1 ∧ σ1 51 = σ 51 ∧ σ1 52 = σ 52)) := by
    intro m hm
    subst hm
    have g : SFr σ0 (ai_up σ 35 23 (nI (mvP β mv pl x))) := h.1.up35 (by decide)
    have gm : MS (ai_up σ 35 23 (nI (mvP β mv pl x))) pl x := h.2.2.1
    refine ev_putI dX5_keepBound_22 fX5_111 ⟨_, rfl, rfl⟩ rfl rfl ?_
    refine ev_aload_n dX5_keepBound_25 rfl ?_
    refine ev_aload_n dX5_keepBound_26 rfl ?_
    refine ev_aload_n dX5_keepBound_27 rfl ?_
    refine ev_getI dX5_keepBound_28 fX5_102 ⟨_, rfl, rfl⟩ ?_
    rw [show (ai_up σ 35 23 (nI (mvP β mv pl x))) 35 17 = nI pl.length from e17]
    refine ev_iconst 1 dX5_keepBound_31 (by decide) ?_
    refine ev_isub dX5_keepBound_32 ?_
    refine cVp1 dX5_keepBound_33 VX5_128 ⟨_, rfl⟩ rfl rfl (t_costTo hw (g.RM hr) hp gm h.2.2.2.1 ek) ?_
    refine ev_putI dX5_keepBound_36 fX5_114 ⟨_, rfl, rfl⟩ rfl rfl ?_
    refine ev_ret dX5_keepBound_39 rfl rfl ?_
    exact Rv.mk ⟨⟨g.up35 (by decide), ⟨e22, by omega, rfl, rfl⟩, h.2.2.1, h.2.2.2.1, h.2.2.2.2⟩, rfl, rfl⟩
  refine ev_aload_n dX5_keepBound_0 rfl ?_
  refine ev_aload_n dX5_keepBound_1 rfl ?_
  refine ev_getI dX5_keepBound_2 fX5_108 ⟨_, rfl, rfl⟩ ?_
  rw [e22]
  refine ev_if_eq 21 dX5_keepBound_5 (by decide) (fun c5 => ?_) (fun c5 => ?_)
  · refine ev_iconst 0 dX5_keepBound_21 (by decide) ?_
    cases mv with | true => (first | exact fin _ rfl | exact absurd c5 (by decide)) | false => (first | exact absurd rfl c5 | exact fin _ (by rw [mvP_false]; rfl))
  · refine ev_aload_n dX5_keepBound_8 rfl ?_
    refine ev_aload_n dX5_keepBound_9 rfl ?_
    refine ev_getI dX5_keepBound_10 fX5_102 ⟨_, rfl, rfl⟩ ?_
    rw [e17]
    refine ev_iconst 1 dX5_keepBound_13 (by decide) ?_
    refine ev_isub dX5_keepBound_14 ?_
    refine cVp1 dX5_keepBound_15 VX5_125 ⟨_, rfl⟩ rfl rfl (t_movesTo hw (h.1.RM hr) hp h.2.2.1 h.2.2.2.1 ek) ?_
    refine ev_goto 22 dX5_keepBound_18 (by decide) ?_
    cases mv with | true => (first | exact fin _ rfl | exact absurd c5 (by decide)) | false => (first | exact absurd rfl c5 | exact fin _ (by rw [mvP_false]; rfl))
theorem kb_l1 {Q : Option Value → ai_L → ai_M → Prop} {σ00 : ai_M} (K : ∀ σ1 : ai_M, (∀ j, σ1 51 j = if 0 ≤ j ∧ j < 0 + 4 then -6 else σ00 51 j) → (∀ c, c ≠ 51 → σ1 c = σ00 c) → ev mX5_keepBest d 21 [some (.ref 35), some (.int (nI 4))] [] (LY L) σ1 0 0 Q) :
    ∀ n i, i + n = 4 → ∀ σ1 : ai_M, (∀ j, σ1 51 j = if 0 ≤ j ∧ j < 0 + i then -6 else σ00 51 j) → (∀ c, c ≠ 51 → σ1 c = σ00 c) → ev mX5_keepBest d 2 [some (.ref 35), some (.int (nI i))] [] (LY L) σ1 0 0 Q := by
  intro n
  induction n with
  | zero =>
    intro i hi σ1 h1 h2
    obtain rfl : i = 4 := by omega
    refine ev_iload_n dX5_keepBest_2 rfl ?_
    refine ev_iconst 4 dX5_keepBest_3 (by decide) ?_
    refine ev_icmp_ge 21 dX5_keepBest_4 (by decide) (fun c4 => ?_) (fun c4 => absurd (nI_le (a := 4) (b := 4) (by omega) (by decide)) c4)
    exact K σ1 h1 h2
  | succ n ih =>
    intro i hi σ1 h1 h2
    refine ev_iload_n dX5_keepBest_2 rfl ?_
    refine ev_iconst 4 dX5_keepBest_3 (by decide) ?_
    refine ev_icmp_ge 21 dX5_keepBest_4 (by decide) (fun c4 => absurd c4 (nI_ge (b := 4) (by omega) (by decide))) (fun c4 => ?_)
    refine ev_aload_n dX5_keepBest_7 rfl ?_
    refine ev_getR dX5_keepBest_8 fX5_59 ⟨_, rfl, rfl⟩ ?_
    refine ev_iload_n dX5_keepBest_11 rfl ?_
    refine ev_bipush (-6) dX5_keepBest_12 (by decide) ?_
    refine ev_iastore dX5_keepBest_14 (by decide) rfl (vp_in_nI (by omega) (by decide)) ?_
    rw [clN (by omega)]
    refine ev_iinc _ dX5_keepBest_15 rfl rfl (by decide) ?_
    rw [show nI i + Int32.ofInt 1 = nI (i + 1) from nI_1 i]
    refine ev_goto 2 dX5_keepBest_18 (by decide) ?_
    refine ih (i + 1) (by omega) _ (fun j => ?_) (fun c hc => by rw [ai_up, if_neg hc]; exact h2 c hc)
    rw [ai_up, if_pos rfl]
    have := fillS h1 j
    rw [Nat.zero_add] at this
    exact this
theorem kb_l2 {Q : Option Value → ai_L → ai_M → Prop} {σ00 : ai_M} (K : ∀ σ1 : ai_M, (∀ j, σ1 52 j = if 0 ≤ j ∧ j < 0 + 16 then -6 else σ00 52 j) → (∀ c, c ≠ 52 → σ1 c = σ00 c) → ev mX5_keepBest d 43 [some (.ref 35), some (.int (nI 16))] [] (LY L) σ1 0 0 Q) :
    ∀ n i, i + n = 16 → ∀ σ1 : ai_M, (∀ j, σ1 52 j = if 0 ≤ j ∧ j < 0 + i then -6 else σ00 52 j) → (∀ c, c ≠ 52 → σ1 c = σ00 c) → ev mX5_keepBest d 23 [some (.ref 35), some (.int (nI i))] [] (LY L) σ1 0 0 Q := by
  intro n
  induction n with
  | zero =>
    intro i hi σ1 h1 h2
    obtain rfl : i = 16 := by omega
    refine ev_iload_n dX5_keepBest_23 rfl ?_
    refine ev_bipush 16 dX5_keepBest_24 (by decide) ?_
    refine ev_icmp_ge 43 dX5_keepBest_26 (by decide) (fun c26 => ?_) (fun c26 => absurd (nI_le (a := 16) (b := 16) (by omega) (by decide)) c26)
    exact K σ1 h1 h2
  | succ n ih =>
    intro i hi σ1 h1 h2
    refine ev_iload_n dX5_keepBest_23 rfl ?_
    refine ev_bipush 16 dX5_keepBest_24 (by decide) ?_
    refine ev_icmp_ge 43 dX5_keepBest_26 (by decide) (fun c26 => absurd c26 (nI_ge (b := 16) (by omega) (by decide))) (fun c26 => ?_)
    refine ev_aload_n dX5_keepBest_29 rfl ?_
    refine ev_getR dX5_keepBest_30 fX5_62 ⟨_, rfl, rfl⟩ ?_
    refine ev_iload_n dX5_keepBest_33 rfl ?_
    refine ev_bipush (-6) dX5_keepBest_34 (by decide) ?_
    refine ev_iastore dX5_keepBest_36 (by decide) rfl (vp_in_nI (by omega) (by decide)) ?_
    rw [clN (by omega)]
    refine ev_iinc _ dX5_keepBest_37 rfl rfl (by decide) ?_
    rw [show nI i + Int32.ofInt 1 = nI (i + 1) from nI_1 i]
    refine ev_goto 23 dX5_keepBest_40 (by decide) ?_
    refine ih (i + 1) (by omega) _ (fun j => ?_) (fun c hc => by rw [ai_up, if_neg hc]; exact h2 c hc)
    rw [ai_up, if_pos rfl]
    have := fillS h1 j
    rw [Nat.zero_add] at this
    exact this
theorem kb_l3 (hw : WF β) (hp : PLok β pl) {x : List Nat} (hx : x.length = pl.length) {Q : Option Value → ai_L → ai_M → Prop} {σ00 : ai_M} (hm : MS σ00 pl x) (K : ∀ σ1 : ai_M, (∀ w, w < 4 → σ1 51 w = uR pl x pl.length w) → (∀ k, k < 16 → σ1 52 k = fR pl x pl.length k) → (∀ c, c ≠ 51 → c ≠ 52 → σ1 c = σ00 c) → ev mX5_keepBest d 115 [some (.ref 35), some (.int (nI pl.length))] [] (LY L) σ1 0 0 Q) :
    ∀ n i, i + n = pl.length → ∀ σ1 : ai_M, (∀ w, w < 4 → σ1 51 w = uR pl x i w) → (∀ k, k < 16 → σ1 52 k = fR pl x i k) → (∀ c, c ≠ 51 → c ≠ 52 → σ1 c = σ00 c) → ev mX5_keepBest d 45 [some (.ref 35), some (.int (nI i))] [] (LY L) σ1 0 0 Q := by
  have h20 := hp.1
  have hw4 := hw.1.2.2.2.2.2.2.2.2
  intro n
  induction n with
  | zero =>
    intro i hi σ1 h1 h2 h3
    obtain rfl : i = pl.length := by omega
    have e17 : σ1 35 17 = nI pl.length := by rw [h3 35 (by decide) (by decide)]; exact hm.1
    refine ev_iload_n dX5_keepBest_45 rfl ?_
    refine ev_aload_n dX5_keepBest_46 rfl ?_
    refine ev_getI dX5_keepBest_47 fX5_102 ⟨_, rfl, rfl⟩ ?_
    rw [e17]
    refine ev_icmp_ge 115 dX5_keepBest_50 (by decide) (fun c50 => ?_) (fun c50 => absurd (nI_le (by omega) (by omega)) c50)
    exact K σ1 h1 h2 h3
  | succ n ih =>
    intro i hi σ1 h1 h2 h3
    have e17 : σ1 35 17 = nI pl.length := by rw [h3 35 (by decide) (by decide)]; exact hm.1
    obtain ⟨⟨w, o⟩, ho⟩ : ∃ q, pl[i]? = some q := ⟨_, List.getElem?_eq_getElem (by omega)⟩
    have hv : x[i]? = some (x.getD i 0) := by rw [List.getD_eq_getElem?_getD, List.getElem?_eq_getElem (by omega)]; rfl
    have e48 : σ1 48 i = nI w := by rw [h3 48 (by decide) (by decide)]; exact (hm.2.1 i w o ho).1
    have e49 : σ1 49 i = rc o := by rw [h3 49 (by decide) (by decide)]; exact (hm.2.1 i w o ho).2
    have e50 : σ1 50 i = nI (x.getD i 0) := by rw [h3 50 (by decide) (by decide)]; exact hm.2.2 i _ hv
    have hwo := hp.2.1 i w o ho
    have iff := rc_m1 hwo.2
    have hin : vp_in (nI i) 20 := vp_in_nI (by omega) (by decide)
    have ic : (nI i).toNatClampNeg = i := clN (by omega)
    have icw : (nI w).toNatClampNeg = w := clN (by omega)
    cases o with
    | none =>
      refine ev_iload_n dX5_keepBest_45 rfl ?_
      refine ev_aload_n dX5_keepBest_46 rfl ?_
      refine ev_getI dX5_keepBest_47 fX5_102 ⟨_, rfl, rfl⟩ ?_
      rw [e17]
      refine ev_icmp_ge 115 dX5_keepBest_50 (by decide) (fun c50 => absurd c50 (nI_ge (by omega) (by omega))) (fun c50 => ?_)
      refine ev_aload_n dX5_keepBest_53 rfl ?_
      refine ev_getR dX5_keepBest_54 fX5_53 ⟨_, rfl, rfl⟩ ?_
      refine ev_iload_n dX5_keepBest_57 rfl ?_
      refine ev_iaload dX5_keepBest_58 rfl hin ?_
      rw [ic, e49]
      refine ev_iconst (-1) dX5_keepBest_59 (by decide) ?_
      refine ev_icmp_ne 83 dX5_keepBest_60 (by decide) (fun c60 => absurd rfl c60) (fun c60 => ?_)
      refine ev_aload_n dX5_keepBest_63 rfl ?_
      refine ev_getR dX5_keepBest_64 fX5_59 ⟨_, rfl, rfl⟩ ?_
      refine ev_aload_n dX5_keepBest_67 rfl ?_
      refine ev_getR dX5_keepBest_68 fX5_50 ⟨_, rfl, rfl⟩ ?_
      refine ev_iload_n dX5_keepBest_71 rfl ?_
      refine ev_iaload dX5_keepBest_72 rfl hin ?_
      rw [ic, e48]
      refine ev_aload_n dX5_keepBest_73 rfl ?_
      refine ev_getR dX5_keepBest_74 fX5_56 ⟨_, rfl, rfl⟩ ?_
      refine ev_iload_n dX5_keepBest_77 rfl ?_
      refine ev_iaload dX5_keepBest_78 rfl hin ?_
      rw [ic, e50]
      refine ev_iastore dX5_keepBest_79 (by decide) rfl (vp_in_nI (by omega) (by decide)) ?_
      rw [icw]
      refine ev_goto 109 dX5_keepBest_80 (by decide) ?_
      refine ev_iinc _ dX5_keepBest_109 rfl rfl (by decide) ?_
      rw [show nI i + Int32.ofInt 1 = nI (i + 1) from nI_1 i]
      refine ev_goto 45 dX5_keepBest_112 (by decide) ?_
      refine ih (i + 1) (by omega) _ (fun w' hw' => ?_) (fun k hk => ?_) (fun c a1 a2 => by rw [ai_up, if_neg a1]; exact h3 c a1 a2)
      · show upd (σ1 51) w _ w' = _; rw [uR, ho, upd]; by_cases q : w' = w; rw [if_pos q]; exact (if_pos q).symm; rw [if_neg q, h1 w' hw']; exact (if_neg q).symm
      · show σ1 52 k = _; rw [fR, ho]; exact h2 k hk
    | some r =>
      have hr4 := hwo.2 r rfl
      have e4 : 4 * nI w + nI r = nI (4 * w + r) := by rw [show (4 : Int32) = nI 4 from rfl, pk_mul, nI_add]
      have hne : ¬ rc (some r) = -1 := fun q => by have := iff.mp q; cases this
      refine ev_iload_n dX5_keepBest_45 rfl ?_
      refine ev_aload_n dX5_keepBest_46 rfl ?_
      refine ev_getI dX5_keepBest_47 fX5_102 ⟨_, rfl, rfl⟩ ?_
      rw [e17]
      refine ev_icmp_ge 115 dX5_keepBest_50 (by decide) (fun c50 => absurd c50 (nI_ge (by omega) (by omega))) (fun c50 => ?_)
      refine ev_aload_n dX5_keepBest_53 rfl ?_
      refine ev_getR dX5_keepBest_54 fX5_53 ⟨_, rfl, rfl⟩ ?_
      refine ev_iload_n dX5_keepBest_57 rfl ?_
      refine ev_iaload dX5_keepBest_58 rfl hin ?_
      rw [ic, e49]
      refine ev_iconst (-1) dX5_keepBest_59 (by decide) ?_
      refine ev_icmp_ne 83 dX5_keepBest_60 (by decide) (fun c60 => ?_) (fun c60 => absurd c60 hne)
      refine ev_aload_n dX5_keepBest_83 rfl ?_
      refine ev_getR dX5_keepBest_84 fX5_62 ⟨_, rfl, rfl⟩ ?_
      refine ev_iconst 4 dX5_keepBest_87 (by decide) ?_
      refine ev_aload_n dX5_keepBest_88 rfl ?_
      refine ev_getR dX5_keepBest_89 fX5_50 ⟨_, rfl, rfl⟩ ?_
      refine ev_iload_n dX5_keepBest_92 rfl ?_
      refine ev_iaload dX5_keepBest_93 rfl hin ?_
      rw [ic, e48]
      refine ev_imul dX5_keepBest_94 ?_
      refine ev_aload_n dX5_keepBest_95 rfl ?_
      refine ev_getR dX5_keepBest_96 fX5_53 ⟨_, rfl, rfl⟩ ?_
      refine ev_iload_n dX5_keepBest_99 rfl ?_
      refine ev_iaload dX5_keepBest_100 rfl hin ?_
      rw [ic, e49, show rc (some r) = nI r from rfl]
      refine ev_iadd dX5_keepBest_101 ?_
      rw [e4]
      refine ev_aload_n dX5_keepBest_102 rfl ?_
      refine ev_getR dX5_keepBest_103 fX5_56 ⟨_, rfl, rfl⟩ ?_
      refine ev_iload_n dX5_keepBest_106 rfl ?_
      refine ev_iaload dX5_keepBest_107 rfl hin ?_
      rw [ic, e50]
      refine ev_iastore dX5_keepBest_108 (by decide) rfl (vp_in_nI (by omega) (by decide)) ?_
      rw [clN (by omega)]
      refine ev_iinc _ dX5_keepBest_109 rfl rfl (by decide) ?_
      rw [show nI i + Int32.ofInt 1 = nI (i + 1) from nI_1 i]
      refine ev_goto 45 dX5_keepBest_112 (by decide) ?_
      refine ih (i + 1) (by omega) _ (fun w' hw' => ?_) (fun k hk => ?_) (fun c a1 a2 => by rw [ai_up, if_neg a2]; exact h3 c a1 a2)
      · show σ1 51 w' = _; rw [uR, ho]; exact h1 w' hw'
      · show upd (σ1 52) (4 * w + r) _ k = _; rw [fR, ho, upd]; by_cases q : k = 4 * w + r; rw [if_pos q]; exact (if_pos q).symm; rw [if_neg q, h2 k hk]; exact (if_neg q).symm
theorem keepBest_ok (hw : WF β) (hr : RM σ0 β) (hp : PLok β pl) {x : List Nat} (h : NS0 σ0 β mv pl b x σ) (hx : x.length = pl.length) : ev mX5_keepBest (d + 3) 0 [some (.ref 35), none] [] (LY L) σ 0 0 (Rv (LY L) (fun σ1 => NS0 σ0 β mv pl (some x) x σ1 ∧ BR σ1 pl x)) := by
  refine ev_iconst 0 dX5_keepBest_0 (by decide) ?_
  refine ev_istore_n dX5_keepBest_1 (by decide) ?_
  refine kb_l1 (fun σ1 a1 a2 => ?_) 4 0 rfl _ (fun j => by rw [if_neg (by omega)]) (fun _ _ => rfl)
  refine ev_iconst 0 dX5_keepBest_21 (by decide) ?_
  refine ev_istore_n dX5_keepBest_22 (by decide) ?_
  refine kb_l2 (fun σ2 b1 b2 => ?_) 16 0 rfl _ (fun j => by rw [if_neg (by omega)]) (fun _ _ => rfl)
  refine ev_iconst 0 dX5_keepBest_43 (by decide) ?_
  refine ev_istore_n dX5_keepBest_44 (by decide) ?_
  have e : ∀ c, c ≠ 51 → c ≠ 52 → σ2 c = σ c := fun c q1 q2 => (b2 c q2).trans (a2 c q1)
  have hm2 : MS σ2 pl x := ⟨by rw [e 35 (by decide) (by decide)]; exact h.2.2.1.1, fun p w o hq => by rw [e 48 (by decide) (by decide), e 49 (by decide) (by decide)]; exact h.2.2.1.2.1 p w o hq, fun p v hv => by rw [e 50 (by decide) (by decide)]; exact h.2.2.1.2.2 p v hv⟩
  refine kb_l3 hw hp hx hm2 (fun σ3 k1 k2 k3 => ?_) pl.length 0 (by omega) _ (fun w hw' => by rw [b2 51 (by decide), a1 w, if_pos (by omega)]; rfl) (fun k hk => by rw [b1 k, if_pos (by omega)]; rfl) (fun _ _ _ => rfl)
  have e3 : ∀ c, c ≠ 51 → c ≠ 52 → σ3 c = σ c := fun c q1 q2 => (k3 c q1 q2).trans (e c q1 q2)
  have hns : NS0 σ0 β mv pl b x σ3 := by
    refine ⟨⟨fun c q1 q2 => by rw [e3 c (by omega) (by omega)]; exact h.1.1 c q1 q2, fun k q => by rw [e3 35 (by decide) (by decide)]; exact h.1.2 k q⟩, ?_, ⟨by rw [e3 35 (by decide) (by decide)]; exact h.2.2.1.1, fun p w o hq => by rw [e3 48 (by decide) (by decide), e3 49 (by decide) (by decide)]; exact h.2.2.1.2.1 p w o hq, fun p v hv => by rw [e3 50 (by decide) (by decide)]; exact h.2.2.1.2.2 p v hv⟩, h.2.2.2.1, by rw [e3 35 (by decide) (by decide)]; exact h.2.2.2.2⟩
    unfold MBd
    rw [e3 35 (by decide) (by decide)]
    exact h.2.1
  refine ev_aload_n dX5_keepBest_115 rfl ?_
  refine cVv0 dX5_keepBest_116 VX5_137 ⟨_, rfl⟩ rfl (keepBound_ok hw hr hp hns hx) ?_
  rintro σ4 ⟨g1, g2, g3⟩
  refine ev_ret dX5_keepBest_119 rfl rfl ?_
  refine Rv.mk ⟨g1, fun w hw' => ?_, fun k hk => ?_⟩
  · rw [g2, k1 w hw', uOf, hx]
  · rw [g3, k2 k hk, fOf, hx]
end MF
