section MF
variable {β : ai_M} {d L : Nat} {pl : PLt} {mv : Bool} {b : Option (List Nat)} {σ0 σ : ai_M}
/-- the giving x in the reference's best rows -/
def BR (σ : ai_M) (pl : PLt) (x : List Nat) : Prop := (∀ w, w < 4 → σ 51 w = uOf pl x w) ∧ ∀ k, k < 16 → σ 52 k = fOf pl x k
theorem keepBound_ok (hw : WF β) (hr : RM σ0 β) (hp : PLok β pl) {x : List Nat} (h : NS σ0 β mv pl b x σ) (hx : x.length = pl.length) : ev mX5_keepBound (d + 2) 0 [some (.ref 35)] [] (LY L) σ 0 0 (Rv (LY L) (fun σ1 => NS σ0 β mv pl (some x) x σ1 ∧ σ1 51 = σ 51 ∧ σ1 52 = σ 52)) := by
  have h20 := hp.1
  have e17 := h.2.2.1.1
  have e22 := h.2.1.1
  have ek : nI pl.length - 1 = nI x.length - 1 := by rw [hx]
  have fin : ∀ m : Int32, m = nI (mvP β mv pl x) → ev mX5_keepBound (d + 2) 22 [some (.ref 35)] [.int m, .ref 35] (LY L) σ 0 0 (Rv (LY L) (fun σ1 => NS σ0 β mv pl (some x) x σ1 ∧ σ1 51 = σ 51 ∧ σ1 52 = σ 52)) := by
    intro m hm
    subst hm
    have g : SFr σ0 (ai_up σ 35 23 (nI (mvP β mv pl x))) := h.1.up35 (by decide)
    have gm : MS (ai_up σ 35 23 (nI (mvP β mv pl x))) pl x := h.2.2.1
    refine ev_putI dX5_keepBound_22 fX5_111 ⟨_, rfl, rfl⟩ rfl rfl ?_
    refine ev_aload_n dX5_keepBound_25 rfl ?_
    refine ev_aload_n dX5_keepBound_26 rfl ?_
    refine ev_aload_n dX5_keepBound_27 rfl ?_
    refine ev_getI dX5_keepBound_28 fX5_102 ⟨_, rfl, rfl⟩ ?_
    rw [show (ai_up σ 35 23 (nI (mvP β mv pl x))) 35 17 = nI pl.length from e17]
    refine ev_iconst 1 dX5_keepBound_31 (by decide) ?_
    refine ev_isub dX5_keepBound_32 ?_
    refine cVp1 dX5_keepBound_33 VX5_128 ⟨_, rfl⟩ rfl rfl (t_costTo hw (g.RM hr) hp gm h.2.2.2.1 ek) ?_
    refine ev_putI dX5_keepBound_36 fX5_114 ⟨_, rfl, rfl⟩ rfl rfl ?_
    refine ev_ret dX5_keepBound_39 rfl rfl ?_
    exact Rv.mk ⟨⟨g.up35 (by decide), ⟨e22, by omega, rfl, rfl⟩, h.2.2.1, h.2.2.2.1, h.2.2.2.2⟩, rfl, rfl⟩
  refine ev_aload_n dX5_keepBound_0 rfl ?_
  refine ev_aload_n dX5_keepBound_1 rfl ?_
  refine ev_getI dX5_keepBound_2 fX5_108 ⟨_, rfl, rfl⟩ ?_
  rw [e22]
  refine ev_if_eq 21 dX5_keepBound_5 (by decide) (fun c5 => ?_) (fun c5 => ?_)
  · refine ev_iconst 0 dX5_keepBound_21 (by decide) ?_
    cases mv with | true => (first | exact fin _ rfl | exact absurd c5 (by decide)) | false => (first | exact absurd rfl c5 | exact fin _ (by rw [mvP_false]; rfl))
  · refine ev_aload_n dX5_keepBound_8 rfl ?_
    refine ev_aload_n dX5_keepBound_9 rfl ?_
    refine ev_getI dX5_keepBound_10 fX5_102 ⟨_, rfl, rfl⟩ ?_
    rw [e17]
    refine ev_iconst 1 dX5_keepBound_13 (by decide) ?_
    refine ev_isub dX5_keepBound_14 ?_
    refine cVp1 dX5_keepBound_15 VX5_125 ⟨_, rfl⟩ rfl rfl (t_movesTo hw (h.1.RM hr) hp h.2.2.1 h.2.2.2.1 ek) ?_
    refine ev_goto 22 dX5_keepBound_18 (by decide) ?_
    cases mv with | true => (first | exact fin _ rfl | exact absurd c5 (by decide)) | false => (first | exact absurd rfl c5 | exact fin _ (by rw [mvP_false]; rfl))
theorem kb_l1 {Q : Option Value → ai_L → ai_M → Prop} {σ00 : ai_M} (K : ∀ σ1 : ai_M, (∀ j, σ1 51 j = if 0 ≤ j ∧ j < 0 + 4 then -6 else σ00 51 j) → (∀ c, c ≠ 51 → σ1 c = σ00 c) → ev mX5_keepBest d 21 [some (.ref 35), some (.int (nI 4))] [] (LY L) σ1 0 0 Q) :
    ∀ n i, i + n = 4 → ∀ σ1 : ai_M, (∀ j, σ1 51 j = if 0 ≤ j ∧ j < 0 + i then -6 else σ00 51 j) → (∀ c, c ≠ 51 → σ1 c = σ00 c) → ev mX5_keepBest d 2 [some (.ref 35), some (.int (nI i))] [] (LY L) σ1 0 0 Q := by
  intro n
  induction n with
  | zero =>
    intro i hi σ1 h1 h2
    obtain rfl : i = 4 := by omega
    refine ev_iload_n dX5_keepBest_2 rfl ?_
    refine ev_iconst 4 dX5_keepBest_3 (by decide) ?_
    refine ev_icmp_ge 21 dX5_keepBest_4 (by decide) (fun c4 => ?_) (fun c4 => absurd (nI_le (a := 4) (b := 4) (by omega) (by decide)) c4)
    exact K σ1 h1 h2
  | succ n ih =>
    intro i hi σ1 h1 h2
    refine ev_iload_n dX5_keepBest_2 rfl ?_
    refine ev_iconst 4 dX5_keepBest_3 (by decide) ?_
    refine ev_icmp_ge 21 dX5_keepBest_4 (by decide) (fun c4 => absurd c4 (nI_ge (b := 4) (by omega) (by decide))) (fun c4 => ?_)
    refine ev_aload_n dX5_keepBest_7 rfl ?_
    refine ev_getR dX5_keepBest_8 fX5_59 ⟨_, rfl, rfl⟩ ?_
    refine ev_iload_n dX5_keepBest_11 rfl ?_
    refine ev_bipush (-6) dX5_keepBest_12 (by decide) ?_
    refine ev_iastore dX5_keepBest_14 (by decide) rfl (vp_in_nI (by omega) (by decide)) ?_
    rw [clN (by omega)]
    refine ev_iinc _ dX5_keepBest_15 rfl rfl (by decide) ?_
    rw [show nI i + Int32.ofInt 1 = nI (i + 1) from nI_1 i]
    refine ev_goto 2 dX5_keepBest_18 (by decide) ?_
    refine ih (i + 1) (by omega) _ (fun j => ?_) (fun c hc => by rw [ai_up, if_neg hc]; exact h2 c hc)
    rw [ai_up, if_pos rfl]
    have := fillS h1 j
    rw [Nat.zero_add] at this
    exact this
theorem kb_l2 {Q : Option Value → ai_L → ai_M → Prop} {σ00 : ai_M} (K : ∀ σ1 : ai_M, (∀ j, σ1 52 j = if 0 ≤ j ∧ j < 0 + 16 then -6 else σ00 52 j) → (∀ c, c ≠ 52 → σ1 c = σ00 c) → ev mX5_keepBest d 43 [some (.ref 35), some (.int (nI 16))] [] (LY L) σ1 0 0 Q) :
    ∀ n i, i + n = 16 → ∀ σ1 : ai_M, (∀ j, σ1 52 j = if 0 ≤ j ∧ j < 0 + i then -6 else σ00 52 j) → (∀ c, c ≠ 52 → σ1 c = σ00 c) → ev mX5_keepBest d 23 [some (.ref 35), some (.int (nI i))] [] (LY L) σ1 0 0 Q := by
  intro n
  induction n with
  | zero =>
    intro i hi σ1 h1 h2
    obtain rfl : i = 16 := by omega
    refine ev_iload_n dX5_keepBest_23 rfl ?_
    refine ev_bipush 16 dX5_keepBest_24 (by decide) ?_
    refine ev_icmp_ge 43 dX5_keepBest_26 (by decide) (fun c26 => ?_) (fun c26 => absurd (nI_le (a := 16) (b := 16) (by omega) (by decide)) c26)
    exact K σ1 h1 h2
  | succ n ih =>
    intro i hi σ1 h1 h2
    refine ev_iload_n dX5_keepBest_23 rfl ?_
    refine ev_bipush 16 dX5_keepBest_24 (by decide) ?_
    refine ev_icmp_ge 43 dX5_keepBest_26 (by decide) (fun c26 => absurd c26 (nI_ge (b := 16) (by omega) (by decide))) (fun c26 => ?_)
    refine ev_aload_n dX5_keepBest_29 rfl ?_
    refine ev_getR dX5_keepBest_30 fX5_62 ⟨_, rfl, rfl⟩ ?_
    refine ev_iload_n dX5_keepBest_33 rfl ?_
    refine ev_bipush (-6) dX5_keepBest_34 (by decide) ?_
    refine ev_iastore dX5_keepBest_36 (by decide) rfl (vp_in_nI (by omega) (by decide)) ?_
    rw [clN (by omega)]
    refine ev_iinc _ dX5_keepBest_37 rfl rfl (by decide) ?_
    rw [show nI i + Int32.ofInt 1 = nI (i + 1) from nI_1 i]
    refine ev_goto 23 dX5_keepBest_40 (by decide) ?_
    refine ih (i + 1) (by omega) _ (fun j => ?_) (fun c hc => by rw [ai_up, if_neg hc]; exact h2 c hc)
    rw [ai_up, if_pos rfl]
    have := fillS h1 j
    rw [Nat.zero_add] at this
    exact this
end MF
