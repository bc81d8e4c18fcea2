def tbN : List Nat := [1, 2, 4, 8, 3, 5, 9, 6, 10, 12, 7, 11, 13, 14, 15]
def stN (k : Nat) : Nat := tbN.getD k 0
def rkN (s : Nat) : Nat := [0, 0, 1, 4, 2, 5, 7, 10, 3, 6, 8, 11, 9, 12, 13, 14].getD s 0
theorem tb_st : ∀ k, k < 15 → ai_tb k = nI (stN k) := by decide +kernel
theorem rk_ah : ∀ m, m < 16 → ∀ b, b < m → 1 ≤ b → ahB m b = decide (rkN m < rkN b) := by decide +kernel
theorem rk_st : ∀ k, k < 15 → rkN (stN k) = k ∧ 1 ≤ stN k ∧ stN k ≤ 15 := by decide +kernel
theorem st_rk : ∀ s, s < 16 → 1 ≤ s → stN (rkN s) = s ∧ rkN s < 15 := by decide +kernel
theorem rk_all : ∀ n, n < 5 → ∀ s, s < 2 ^ n - 1 → 1 ≤ s → rkN s < rkN (2 ^ n - 1) := by decide +kernel
theorem st_in : ∀ n, n < 5 → ∀ k, k < 15 → (nI (stN k) &&& (nI (2 ^ n - 1) ^^^ (-1)) = 0 ↔ stN k ≤ 2 ^ n - 1) := by decide +kernel
theorem blM_spec (β : ai_M) : ∀ n, n < 16 → (blM β n = 0 ∧ ∀ s, 1 ≤ s → s ≤ n → posB β s = true) ∨ (1 ≤ blM β n ∧ blM β n ≤ n ∧ posB β (blM β n) = false ∧ ∀ s, 1 ≤ s → s ≤ n → posB β s = false → rkN (blM β n) ≤ rkN s)
  | 0, _ => Or.inl ⟨rfl, fun s a b => by omega⟩
  | n + 1, h => by
    have e : blM β (n + 1) = if ahB (n + 1) (blM β n) && !posB β (n + 1) then n + 1 else blM β n := rfl
    rcases blM_spec β n (by omega) with ⟨h0, h1⟩ | ⟨h1, h2, h3, h4⟩
    · rw [h0, ah_1 rfl, Bool.true_and] at e
      cases hp : posB β (n + 1) with
      | true =>
        rw [hp] at e
        refine Or.inl ⟨e, fun s a b => ?_⟩
        by_cases q : s = n + 1
        · rw [q]; exact hp
        · exact h1 s a (by omega)
      | false =>
        rw [hp] at e
        have e' : blM β (n + 1) = n + 1 := e
        rw [e']
        refine Or.inr ⟨by omega, Nat.le_refl _, hp, fun s a b z => ?_⟩
        by_cases q : s = n + 1
        · rw [q]; exact Nat.le_refl _
        · rw [h1 s a (by omega)] at z; cases z
    · rw [rk_ah (n + 1) h _ (by omega) h1] at e
      by_cases hc : (decide (rkN (n + 1) < rkN (blM β n)) && !posB β (n + 1)) = true
      · rw [if_pos hc] at e
        rw [Bool.and_eq_true, decide_eq_true_eq] at hc
        rw [e]
        have hp : posB β (n + 1) = false := by simpa using hc.2
        refine Or.inr ⟨by omega, Nat.le_refl _, hp, fun s a b z => ?_⟩
        by_cases q : s = n + 1
        · rw [q]; exact Nat.le_refl _
        · have := h4 s a (by omega) z; omega
      · rw [if_neg hc] at e
        rw [e]
        refine Or.inr ⟨h1, by omega, h3, fun s a b z => ?_⟩
        by_cases q : s = n + 1
        · rw [q] at z ⊢
          rw [z, Bool.not_false, Bool.and_true, decide_eq_true_eq] at hc
          omega
        · exact h4 s a (by omega) z
theorem posB_iff {β : ai_M} {m : Nat} : posB β m = true ↔ gvA β (mS m) ≠ [] := by
  unfold posB
  show (!(gvA β (mS m)).isEmpty) = true ↔ _
  cases gvA β (mS m) <;> simp
theorem posB_sub {β : ai_M} (h : gvA β allS ≠ []) (m : Nat) : posB β m = true := by
  obtain ⟨U, F, ho⟩ := pos_iff.mp h
  exact posB_iff.mpr (pos_iff.mpr ⟨U, F, ho.sub (fun w _ => rfl)⟩)
theorem posB_all {β : ai_M} : gvA β (mS (2 ^ nW β - 1)) = gvA β allS := by
  have e : pls β (mS (2 ^ nW β - 1)) = pls β allS := pls_congr (fun w hlt => by
    show (2 ^ nW β - 1).testBit w = true
    rw [Nat.testBit_two_pow_sub_one]; simp [hlt])
  unfold gvA
  rw [e]
section CBL
variable {σ β : ai_M} {d L : Nat}
def fr14 (σ σ' : ai_M) : Prop := ∀ c, c ≠ 14 → (c < 15 ∨ 28 < c) → σ' c = σ c
theorem t_isPossible (hw : WF β) (h : RB σ β) {s : Nat} (hs : s < 2 ^ 31) : ev mX4_isPossible (d + 29) 0 [some (.ref 2), some (.int (nI s))] [] (LY L) σ 0 0 (Ri (LY L) (fun x σ' => x = bI (posB β s = true) ∧ fr14 σ σ')) := by
  refine ev_aload_n dX4_isPossible_0 rfl ?_
  refine ev_getR dX4_isPossible_1 fX4_26 ⟨_, rfl, rfl⟩ ?_
  refine ev_aload_n dX4_isPossible_4 rfl ?_
  refine ev_getR dX4_isPossible_5 fX4_10 ⟨_, rfl, rfl⟩ ?_
  refine ev_aload_n dX4_isPossible_8 rfl ?_
  refine ev_getR dX4_isPossible_9 fX4_19 ⟨_, rfl, rfl⟩ ?_
  refine ev_iload_n dX4_isPossible_12 rfl ?_
  refine cVv3 dX4_isPossible_13 VX4_147 ⟨_, rfl⟩ rfl rfl rfl rfl (t_aim (d := d + 25) (m := s) hw h hs) ?_
  rintro σ1 ⟨a1, a2, a3, a4, a5⟩
  refine ev_aload_n dX4_isPossible_16 rfl ?_
  refine ev_getR dX4_isPossible_17 fX4_26 ⟨_, rfl, rfl⟩ ?_
  refine ev_iconst 1 dX4_isPossible_20 (by decide) ?_
  refine cVi1 dX4_isPossible_21 VX4_152 ⟨_, rfl⟩ rfl rfl (t_countUpTo (d := d) (m := s) (mv := false) (l := 1) hw a1 (Or.inl ⟨rfl, a2⟩) a3 a4 (by decide) (by decide)) ?_
  rintro r σ2 ⟨rfl, b2⟩
  have fr : fr14 σ σ2 := fun c q1 q2 => by rw [b2 c q1 (by omega) (by omega) (by omega)]; exact a5 c q1 (by omega)
  cases hl : gvA β (mS s) with
  | nil =>
    have hp : ¬ posB β s = true := fun q => posB_iff.mp q hl
    refine ev_if_le 31 dX4_isPossible_24 (by decide) (fun c24 => ?_) (fun c24 => absurd (by decide) c24)
    refine ev_iconst 0 dX4_isPossible_31 (by decide) ?_
    refine ev_ireturn dX4_isPossible_32 rfl rfl rfl ?_
    exact Ri.mk ⟨bI_f hp, fr⟩
  | cons x t =>
    have hp : posB β s = true := posB_iff.mpr (by rw [hl]; exact List.cons_ne_nil _ _)
    rw [List.length_cons, show min 1 (t.length + 1) = 1 by omega]
    refine ev_if_le 31 dX4_isPossible_24 (by decide) (fun c24 => absurd c24 (by decide)) (fun c24 => ?_)
    refine ev_iconst 1 dX4_isPossible_27 (by decide) ?_
    refine ev_goto 32 dX4_isPossible_28 (by decide) ?_
    refine ev_ireturn dX4_isPossible_32 rfl rfl rfl ?_
    exact Ri.mk ⟨bI_t hp, fr⟩
theorem blame_go (hw : WF β) (h : RB σ β) (hS : σ 1 = ai_tb) (hno : posB β (2 ^ nW β - 1) = false) : ∀ n i, i + n = 15 → ∀ (σ1 : ai_M), fr14 σ σ1 → (∀ j, j < i → stN j ≤ 2 ^ nW β - 1 → stN j ≠ 2 ^ nW β - 1 → posB β (stN j) = true) → ev mX4_blame (d + 30) 29 [some (.ref 2), some (.int (nI (2 ^ nW β - 1))), some (.int (nI i))] [] (LY L) σ1 0 0 (Ri (LY L) (fun r σ' => r = nI (blM β (2 ^ nW β - 1)) ∧ fr14 σ σ')) := by
  have h4 := hw.1.2.2.2.2.2.2.2.2
  have hpow : 2 ^ nW β ≤ 2 ^ 4 := Nat.pow_le_pow_right (by omega) h4
  have hpos := Nat.two_pow_pos (nW β)
  have hspec := blM_spec β (2 ^ nW β - 1) (by omega)
  intro n
  induction n with
  | zero =>
    intro i hi σ1 hf hj
    obtain rfl : i = 15 := by omega
    have e : blM β (2 ^ nW β - 1) = 2 ^ nW β - 1 := by
      rcases hspec with ⟨h0, h1⟩ | ⟨h1, h2, h3, h5⟩
      · rw [h0]
        rcases Nat.eq_zero_or_pos (2 ^ nW β - 1) with z | z
        · omega
        · have := h1 _ z (Nat.le_refl _); rw [hno] at this; cases this
      · apply Decidable.byContradiction
        intro hne
        obtain ⟨s1, s2⟩ := st_rk _ (show blM β (2 ^ nW β - 1) < 16 by omega) h1
        have := hj _ s2 (by rw [s1]; exact h2) (by rw [s1]; exact hne)
        rw [s1, h3] at this; cases this
    refine ev_iload_n dX4_blame_29 rfl ?_
    refine ev_sets dX4_blame_30 fS_X4_141 ?_
    refine ev_alen _ dX4_blame_33 rfl rfl ?_
    refine ev_icmp_ge 82 dX4_blame_34 (by decide) (fun c34 => ?_) (fun c34 => absurd (nI_le (a := 15) (b := 15) (by omega) (by decide)) c34)
    refine ev_iload_n dX4_blame_82 rfl ?_
    refine ev_ireturn dX4_blame_83 rfl rfl rfl ?_
    exact Ri.mk ⟨by rw [e], hf⟩
  | succ n ih =>
    intro i hi σ1 hf hj
    have h1 : RB σ1 β := h.keep (fun c q => hf c (by omega) (by omega))
    have e1 : σ1 1 i = nI (stN i) := by rw [hf 1 (by decide) (by omega), hS]; exact tb_st i (by omega)
    obtain ⟨r1, r2, r3⟩ := rk_st i (by omega)
    have iin := st_in (nW β) (by omega) i (by omega)
    have hin : vp_in (nI i) 15 := vp_in_nI (by omega) (by decide)
    have ic : (nI i).toNatClampNeg = i := clN (by omega)
    have goOn : ∀ σ2 : ai_M, fr14 σ σ2 → (stN i ≤ 2 ^ nW β - 1 → stN i ≠ 2 ^ nW β - 1 → posB β (stN i) = true) → ev mX4_blame (d + 30) 76 [some (.ref 2), some (.int (nI (2 ^ nW β - 1))), some (.int (nI i))] [] (LY L) σ2 0 0 (Ri (LY L) (fun r σ' => r = nI (blM β (2 ^ nW β - 1)) ∧ fr14 σ σ')) := by
      intro σ2 hf2 hq
      refine ev_iinc _ dX4_blame_76 rfl rfl (by decide) ?_
      rw [show nI i + Int32.ofInt 1 = nI (i + 1) from nI_1 i]
      refine ev_goto 29 dX4_blame_79 (by decide) ?_
      refine ih (i + 1) (by omega) σ2 hf2 (fun j z => ?_)
      rcases Nat.lt_or_ge j i with y | y
      · exact hj j y
      · obtain rfl : j = i := by omega
        exact hq
    by_cases q1 : stN i ≤ 2 ^ nW β - 1
    · by_cases q2 : stN i = 2 ^ nW β - 1
      · refine ev_iload_n dX4_blame_29 rfl ?_
        refine ev_sets dX4_blame_30 fS_X4_141 ?_
        refine ev_alen _ dX4_blame_33 rfl rfl ?_
        refine ev_icmp_ge 82 dX4_blame_34 (by decide) (fun c34 => absurd c34 (nI_ge (b := 15) (by omega) (by decide))) (fun c34 => ?_)
        refine ev_sets dX4_blame_37 fS_X4_141 ?_
        refine ev_iload_n dX4_blame_40 rfl ?_
        refine ev_iaload dX4_blame_41 rfl hin ?_
        rw [ic, e1]
        refine ev_iload_n dX4_blame_42 rfl ?_
        refine ev_iconst (-1) dX4_blame_43 (by decide) ?_
        refine ev_ixor dX4_blame_44 ?_
        refine ev_iand dX4_blame_45 ?_
        refine ev_if_ne 76 dX4_blame_46 (by decide) (fun c46 => absurd (iin.mpr q1) c46) (fun c46 => ?_)
        refine ev_sets dX4_blame_49 fS_X4_141 ?_
        refine ev_iload_n dX4_blame_52 rfl ?_
        refine ev_iaload dX4_blame_53 rfl hin ?_
        rw [ic, e1]
        refine ev_iload_n dX4_blame_54 rfl ?_
        refine ev_icmp_eq 76 dX4_blame_55 (by decide) (fun c55 => ?_) (fun c55 => absurd (by rw [q2]) c55)
        exact goOn σ1 hf (fun _ z => absurd q2 z)
      · refine ev_iload_n dX4_blame_29 rfl ?_
        refine ev_sets dX4_blame_30 fS_X4_141 ?_
        refine ev_alen _ dX4_blame_33 rfl rfl ?_
        refine ev_icmp_ge 82 dX4_blame_34 (by decide) (fun c34 => absurd c34 (nI_ge (b := 15) (by omega) (by decide))) (fun _ => ?_)
        refine ev_sets dX4_blame_37 fS_X4_141 ?_
        refine ev_iload_n dX4_blame_40 rfl ?_
        refine ev_iaload dX4_blame_41 rfl hin ?_
        rw [ic, e1]
        refine ev_iload_n dX4_blame_42 rfl ?_
        refine ev_iconst (-1) dX4_blame_43 (by decide) ?_
        refine ev_ixor dX4_blame_44 ?_
        refine ev_iand dX4_blame_45 ?_
        refine ev_if_ne 76 dX4_blame_46 (by decide) (fun c46 => absurd (iin.mpr q1) c46) (fun _ => ?_)
        refine ev_sets dX4_blame_49 fS_X4_141 ?_
        refine ev_iload_n dX4_blame_52 rfl ?_
        refine ev_iaload dX4_blame_53 rfl hin ?_
        rw [ic, e1]
        refine ev_iload_n dX4_blame_54 rfl ?_
        refine ev_icmp_eq 76 dX4_blame_55 (by decide) (fun c55 => absurd (nI_inj (by omega) (by omega) c55) q2) (fun _ => ?_)
        refine ev_aload_n dX4_blame_58 rfl ?_
        refine ev_sets dX4_blame_59 fS_X4_141 ?_
        refine ev_iload_n dX4_blame_62 rfl ?_
        refine ev_iaload dX4_blame_63 rfl hin ?_
        rw [ic, e1]
        refine cVi1 dX4_blame_64 VX4_144 ⟨_, rfl⟩ rfl rfl (t_isPossible (d := d) hw h1 (s := stN i) (by omega)) ?_
        rintro x σ2 ⟨rfl, hf2⟩
        have hf3 : fr14 σ σ2 := fun c z1 z2 => (hf2 c z1 z2).trans (hf c z1 z2)
        cases hp : posB β (stN i) with
        | true =>
          refine ev_if_ne 76 dX4_blame_67 (by decide) (fun c67 => ?_) (fun c67 => absurd c67 (bI_n.mpr rfl))
          exact goOn σ2 hf3 (fun _ _ => hp)
        | false =>
          have e2 : σ2 1 i = nI (stN i) := by rw [hf3 1 (by decide) (by omega), hS]; exact tb_st i (by omega)
          have e : blM β (2 ^ nW β - 1) = stN i := by
            rcases hspec with ⟨h0, z1⟩ | ⟨z1, z2, z3, z5⟩
            · have := z1 _ r2 q1; rw [hp] at this; cases this
            · have hle := z5 _ r2 q1 hp
              obtain ⟨s1, s2⟩ := st_rk _ (show blM β (2 ^ nW β - 1) < 16 by omega) z1
              rw [r1] at hle
              rcases Nat.lt_or_ge (rkN (blM β (2 ^ nW β - 1))) i with y | y
              · by_cases hall : blM β (2 ^ nW β - 1) = 2 ^ nW β - 1
                · have := rk_all (nW β) (by omega) (stN i) (by omega) r2
                  rw [hall] at y
                  omega
                · have := hj _ y (by rw [s1]; exact z2) (by rw [s1]; exact hall)
                  rw [s1, z3] at this; cases this
              · rw [← s1, show rkN (blM β (2 ^ nW β - 1)) = i by omega]
          refine ev_if_ne 76 dX4_blame_67 (by decide) (fun c67 => absurd (bI_0.mpr (by decide)) c67) (fun c67 => ?_)
          refine ev_sets dX4_blame_70 fS_X4_141 ?_
          refine ev_iload_n dX4_blame_73 rfl ?_
          refine ev_iaload dX4_blame_74 rfl hin ?_
          rw [ic, e2]
          refine ev_ireturn dX4_blame_75 rfl rfl rfl ?_
          exact Ri.mk ⟨by rw [e], hf3⟩
    · refine ev_iload_n dX4_blame_29 rfl ?_
      refine ev_sets dX4_blame_30 fS_X4_141 ?_
      refine ev_alen _ dX4_blame_33 rfl rfl ?_
      refine ev_icmp_ge 82 dX4_blame_34 (by decide) (fun c34 => absurd c34 (nI_ge (b := 15) (by omega) (by decide))) (fun c34 => ?_)
      refine ev_sets dX4_blame_37 fS_X4_141 ?_
      refine ev_iload_n dX4_blame_40 rfl ?_
      refine ev_iaload dX4_blame_41 rfl hin ?_
      rw [ic, e1]
      refine ev_iload_n dX4_blame_42 rfl ?_
      refine ev_iconst (-1) dX4_blame_43 (by decide) ?_
      refine ev_ixor dX4_blame_44 ?_
      refine ev_iand dX4_blame_45 ?_
      refine ev_if_ne 76 dX4_blame_46 (by decide) (fun c46 => ?_) (fun c46 => absurd (iin.mp c46) q1)
      exact goOn σ1 hf (fun z => absurd z q1)
theorem tc_blame (hw : WF β) (h : RB σ β) (hc : rcC Bst σ β) (hS : σ 1 = ai_tb) : ev mX4_blame (d + 30) 0 [some (.ref 2), none, none] [] (LY L) σ 0 0 (Ri (LY L) (PC Bst (sp_blame β) σ)) := by
  have h4 := hw.1.2.2.2.2.2.2.2.2
  have hpow : 2 ^ nW β ≤ 2 ^ 4 := Nat.pow_le_pow_right (by omega) h4
  refine ev_aload_n dX4_blame_0 rfl ?_
  refine cVv0 dX4_blame_1 VX4_127 ⟨_, rfl⟩ rfl (t_learn (d := d) hw h hc) ?_
  rintro σ1 ⟨h1, h2, h3⟩
  have hB := h2.2.1
  unfold Bst at hB
  cases hb : bestB β false with
  | none =>
    rw [hb] at hB
    have hnil := best_none.mp hb
    have hno : posB β (2 ^ nW β - 1) = false := by
      cases hq : posB β (2 ^ nW β - 1) with
      | false => rfl
      | true => exact absurd (posB_all.trans hnil) (posB_iff.mp hq)
    have e8 : σ1 8 0 = nI (nW β) := h1.1.2.2.2.trans hw.1.2.2.2.2.2.2.2.1
    refine ev_aload_n dX4_blame_4 rfl ?_
    refine ev_getI dX4_blame_5 fX4_40 ⟨_, rfl, rfl⟩ ?_
    rw [hB.1]
    refine ev_bipush (-6) dX4_blame_8 (by decide) ?_
    refine ev_icmp_eq 15 dX4_blame_10 (by decide) (fun c10 => ?_) (fun c10 => absurd rfl c10)
    refine ev_iconst 1 dX4_blame_15 (by decide) ?_
    refine ev_aload_n dX4_blame_16 rfl ?_
    refine ev_getR dX4_blame_17 fX4_19 ⟨_, rfl, rfl⟩ ?_
    refine ev_getI dX4_blame_20 fX4_55 ⟨_, rfl, rfl⟩ ?_
    rw [e8]
    refine ev_ishl dX4_blame_23 ?_
    refine ev_iconst 1 dX4_blame_24 (by decide) ?_
    refine ev_isub dX4_blame_25 ?_
    rw [all_nI h4]
    refine ev_istore_n dX4_blame_26 (by decide) ?_
    refine ev_iconst 0 dX4_blame_27 (by decide) ?_
    refine ev_istore_n dX4_blame_28 (by decide) ?_
    refine (blame_go (d := d) (L := L) (σ := σ1) hw h1 ((h3 1 (by omega)).trans hS) hno 15 0 rfl σ1 (fun _ _ _ => rfl) (fun j z => by omega)).mono ?_
    rintro r y' σ2 ⟨rfl, x, rfl, rfl, hf⟩
    exact Ri.mk (PC.of rfl (h1.keep (fun c q => hf c (by omega) (by omega))) (h2.c.keep (fun c q => hf c (by omega) (by omega))) (fun c q => (hf c (by omega) (by omega)).trans (h3 c q)))
  | some y =>
    rw [hb] at hB
    have hy := best_mem hb
    have hcs := cs_top hw hy
    have hne : ¬ σ1 2 5 = -6 := by rw [hB.1]; exact nI_ne6 (by omega)
    have e0 : blM β (2 ^ nW β - 1) = 0 := by
      rcases blM_spec β (2 ^ nW β - 1) (by omega) with ⟨z, -⟩ | ⟨-, -, z, -⟩
      · exact z
      · rw [posB_sub (List.ne_nil_of_mem hy)] at z; cases z
    refine ev_aload_n dX4_blame_4 rfl ?_
    refine ev_getI dX4_blame_5 fX4_40 ⟨_, rfl, rfl⟩ ?_
    refine ev_bipush (-6) dX4_blame_8 (by decide) ?_
    refine ev_icmp_eq 15 dX4_blame_10 (by decide) (fun c10 => absurd c10 hne) (fun c10 => ?_)
    refine ev_iconst 0 dX4_blame_13 (by decide) ?_
    refine ev_ireturn dX4_blame_14 rfl rfl rfl ?_
    exact Ri.mk (PC.of (by rw [sp_blame, e0]; rfl) h1 h2.c h3)
end CBL
