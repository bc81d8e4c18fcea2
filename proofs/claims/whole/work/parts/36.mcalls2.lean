def sp_many (β : ai_M) : Int32 × ai_M := (nI (min 100000 (gvA β allS).length), β)
section MC2
variable {β : ai_M} {d L : Nat} {σ : ai_M} {σ0 : ai_M}
theorem tm_trial (hw : WF β) (h : RM σ β) (k R v p : Int32) : ev mX5_trial (d + 6) 0 [some (.ref 35), some (.int k), some (.int R), some (.int v), some (.int p), none, none] [] (LY L) σ 0 0 (Ri (LY L) (PM (sp_trial β k R v p) σ)) := by
  have hw4 := hw.1.2.2.2.2.2.2.2.2
  refine ev_aload_n dX5_trial_0 rfl ?_
  refine ev_iload_n dX5_trial_1 rfl ?_
  refine ev_iload_n dX5_trial_2 rfl ?_
  refine ev_iload_n dX5_trial_3 rfl ?_
  refine ev_iload dX5_trial_4 rfl ?_
  refine cVi4 dX5_trial_6 VX5_166 ⟨_, rfl⟩ rfl rfl rfl rfl rfl ((tm_wish (d := d) hw h k R v p).deeper (by omega)) ?_
  rintro r σ1 ⟨rfl, s1, s2⟩
  rcases wish_cases β k R v p with ⟨z0, z1, z2, z3⟩ | ⟨z0, z1⟩
  · have esp : sp_wish β k R v p = (nI (nW β), (sp_wish β k R v p).2) := by rw [sp_wish, if_neg (fun q => q z1), if_neg (fun q => q z2), if_neg z3]
    have e1 : (sp_wish β k R v p).1 = nI (nW β) := by rw [esp]
    have hw2 := wf_wish hw k R v p
    have en : nW (sp_wish β k R v p).2 = nW β + 1 := by rw [sp_wish, if_neg (fun q => q z1), if_neg (fun q => q z2), if_neg z3]; exact clN (by omega)
    rw [e1]
    refine ev_istore dX5_trial_9 (by decide) ?_
    refine ev_iload dX5_trial_11 rfl ?_
    refine ev_if_ge 19 dX5_trial_13 (by decide) (fun c13 => ?_) (fun c13 => absurd (nI_pos' (by omega)) c13)
    refine ev_aload_n dX5_trial_19 rfl ?_
    refine cVi0 dX5_trial_20 VX5_170 ⟨_, rfl⟩ rfl (t_mbest (d := d) hw2 s1) ?_
    rintro x σ2 ⟨rfl, g1⟩
    refine ev_istore dX5_trial_23 (by decide) ?_
    refine ev_aload_n dX5_trial_25 rfl ?_
    refine ev_dup dX5_trial_26 rfl ?_
    refine ev_getI dX5_trial_27 fX5_74 ⟨_, rfl, rfl⟩ ?_
    rw [(g1.RM s1).2.2.2.1, hw2.1.2.2.2.2.2.2.2.1, en]
    refine ev_iconst 1 dX5_trial_30 (by decide) ?_
    refine ev_isub dX5_trial_31 ?_
    rw [nI_pred]
    refine ev_putI dX5_trial_32 fX5_74 ⟨_, rfl, rfl⟩ rfl rfl ?_
    refine ev_iload dX5_trial_35 rfl ?_
    refine ev_ireturn dX5_trial_37 rfl rfl rfl ?_
    have m := g1.RM s1
    exact Ri.mk (PM.of (β' := ai_up (sp_wish β k R v p).2 35 8 (nI (nW β))) (by rw [sp_trial, if_neg (fun q => q z0)]) ⟨m.1, m.2.1, m.2.2.1, rfl, m.2.2.2.2.1, m.2.2.2.2.2⟩ ((s2.tr g1.M).up (by decide)))
  · have hneg : ¬ (0 ≤ rfB β k R v p) := by
      unfold rfB at z0 ⊢
      split
      · decide
      · split
        · decide
        · split
          · decide
          · rename_i q1 q2 q3; rw [if_neg q1, if_neg q2, if_neg q3] at z0; exact absurd rfl z0
    rw [z1] at s1 ⊢
    refine ev_istore dX5_trial_9 (by decide) ?_
    refine ev_iload dX5_trial_11 rfl ?_
    refine ev_if_ge 19 dX5_trial_13 (by decide) (fun c13 => absurd c13 hneg) (fun c13 => ?_)
    refine ev_iload dX5_trial_16 rfl ?_
    refine ev_ireturn dX5_trial_18 rfl rfl rfl ?_
    exact Ri.mk (PM.of (by rw [sp_trial, if_pos z0]) s1 s2)
theorem many_loop (hw : WF β) (hr : RM σ0 β) (hp : PLok β (plA β)) : ∀ (n : Nat) (x : List Nat) (c : Nat), c ≤ 100000 → (upR β (plA β) (plA β).length x).length < n → x.length = (plA β).length → ∀ (σ : ai_M), NS0 σ0 β false (plA β) none x σ → ev mX5_many (d + 4) 11 [some (.ref 35), some (.int (nI c))] [] (LY L) σ 0 0 (Ri (LY L) (fun r σ' => r = nI (min 100000 (c + (upR β (plA β) (plA β).length x).length)) ∧ SFr σ0 σ')) := by
  intro n
  induction n with
  | zero => intro x c _ hn; omega
  | succ n ih =>
    intro x c hc hn hx σ h
    by_cases hcc : c = 100000
    · subst hcc
      refine ev_iload_n dX5_many_11 rfl ?_
      refine ev_ldc 100000 dX5_many_12 kX5_165 ?_
      refine ev_icmp_ge 30 dX5_many_14 (by decide) (fun c14 => ?_) (fun c14 => absurd (nI_le (a := 100000) (b := 100000) (by omega) (by decide)) c14)
      refine ev_iload_n dX5_many_30 rfl ?_
      refine ev_ireturn dX5_many_31 rfl rfl rfl ?_
      exact Ri.mk ⟨by rw [Nat.min_eq_left (by omega)], h.1⟩
    · have hno : ¬ (100000 : Int32) ≤ nI c := nI_ge (b := 100000) (by omega) (by decide)
      refine ev_iload_n dX5_many_11 rfl ?_
      refine ev_ldc 100000 dX5_many_12 kX5_165 ?_
      refine ev_icmp_ge 30 dX5_many_14 (by decide) (fun c14 => absurd c14 hno) (fun c14 => ?_)
      refine ev_aload_n dX5_many_17 rfl ?_
      refine cVi0 dX5_many_18 VX5_148 ⟨_, rfl⟩ rfl (t_next1 (d := d) hw (h.1.RM hr) hp ⟨SFr.rf, h.2⟩ hx) ?_
      rintro r σ1 (⟨rfl, k1, k2, k3, k5, k6⟩ | ⟨rfl, y, k1, k2, k3, l1, k4, k5⟩)
      · have hnil : upR β (plA β) (plA β).length x = [] := by
          cases hz : upR β (plA β) (plA β).length x with
          | nil => rfl
          | cons z l => rw [hz] at k6; have := k6 z List.mem_cons_self; simp [btr] at this
        refine ev_if_eq 30 dX5_many_21 (by decide) (fun c21 => ?_) (fun c21 => absurd rfl c21)
        refine ev_iload_n dX5_many_30 rfl ?_
        refine ev_ireturn dX5_many_31 rfl rfl rfl ?_
        refine Ri.mk ⟨?_, h.1.tr k1⟩
        rw [hnil, List.length_nil, Nat.add_zero, Nat.min_eq_right hc]
      · have hl1 : l1 = [] := by
          cases l1 with
          | nil => rfl
          | cons z l => have := k5 z List.mem_cons_self; simp [btr] at this
        subst hl1
        rw [List.nil_append, k2] at k4
        have hlen : (upR β (plA β) (plA β).length x).length = (upR β (plA β) (plA β).length y).length + 1 := by rw [k4]; rfl
        refine ev_if_eq 30 dX5_many_21 (by decide) (fun c21 => absurd c21 (by decide)) (fun c21 => ?_)
        refine ev_iinc _ dX5_many_24 rfl rfl (by decide) ?_
        rw [show nI c + Int32.ofInt 1 = nI (c + 1) from nI_1 c]
        refine ev_goto 11 dX5_many_27 (by decide) ?_
        have := ih y (c + 1) (by omega) (by omega) k2 σ1 ⟨h.1.tr k1.1, k1.2.1, k1.2.2.1, k1.2.2.2.1, k1.2.2.2.2.1⟩
        rw [hlen, show c + ((upR β (plA β) (plA β).length y).length + 1) = c + 1 + (upR β (plA β) (plA β).length y).length by omega]
        exact this
theorem tm_many (hw : WF β) (h : RM σ β) : ev mX5_many (d + 4) 0 [some (.ref 35), none] [] (LY L) σ 0 0 (Ri (LY L) (PM (sp_many β) σ)) := by
  have h4 := hw.1.2.2.2.2.2.2.2.2
  have hpow : 2 ^ nW β ≤ 2 ^ 4 := Nat.pow_le_pow_right (by omega) h4
  have epl : pls β (fun w => (2 ^ nW β - 1).testBit w) = plA β := pls_congr (fun w hlt => by rw [Nat.testBit_two_pow_sub_one]; simp [hlt])
  have hp := pls_ok hw allS
  refine ev_aload_n dX5_many_0 rfl ?_
  refine ev_aload_n dX5_many_1 rfl ?_
  refine cVp0 dX5_many_2 VX5_140 ⟨_, rfl⟩ rfl (t_mall hw h) ?_
  refine ev_iconst 0 dX5_many_5 (by decide) ?_
  refine cVv2 dX5_many_6 VX5_144 ⟨_, rfl⟩ rfl rfl rfl (t_start hw h (by omega) false) ?_
  rintro σ1 ⟨s1, s2, s3, s4⟩
  rw [epl] at s2 s4
  refine ev_iconst 0 dX5_many_9 (by decide) ?_
  refine ev_istore_n dX5_many_10 (by decide) ?_
  refine ev_iload_n dX5_many_11 rfl ?_
  refine ev_ldc 100000 dX5_many_12 kX5_165 ?_
  refine ev_icmp_ge 30 dX5_many_14 (by decide) (fun c14 => absurd c14 (by decide)) (fun c14 => ?_)
  refine ev_aload_n dX5_many_17 rfl ?_
  refine cVi0 dX5_many_18 VX5_148 ⟨_, rfl⟩ rfl (t_next0 (d := d) hw (s1.RM h) hp s2 s3 s4) ?_
  rintro r σ2 (⟨rfl, k1, k2, k3, k5, k6⟩ | ⟨rfl, y, k1, k2, k3, l1, k4, k5⟩)
  · have hnil : sub β (plA β) (plA β).length [] = [] := by
      cases hz : sub β (plA β) (plA β).length [] with
      | nil => rfl
      | cons z l => rw [hz] at k6; have := k6 z List.mem_cons_self; simp [btr] at this
    have e : sp_many β = (0, β) := by rw [sp_many, gvA, hnil]; rfl
    refine ev_if_eq 30 dX5_many_21 (by decide) (fun c21 => ?_) (fun c21 => absurd rfl c21)
    refine ev_iload_n dX5_many_30 rfl ?_
    refine ev_ireturn dX5_many_31 rfl rfl rfl ?_
    exact Ri.mk (PM.of e ((s1.tr k1).RM h) (s1.tr k1).M)
  · have hl1 : l1 = [] := by
      cases l1 with
      | nil => rfl
      | cons z l => have := k5 z List.mem_cons_self; simp [btr] at this
    subst hl1
    rw [List.nil_append, k2] at k4
    have e : sp_many β = (nI (min 100000 (1 + (upR β (plA β) (plA β).length y).length)), β) := by rw [sp_many, gvA, k4, List.length_cons, Nat.add_comm]
    refine ev_if_eq 30 dX5_many_21 (by decide) (fun c21 => absurd c21 (by decide)) (fun c21 => ?_)
    refine ev_iinc _ dX5_many_24 rfl rfl (by decide) ?_
    rw [show (0 : Int32) + Int32.ofInt 1 = nI 1 from by decide]
    refine ev_goto 11 dX5_many_27 (by decide) ?_
    refine (many_loop (σ0 := σ) hw h hp _ y 1 (by omega) (Nat.lt_succ_self _) k2 σ2 ⟨s1.tr k1.1, k1.2.1, k1.2.2.1, k1.2.2.2.1, k1.2.2.2.2.1⟩).mono ?_
    rintro r y' σ' ⟨rfl, x, rfl, rfl, hs⟩
    exact Ri.mk (PM.of e (hs.RM h) hs.M)
end MC2
