section CS2
variable {σ β : ai_M} {d L : Nat}
theorem abs_sub {a p : Nat} (ha : a < 100) (hp : p < 100) : (if 0 ≤ nI p - nI a then nI p - nI a else 0 - (nI p - nI a)) = nI (if a < p then p - a else a - p) := by
  by_cases h : p < a
  · have := pk_sneg (a := p) (b := a) (by omega) h
    rw [if_neg (Int32.not_le.mpr this), if_neg (by omega), ← pk_sub (by omega)]
    simp
  · rw [pk_sub (by omega), if_pos (nI_pos' (by omega))]
    congr 1
    split <;> omega
theorem min_nI {a b : Nat} (ha : a < 2 ^ 31) (hb : b < 2 ^ 31) : (if nI b < nI a then nI b else nI a) = nI (min a b) := by
  by_cases h : b < a
  · rw [if_pos ((nI_ltI hb ha).mpr h), Nat.min_eq_right (by omega)]
  · rw [if_neg (fun q => h ((nI_ltI hb ha).mp q)), Nat.min_eq_left (by omega)]
theorem t_csteps (hw : WF β) (hN : rcN σ β) {a p : Nat} (ha : a < nF β) (hp : p < nF β) : ev mX1_steps (d + 1) 0 [some (.ref 3), some (.int (nI p)), some (.int (nI a)), none] [] (LY L) σ 0 0 (Rp (LY L) σ (nI (stp (nF β) a p))) := by
  have h16 := hw.1.2.2.1
  have e0 : σ 3 0 = nI (nF β) := hN.1.trans hw.1.1
  refine ev_iload_n dX1_steps_0 rfl ?_
  refine ev_iload_n dX1_steps_1 rfl ?_
  refine ev_isub dX1_steps_2 ?_
  refine ev_abs dX1_steps_3 maX1_38 (Nat.le_of_ble_eq_true rfl) ?_
  rw [abs_sub (by omega) (by omega)]
  refine ev_istore_n dX1_steps_6 (by decide) ?_
  refine ev_iload_n dX1_steps_7 rfl ?_
  refine ev_aload_n dX1_steps_8 rfl ?_
  refine ev_getI dX1_steps_9 fX1_28 ⟨_, rfl, rfl⟩ ?_
  rw [e0]
  refine ev_iload_n dX1_steps_12 rfl ?_
  refine ev_isub dX1_steps_13 ?_
  rw [pk_sub (by split <;> omega)]
  refine ev_min dX1_steps_14 maX1_44 (Nat.le_of_ble_eq_true rfl) ?_
  rw [min_nI (by split <;> omega) (by split <;> omega)]
  refine ev_ireturn dX1_steps_17 rfl rfl rfl ?_
  exact Rp.mk rfl
theorem ckW_loop (hw : WF β) (h : RB σ β) {k : Int32} {m : Nat} (hm : m < 2 ^ 31) : ∀ n i, i + n = nW β → ev mX0_countOfKind d 5 [some (.ref 8), some (.int k), some (.int (nI m)), some (.int (nI (okW β k m i))), some (.int (nI i))] [] (LY L) σ 0 0 (Rp (LY L) σ (nI (okW β k m (nW β)))) := by
  obtain ⟨hN, hV, hK, hU, hA, hW, hX, hH⟩ := id h
  have h4 := hw.1.2.2.2.2.2.2.2.2
  have e8 : σ 8 0 = nI (nW β) := hN.2.2.2.trans hw.1.2.2.2.2.2.2.2.1
  intro n
  induction n with
  | zero =>
    intro i hi
    obtain rfl : i = nW β := by omega
    refine ev_iload dX0_countOfKind_5 rfl ?_
    refine ev_aload_n dX0_countOfKind_7 rfl ?_
    refine ev_getI dX0_countOfKind_8 fX0_27 ⟨_, rfl, rfl⟩ ?_
    rw [e8]
    refine ev_icmp_ge 43 dX0_countOfKind_11 (by decide) (fun c11 => ?_) (fun c11 => absurd (nI_le (by omega) (by omega)) c11)
    refine ev_iload_n dX0_countOfKind_43 rfl ?_
    refine ev_ireturn dX0_countOfKind_44 rfl rfl rfl ?_
    exact Rp.mk rfl
  | succ n ih =>
    intro i hi
    have hin : vp_in (nI i) 4 := vp_in_nI (by omega) (by decide)
    have ic : (nI i).toNatClampNeg = i := clN (by omega)
    have hb := bit_0 (a := m) (f := i) hm (by omega)
    have es : okW β k m (i + 1) = (if m.testBit i && decide (β 41 i = k) then 1 else 0) + okW β k m i := rfl
    have yes : m.testBit i = true → β 41 i = k → nI (okW β k m i + 1) = nI (okW β k m (i + 1)) := fun q1 q2 => by rw [es, if_pos (by simp [q1, q2]), Nat.add_comm]
    have no : ¬ (m.testBit i = true ∧ β 41 i = k) → nI (okW β k m i) = nI (okW β k m (i + 1)) := fun q => by rw [es, if_neg (by simpa using q), Nat.zero_add]
    refine ev_iload dX0_countOfKind_5 rfl ?_
    refine ev_aload_n dX0_countOfKind_7 rfl ?_
    refine ev_getI dX0_countOfKind_8 fX0_27 ⟨_, rfl, rfl⟩ ?_
    rw [e8]
    refine ev_icmp_ge 43 dX0_countOfKind_11 (by decide) (fun c11 => absurd c11 (nI_ge (by omega) (by omega))) (fun c11 => ?_)
    refine ev_iload_n dX0_countOfKind_14 rfl ?_
    refine ev_iload dX0_countOfKind_15 rfl ?_
    refine ev_ishr dX0_countOfKind_17 ?_
    refine ev_iconst 1 dX0_countOfKind_18 (by decide) ?_
    refine ev_iand dX0_countOfKind_19 ?_
    refine ev_if_eq 37 dX0_countOfKind_20 (by decide) (fun c20 => ?_) (fun c20 => ?_)
    · refine ev_iinc _ dX0_countOfKind_37 rfl rfl (by decide) ?_
      rw [show nI i + Int32.ofInt 1 = nI (i + 1) from nI_1 i]
      refine ev_goto 5 dX0_countOfKind_40 (by decide) ?_
      have := ih (i + 1) (by omega)
      first | (rw [← no (fun q => by rw [hb] at c20; rw [c20] at q; exact absurd q.1 (by decide))] at this; exact this) | (rw [← no (fun q => c31 q.2)] at this; exact this) | (rw [← yes (by rw [hb] at c20; simpa using c20) c31] at this; exact this)
    · refine ev_aload_n dX0_countOfKind_23 rfl ?_
      refine ev_getR dX0_countOfKind_24 fX0_9 ⟨_, rfl, rfl⟩ ?_
      refine ev_iload dX0_countOfKind_27 rfl ?_
      refine ev_iaload dX0_countOfKind_29 rfl hin ?_
      rw [ic, (hW i (by omega)).1]
      refine ev_iload_n dX0_countOfKind_30 rfl ?_
      refine ev_icmp_ne 37 dX0_countOfKind_31 (by decide) (fun c31 => ?_) (fun c31 => ?_)
      · refine ev_iinc _ dX0_countOfKind_37 rfl rfl (by decide) ?_
        rw [show nI i + Int32.ofInt 1 = nI (i + 1) from nI_1 i]
        refine ev_goto 5 dX0_countOfKind_40 (by decide) ?_
        have := ih (i + 1) (by omega)
        first | (rw [← no (fun q => by rw [hb] at c20; rw [c20] at q; exact absurd q.1 (by decide))] at this; exact this) | (rw [← no (fun q => c31 q.2)] at this; exact this) | (rw [← yes (by rw [hb] at c20; simpa using c20) c31] at this; exact this)
      · refine ev_iinc _ dX0_countOfKind_34 rfl rfl (by decide) ?_
        rw [show nI (okW β k m i) + Int32.ofInt 1 = nI (okW β k m i + 1) from nI_1 _]
        refine ev_iinc _ dX0_countOfKind_37 rfl rfl (by decide) ?_
        rw [show nI i + Int32.ofInt 1 = nI (i + 1) from nI_1 i]
        refine ev_goto 5 dX0_countOfKind_40 (by decide) ?_
        have := ih (i + 1) (by omega)
        first | (rw [← no (fun q => by rw [hb] at c20; rw [c20] at q; exact absurd q.1 (by decide))] at this; exact this) | (rw [← no (fun q => c31 q.2)] at this; exact this) | (rw [← yes (by rw [hb] at c20; simpa using c20) c31] at this; exact this)
theorem t_ckW (hw : WF β) (h : RB σ β) (k : Int32) {m : Nat} (hm : m < 2 ^ 31) : ev mX0_countOfKind d 0 [some (.ref 8), some (.int k), some (.int (nI m)), none, none] [] (LY L) σ 0 0 (Rp (LY L) σ (nI (okW β k m (nW β)))) := by
  refine ev_iconst 0 dX0_countOfKind_0 (by decide) ?_
  refine ev_istore_n dX0_countOfKind_1 (by decide) ?_
  refine ev_iconst 0 dX0_countOfKind_2 (by decide) ?_
  refine ev_istore dX0_countOfKind_3 (by decide) ?_
  exact ckW_loop hw h hm (nW β) 0 (by omega)
theorem ckU_loop (hw : WF β) (h : RB σ β) {k : Int32} : ∀ n i, i + n = nU β → ev mX1_countOfKind d 4 [some (.ref 3), some (.int k), some (.int (nI (okC β k i))), some (.int (nI i))] [] (LY L) σ 0 0 (Rp (LY L) σ (nI (okC β k (nU β)))) := by
  obtain ⟨hN, hV, hK, hU, hA, hW, hX, hH⟩ := id h
  have h6 := hw.1.2.2.2.2.1
  have e2 : σ 3 1 = nI (nU β) := hN.2.1.trans hw.1.2.2.2.1
  intro n
  induction n with
  | zero =>
    intro i hi
    obtain rfl : i = nU β := by omega
    refine ev_iload_n dX1_countOfKind_4 rfl ?_
    refine ev_aload_n dX1_countOfKind_5 rfl ?_
    refine ev_getI dX1_countOfKind_6 fX1_32 ⟨_, rfl, rfl⟩ ?_
    rw [e2]
    refine ev_icmp_ge 31 dX1_countOfKind_9 (by decide) (fun c9 => ?_) (fun c9 => absurd (nI_le (by omega) (by omega)) c9)
    refine ev_iload_n dX1_countOfKind_31 rfl ?_
    refine ev_ireturn dX1_countOfKind_32 rfl rfl rfl ?_
    exact Rp.mk rfl
  | succ n ih =>
    intro i hi
    have hin : vp_in (nI i) 6 := vp_in_nI (by omega) (by decide)
    have ic : (nI i).toNatClampNeg = i := clN (by omega)
    have es : okC β k (i + 1) = (if decide (β 37 i = k) then 1 else 0) + okC β k i := rfl
    have yes : β 37 i = k → nI (okC β k i + 1) = nI (okC β k (i + 1)) := fun q2 => by rw [es, if_pos (by simp [q2]), Nat.add_comm]
    have no : ¬ β 37 i = k → nI (okC β k i) = nI (okC β k (i + 1)) := fun q => by rw [es, if_neg (by simpa using q), Nat.zero_add]
    refine ev_iload_n dX1_countOfKind_4 rfl ?_
    refine ev_aload_n dX1_countOfKind_5 rfl ?_
    refine ev_getI dX1_countOfKind_6 fX1_32 ⟨_, rfl, rfl⟩ ?_
    rw [e2]
    refine ev_icmp_ge 31 dX1_countOfKind_9 (by decide) (fun c9 => absurd c9 (nI_ge (by omega) (by omega))) (fun c9 => ?_)
    refine ev_aload_n dX1_countOfKind_12 rfl ?_
    refine ev_getR dX1_countOfKind_13 fX1_15 ⟨_, rfl, rfl⟩ ?_
    refine ev_iload_n dX1_countOfKind_16 rfl ?_
    refine ev_iaload dX1_countOfKind_17 rfl hin ?_
    rw [ic, hK i (by omega)]
    refine ev_iload_n dX1_countOfKind_18 rfl ?_
    refine ev_icmp_ne 25 dX1_countOfKind_19 (by decide) (fun c19 => ?_) (fun c19 => ?_)
    · refine ev_iinc _ dX1_countOfKind_25 rfl rfl (by decide) ?_
      rw [show nI i + Int32.ofInt 1 = nI (i + 1) from nI_1 i]
      refine ev_goto 4 dX1_countOfKind_28 (by decide) ?_
      have := ih (i + 1) (by omega)
      first | (rw [← no c19] at this; exact this) | (rw [← yes c19] at this; exact this)
    · refine ev_iinc _ dX1_countOfKind_22 rfl rfl (by decide) ?_
      rw [show nI (okC β k i) + Int32.ofInt 1 = nI (okC β k i + 1) from nI_1 _]
      refine ev_iinc _ dX1_countOfKind_25 rfl rfl (by decide) ?_
      rw [show nI i + Int32.ofInt 1 = nI (i + 1) from nI_1 i]
      refine ev_goto 4 dX1_countOfKind_28 (by decide) ?_
      have := ih (i + 1) (by omega)
      first | (rw [← no c19] at this; exact this) | (rw [← yes c19] at this; exact this)
theorem t_ckU (hw : WF β) (h : RB σ β) (k : Int32) : ev mX1_countOfKind d 0 [some (.ref 3), some (.int k), none, none] [] (LY L) σ 0 0 (Rp (LY L) σ (nI (okC β k (nU β)))) := by
  refine ev_iconst 0 dX1_countOfKind_0 (by decide) ?_
  refine ev_istore_n dX1_countOfKind_1 (by decide) ?_
  refine ev_iconst 0 dX1_countOfKind_2 (by decide) ?_
  refine ev_istore_n dX1_countOfKind_3 (by decide) ?_
  exact ckU_loop hw h (nU β) 0 (by omega)
/-- a giving copied -/
def cpP (g u f g2 u2 f2 : Nat) (σ σ' : ai_M) : Prop := σ' g 0 = σ g2 0 ∧ σ' g 1 = σ g2 1 ∧ (∀ i, i < 4 → σ' u i = σ u2 i) ∧ (∀ k, k < 16 → σ' f k = σ f2 k) ∧ ∀ c, c ≠ g → c ≠ u → c ≠ f → σ' c = σ c
theorem t_copy {y : ai_L} {g u f g2 u2 f2 : Nat} (hg : y[g]? = some (gvF u f)) (hu : y[u]? = some (.inl 4)) (hf : y[f]? = some (.inl 16)) (hg2 : y[g2]? = some (gvF u2 f2)) (hu2 : y[u2]? = some (.inl 4)) (hf2 : y[f2]? = some (.inl 16)) (a1 : 2 ≤ u) (a2 : 2 ≤ f) (a3 : 2 ≤ u2) (a4 : 2 ≤ f2) (n1 : g ≠ u) (n2 : g ≠ f) (n3 : u ≠ f) (n4 : g ≠ g2) (n5 : g ≠ u2) (n6 : g ≠ f2) (n7 : u ≠ f2) (hz : σ g2 0 = 0 ∨ σ g2 0 = 1) : ev mX2_copy (d + 1) 0 [some (.ref g), some (.ref g2)] [] y σ 0 0 (Rv y (cpP g u f g2 u2 f2 σ)) := by
  refine ev_aload_n dX2_copy_0 rfl ?_
  refine ev_aload_n dX2_copy_1 rfl ?_
  refine ev_getI dX2_copy_2 fX2_21 ⟨_, hg2, rfl⟩ ?_
  refine ev_putI dX2_copy_5 fX2_21 ⟨_, hg, rfl⟩ (by rcases hz with q | q <;> rw [q] <;> rfl) (by rcases hz with q | q <;> rw [q] <;> rfl) ?_
  refine ev_aload_n dX2_copy_8 rfl ?_
  refine ev_aload_n dX2_copy_9 rfl ?_
  refine ev_getI dX2_copy_10 fX2_25 ⟨_, hg2, rfl⟩ ?_
  refine ev_putI dX2_copy_13 fX2_25 ⟨_, hg, rfl⟩ rfl rfl ?_
  refine ev_aload_n dX2_copy_16 rfl ?_
  refine ev_getR dX2_copy_17 fX2_9 ⟨_, hg2, rfl⟩ ?_
  refine ev_iconst 0 dX2_copy_20 (by decide) ?_
  refine ev_aload_n dX2_copy_21 rfl ?_
  refine ev_getR dX2_copy_22 fX2_9 ⟨_, hg, rfl⟩ ?_
  refine ev_iconst 0 dX2_copy_25 (by decide) ?_
  refine ev_aload_n dX2_copy_26 rfl ?_
  refine ev_getR dX2_copy_27 fX2_9 ⟨_, hg, rfl⟩ ?_
  refine ev_alen _ dX2_copy_30 hu rfl ?_
  refine ev_copy dX2_copy_31 acX2_29 (Nat.le_of_ble_eq_true rfl) a3 a1 hu2 hu (by decide) (by decide) (by decide) (by decide) (by decide) ?_
  refine ev_aload_n dX2_copy_34 rfl ?_
  refine ev_getR dX2_copy_35 fX2_15 ⟨_, hg2, rfl⟩ ?_
  refine ev_iconst 0 dX2_copy_38 (by decide) ?_
  refine ev_aload_n dX2_copy_39 rfl ?_
  refine ev_getR dX2_copy_40 fX2_15 ⟨_, hg, rfl⟩ ?_
  refine ev_iconst 0 dX2_copy_43 (by decide) ?_
  refine ev_aload_n dX2_copy_44 rfl ?_
  refine ev_getR dX2_copy_45 fX2_15 ⟨_, hg, rfl⟩ ?_
  refine ev_alen _ dX2_copy_48 hf rfl ?_
  refine ev_copy dX2_copy_49 acX2_29 (Nat.le_of_ble_eq_true rfl) a4 a2 hf2 hf (by decide) (by decide) (by decide) (by decide) (by decide) ?_
  refine ev_ret dX2_copy_52 rfl rfl ?_
  have c4 : (Int32.ofNat 4).toNatClampNeg = 4 := by decide
  have c16 : (Int32.ofNat 16).toNatClampNeg = 16 := by decide
  have c0' : (0 : Int32).toNatClampNeg = 0 := by decide
  refine Rv.mk ⟨?_, ?_, fun i hi => ?_, fun k hk => ?_, fun c q1 q2 q3 => ?_⟩
  · simp only [ai_set, ai_up, if_neg n1, if_neg n2, if_true, upd]; rfl
  · simp only [ai_set, ai_up, if_neg n1, if_neg n2, if_true, upd, if_neg (Ne.symm n4)]
  · simp only [ai_set, if_neg n3, if_true, c4, c0']
    rw [pk_cpy_in (by omega) (by omega)]
    simp [ai_up, Ne.symm n5]
  · simp only [ai_set, if_true, c16, c0', if_neg (Ne.symm n7)]
    rw [pk_cpy_in (by omega) (by omega)]
    simp [ai_up, Ne.symm n6]
  · simp only [ai_set, ai_up, if_neg q1, if_neg q2, if_neg q3]
end CS2
