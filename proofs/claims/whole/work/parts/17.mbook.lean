theorem isF {x b : Int32} {n : Nat} (hn : n < 100) (e : b = nI n) : (0 ≤ x ∧ x ≤ b - 1) ↔ inR x b.toInt := by
  have h1 : (b - 1).toInt = (n : Int) - 1 := by
    subst e
    cases n with
    | zero => rfl
    | succ k => rw [nI_pred, nI_toInt (by omega)]; omega
  have h2 : b.toInt = n := by subst e; exact nI_toInt (by omega)
  simp only [Int32.le_iff_toInt_le, c0, h1, h2]
  omega
theorem in03 {x : Int32} : (0 ≤ x ∧ x ≤ 3) ↔ inR x 4 := by simp only [Int32.le_iff_toInt_le, c0, c3n]; omega
theorem hr_iff {R : Nat} (hR : R < 2 ^ 31) {x : Int32} (h : inR x 4) : (nI R >>> (x &&& 31)) &&& 1 = 1 ↔ R.testBit x.toNatClampNeg = true := by
  obtain ⟨n, hn, rfl, e⟩ := inR4 h
  rw [e, bit_1 hR (by omega)]
theorem cs1 {p q : Bool} (hp : p = true) : (1 : Int32) = bI ((p || q) = true) := bI_t (by simp [hp])
theorem cs2 {p a b : Bool} {X : Prop} [Decidable X] (hp : ¬ p = true) (h : ¬ X) : (0 : Int32) = bI ((p || (decide X && a && b)) = true) := bI_f (by simp [hp, h])
theorem cs3 {p a b : Bool} {X : Prop} [Decidable X] (hp : ¬ p = true) (h : ¬ X) : (0 : Int32) = bI ((p || (a && decide X && b)) = true) := bI_f (by simp [hp, h])
theorem cs4 {p a b : Bool} {X : Prop} [Decidable X] (hp : ¬ p = true) (h : ¬ X) : (0 : Int32) = bI ((p || (a && b && decide X)) = true) := bI_f (by simp [hp, h])
theorem cs5 {p : Bool} {X Y Z : Prop} [Decidable X] [Decidable Y] [Decidable Z] (h1 : X) (h2 : Y) (h3 : Z) : (1 : Int32) = bI ((p || (decide X && decide Y && decide Z)) = true) := bI_t (by simp [h1, h2, h3])
section MB
variable {σ β : ai_M} {d L : Nat}
theorem PM.of {sp : Int32 × ai_M} {r : Int32} {β' σ' : ai_M} (e : sp = (r, β')) (h : RM σ' β') (hf : FrM σ σ') : PM sp σ r σ' := by subst e; exact ⟨rfl, h, hf⟩
theorem t_isFootB (hw : WF β) (h : RM σ β) (x : Int32) : ev mX5_isFoot (d + 1) 0 [some (.ref 35), some (.int x)] [] (LY L) σ 0 0 (Rp (LY L) σ (bI (inR x (β 35 0).toInt))) := by
  have := t_isFoot (σ := σ) (d := d) (L := L) x
  rw [h.1, bI_congr (isF (n := nF β) (by have := hw.1.2.2.1; omega) hw.1.1)] at this
  exact this
theorem t_isWishB (hw : WF β) (h : RM σ β) (x : Int32) : ev mX5_isWish (d + 1) 0 [some (.ref 35), some (.int x)] [] (LY L) σ 0 0 (Rp (LY L) σ (bI (inR x (β 35 8).toInt))) := by
  have := t_isWish (σ := σ) (d := d) (L := L) x
  rw [h.2.2.2.1, bI_congr (isF (n := nW β) (by have := hw.1.2.2.2.2.2.2.2.2; omega) hw.1.2.2.2.2.2.2.2.1)] at this
  exact this
theorem t_hasRole {w : Nat} {x : Int32} {R : Nat} (hw : w < 4) (hR : R < 2 ^ 31) (e : σ 42 w = nI R) : ev mX5_hasRole (d + 1) 0 [some (.ref 35), some (.int (nI w)), some (.int x)] [] (LY L) σ 0 0 (Rp (LY L) σ (bI (inR x 4 ∧ R.testBit x.toNatClampNeg = true))) := by
  refine ev_iload_n dX5_hasRole_0 rfl ?_
  refine ev_iconst 0 dX5_hasRole_1 (by decide) ?_
  refine ev_iconst 3 dX5_hasRole_2 (by decide) ?_
  refine cSp3 dX5_hasRole_3 SX5_84 rfl rfl rfl rfl (t_in _ _ _) ?_
  refine ev_if_eq 27 dX5_hasRole_6 (by decide) (fun c6 => ?_) (fun c6 => ?_)
  · refine ev_iconst 0 dX5_hasRole_27 (by decide) ?_
    refine ev_ireturn dX5_hasRole_28 rfl rfl rfl ?_
    first | exact Rp.mk (bI_f (fun q => by rw [bI_0, in03] at c6; exact c6 q.1)) | exact Rp.mk (bI_f (fun q => c20 ((hr_iff hR c6).mpr q.2))) | exact Rp.mk (bI_t ⟨c6, (hr_iff hR c6).mp (c20)⟩)
  · rw [bI_n, in03] at c6
    refine ev_aload_n dX5_hasRole_9 rfl ?_
    refine ev_getR dX5_hasRole_10 fX5_32 ⟨_, rfl, rfl⟩ ?_
    refine ev_iload_n dX5_hasRole_13 rfl ?_
    refine ev_iaload dX5_hasRole_14 rfl (vp_in_nI hw (by decide)) ?_
    rw [clN (by omega), e]
    refine ev_iload_n dX5_hasRole_15 rfl ?_
    refine ev_ishr dX5_hasRole_16 ?_
    refine ev_iconst 1 dX5_hasRole_17 (by decide) ?_
    refine ev_iand dX5_hasRole_18 ?_
    refine ev_iconst 1 dX5_hasRole_19 (by decide) ?_
    refine ev_icmp_ne 27 dX5_hasRole_20 (by decide) (fun c20 => ?_) (fun c20 => ?_)
    · refine ev_iconst 0 dX5_hasRole_27 (by decide) ?_
      refine ev_ireturn dX5_hasRole_28 rfl rfl rfl ?_
      first | exact Rp.mk (bI_f (fun q => by rw [bI_0, in03] at c6; exact c6 q.1)) | exact Rp.mk (bI_f (fun q => c20 ((hr_iff hR c6).mpr q.2))) | exact Rp.mk (bI_t ⟨c6, (hr_iff hR c6).mp (c20)⟩)
    · refine ev_iconst 1 dX5_hasRole_23 (by decide) ?_
      refine ev_goto 28 dX5_hasRole_24 (by decide) ?_
      refine ev_ireturn dX5_hasRole_28 rfl rfl rfl ?_
      first | exact Rp.mk (bI_f (fun q => by rw [bI_0, in03] at c6; exact c6 q.1)) | exact Rp.mk (bI_f (fun q => c20 ((hr_iff hR c6).mpr q.2))) | exact Rp.mk (bI_t ⟨c6, (hr_iff hR c6).mp (c20)⟩)
theorem t_hasRoleB (hw : WF β) (h : RM σ β) {w : Nat} (hlt : w < nW β) (x : Int32) : ev mX5_hasRole (d + 1) 0 [some (.ref 35), some (.int (nI w)), some (.int x)] [] (LY L) σ 0 0 (Rp (LY L) σ (bI (inR x 4 ∧ (β 42 w).toNatClampNeg.testBit x.toNatClampNeg = true))) := by
  have h4 := hw.1.2.2.2.2.2.2.2.2
  obtain ⟨r1, r2, -⟩ := rolN hw hlt
  exact t_hasRole (by omega) (by omega) (by rw [(h.2.2.2.2.2.2.2.2.1 w (by omega)).2.1]; exact r1)
def canU (β : ai_M) (f u r i : Nat) : Bool := (List.range i).any (fun i => β 38 i = nI f && β 39 i = nI u && β 40 i = nI r)
theorem canU_S (β : ai_M) (f u r i : Nat) : canU β f u r (i + 1) = (canU β f u r i || (β 38 i = nI f && β 39 i = nI u && β 40 i = nI r)) := by
  unfold canU
  rw [List.range_succ, List.any_append]
  simp
theorem can_loop (hw : WF β) (h : RM σ β) {f u r : Nat} : ∀ n i, i + n = nM β → ev mX5_can d 6 [some (.ref 35), some (.int (nI f)), some (.int (nI u)), some (.int (nI r)), some (.int (bI (canU β f u r i = true))), some (.int (nI i))] [] (LY L) σ 0 0 (Rp (LY L) σ (bI (canB β f u r = true))) := by
  have hm := hw.1.2.2.2.2.2.2.1
  have em : σ 35 4 = nI (nM β) := h.2.2.1.trans hw.1.2.2.2.2.2.1
  have hA := h.2.2.2.2.2.2.2.1
  intro n
  induction n with
  | zero =>
    intro i hi
    obtain rfl : i = nM β := by omega
    refine ev_iload dX5_can_6 rfl ?_
    refine ev_aload_n dX5_can_8 rfl ?_
    refine ev_getI dX5_can_9 fX5_71 ⟨_, rfl, rfl⟩ ?_
    rw [em]
    refine ev_icmp_ge 66 dX5_can_12 (by decide) (fun c12 => ?_) (fun c12 => absurd (nI_le (by omega) (by omega)) c12)
    refine ev_iload dX5_can_66 rfl ?_
    refine ev_ireturn dX5_can_68 rfl rfl (bI_z _) ?_
    exact Rp.mk rfl
  | succ n ih =>
    intro i hi
    have a := hA i (by omega)
    have ic : (nI i).toNatClampNeg = i := clN (by omega)
    have hin : vp_in (nI i) 30 := vp_in_nI (by omega) (by decide)
    have fin : ∀ b : Int32, b = bI (canU β f u r (i + 1) = true) → ev mX5_can d 58 [some (.ref 35), some (.int (nI f)), some (.int (nI u)), some (.int (nI r)), some (.int (bI (canU β f u r i = true))), some (.int (nI i))] [.int b] (LY L) σ 0 0 (Rp (LY L) σ (bI (canB β f u r = true))) := by
      intro b hb
      subst hb
      refine ev_istore dX5_can_58 (by decide) ?_
      refine ev_iinc _ dX5_can_60 rfl rfl (by decide) ?_
      rw [show nI i + Int32.ofInt 1 = nI (i + 1) from nI_1 i]
      refine ev_goto 6 dX5_can_63 (by decide) ?_
      exact ih (i + 1) (by omega)
    refine ev_iload dX5_can_6 rfl ?_
    refine ev_aload_n dX5_can_8 rfl ?_
    refine ev_getI dX5_can_9 fX5_71 ⟨_, rfl, rfl⟩ ?_
    rw [em]
    refine ev_icmp_ge 66 dX5_can_12 (by decide) (fun c12 => absurd c12 (nI_ge (by omega) (by omega))) (fun c12 => ?_)
    refine ev_iload dX5_can_15 rfl ?_
    refine ev_if_ne 53 dX5_can_17 (by decide) (fun c17 => ?_) (fun c17 => ?_)
    · refine ev_iconst 1 dX5_can_53 (by decide) ?_
      refine ev_goto 58 dX5_can_54 (by decide) ?_
      refine fin _ ?_
      rw [canU_S]
      first | exact cs1 (bI_n.mp c17) | exact cs2 (bI_0.mp (Decidable.not_not.mp c17)) (by rw [ic, a.1] at c28; exact c28) | exact cs2 (bI_0.mp c17) (by rw [ic, a.1] at c28; exact c28) | exact cs3 (bI_0.mp c17) (by rw [ic, a.2.1] at c39; exact c39) | exact cs4 (bI_0.mp c17) (by rw [ic, a.2.2] at c50; exact c50) | exact cs5 (by rw [ic, a.1] at c28; exact c28) (by rw [ic, a.2.1] at c39; exact c39) (by rw [ic, a.2.2] at c50; exact c50)
    · refine ev_aload_n dX5_can_20 rfl ?_
      refine ev_getR dX5_can_21 fX5_20 ⟨_, rfl, rfl⟩ ?_
      refine ev_iload dX5_can_24 rfl ?_
      refine ev_iaload dX5_can_26 rfl hin ?_
      refine ev_iload_n dX5_can_27 rfl ?_
      refine ev_icmp_ne 57 dX5_can_28 (by decide) (fun c28 => ?_) (fun c28 => ?_)
      · refine ev_iconst 0 dX5_can_57 (by decide) ?_
        refine fin _ ?_
        rw [canU_S]
        first | exact cs1 (bI_n.mp c17) | exact cs2 (bI_0.mp (Decidable.not_not.mp c17)) (by rw [ic, a.1] at c28; exact c28) | exact cs2 (bI_0.mp c17) (by rw [ic, a.1] at c28; exact c28) | exact cs3 (bI_0.mp c17) (by rw [ic, a.2.1] at c39; exact c39) | exact cs4 (bI_0.mp c17) (by rw [ic, a.2.2] at c50; exact c50) | exact cs5 (by rw [ic, a.1] at c28; exact c28) (by rw [ic, a.2.1] at c39; exact c39) (by rw [ic, a.2.2] at c50; exact c50)
      · refine ev_aload_n dX5_can_31 rfl ?_
        refine ev_getR dX5_can_32 fX5_23 ⟨_, rfl, rfl⟩ ?_
        refine ev_iload dX5_can_35 rfl ?_
        refine ev_iaload dX5_can_37 rfl hin ?_
        refine ev_iload_n dX5_can_38 rfl ?_
        refine ev_icmp_ne 57 dX5_can_39 (by decide) (fun c39 => ?_) (fun c39 => ?_)
        · refine ev_iconst 0 dX5_can_57 (by decide) ?_
          refine fin _ ?_
          rw [canU_S]
          first | exact cs1 (bI_n.mp c17) | exact cs2 (bI_0.mp (Decidable.not_not.mp c17)) (by rw [ic, a.1] at c28; exact c28) | exact cs2 (bI_0.mp c17) (by rw [ic, a.1] at c28; exact c28) | exact cs3 (bI_0.mp c17) (by rw [ic, a.2.1] at c39; exact c39) | exact cs4 (bI_0.mp c17) (by rw [ic, a.2.2] at c50; exact c50) | exact cs5 (by rw [ic, a.1] at c28; exact c28) (by rw [ic, a.2.1] at c39; exact c39) (by rw [ic, a.2.2] at c50; exact c50)
        · refine ev_aload_n dX5_can_42 rfl ?_
          refine ev_getR dX5_can_43 fX5_26 ⟨_, rfl, rfl⟩ ?_
          refine ev_iload dX5_can_46 rfl ?_
          refine ev_iaload dX5_can_48 rfl hin ?_
          refine ev_iload_n dX5_can_49 rfl ?_
          refine ev_icmp_ne 57 dX5_can_50 (by decide) (fun c50 => ?_) (fun c50 => ?_)
          · refine ev_iconst 0 dX5_can_57 (by decide) ?_
            refine fin _ ?_
            rw [canU_S]
            first | exact cs1 (bI_n.mp c17) | exact cs2 (bI_0.mp (Decidable.not_not.mp c17)) (by rw [ic, a.1] at c28; exact c28) | exact cs2 (bI_0.mp c17) (by rw [ic, a.1] at c28; exact c28) | exact cs3 (bI_0.mp c17) (by rw [ic, a.2.1] at c39; exact c39) | exact cs4 (bI_0.mp c17) (by rw [ic, a.2.2] at c50; exact c50) | exact cs5 (by rw [ic, a.1] at c28; exact c28) (by rw [ic, a.2.1] at c39; exact c39) (by rw [ic, a.2.2] at c50; exact c50)
          · refine ev_iconst 1 dX5_can_53 (by decide) ?_
            refine ev_goto 58 dX5_can_54 (by decide) ?_
            refine fin _ ?_
            rw [canU_S]
            first | exact cs1 (bI_n.mp c17) | exact cs2 (bI_0.mp (Decidable.not_not.mp c17)) (by rw [ic, a.1] at c28; exact c28) | exact cs2 (bI_0.mp c17) (by rw [ic, a.1] at c28; exact c28) | exact cs3 (bI_0.mp c17) (by rw [ic, a.2.1] at c39; exact c39) | exact cs4 (bI_0.mp c17) (by rw [ic, a.2.2] at c50; exact c50) | exact cs5 (by rw [ic, a.1] at c28; exact c28) (by rw [ic, a.2.1] at c39; exact c39) (by rw [ic, a.2.2] at c50; exact c50)
theorem t_can (hw : WF β) (h : RM σ β) (f u r : Nat) : ev mX5_can d 0 [some (.ref 35), some (.int (nI f)), some (.int (nI u)), some (.int (nI r)), none, none] [] (LY L) σ 0 0 (Rp (LY L) σ (bI (canB β f u r = true))) := by
  refine ev_iconst 0 dX5_can_0 (by decide) ?_
  refine ev_istore dX5_can_1 (by decide) ?_
  refine ev_iconst 0 dX5_can_3 (by decide) ?_
  refine ev_istore dX5_can_4 (by decide) ?_
  exact can_loop hw h (nM β) 0 (by omega)
end MB
