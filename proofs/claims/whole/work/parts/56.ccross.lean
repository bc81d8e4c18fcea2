theorem bI_one {p q : Prop} [Decidable p] [Decidable q] : bI p + bI q = 1 ↔ ¬ (p ↔ q) := by
  by_cases h1 : p <;> by_cases h2 : q <;> simp [bI, h1, h2] <;> decide
theorem btw_iff (x a b : Int32) : btwI x a b ↔ ((if b < a then b else a) < x ∧ x < (if a < b then b else a)) := by
  by_cases h1 : a < b
  · have h2 : ¬ b < a := by simp only [Int32.lt_iff_toInt_lt] at *; omega
    rw [if_neg h2, if_pos h1]
    constructor
    · rintro (⟨-, q⟩ | ⟨q, -⟩)
      · exact q
      · exact absurd h1 q
    · exact fun q => Or.inl ⟨h1, q⟩
  · have key : btwI x a b ↔ (b < x ∧ x < a) := by
      constructor
      · rintro (⟨q, -⟩ | ⟨-, q⟩)
        · exact absurd q h1
        · exact q
      · exact fun q => Or.inr ⟨h1, q⟩
    rw [key, if_neg h1]
    by_cases h2 : b < a
    · rw [if_pos h2]
    · rw [if_neg h2]
      have e : a = b := by
        apply Int32.toInt_inj.mp
        simp only [Int32.lt_iff_toInt_lt] at *; omega
      rw [e]
section CCR
variable {σ β : ai_M} {d L : Nat} {y0 : ai_L}
theorem t_cross (a b c e : Int32) : ev mX4_cross (d + 1) 0 [some (.int a), some (.int b), some (.int c), some (.int e), none, none, none] [] y0 σ 0 0 (Rp y0 σ (bI (crsD a b c e = true))) := by
  have no : ¬ unlI a b c e → Rp y0 σ (bI (crsD a b c e = true)) (some (.int 0)) y0 σ := fun q => Rp.mk (bI_f (by simp [crsD, q]))
  have fin2 : unlI a b c e → ∀ (x : Int32) (l4 l5 l6 : Option Value), x = bI (btwI e a b) → ev mX4_cross (d + 1) 80 [some (.int a), some (.int b), some (.int c), some (.int e), l4, l5, l6] [.int x, .int (bI (btwI c a b))] y0 σ 0 0 (Rp y0 σ (bI (crsD a b c e = true))) := by
    rintro hu x l4 l5 l6 rfl
    have hy : ¬ (btwI c a b ↔ btwI e a b) → crsD a b c e = true := fun q => by
      have z : (decide (btwI c a b) != decide (btwI e a b)) = true := by rw [bne_iff_ne]; exact fun z => q (decide_eq_decide.mp z)
      unfold crsD
      rw [decide_eq_true hu, z]; rfl
    have hn : (btwI c a b ↔ btwI e a b) → ¬ crsD a b c e = true := fun q => by simp [crsD, q]
    refine ev_iadd dX4_cross_80 ?_
    refine ev_istore dX4_cross_81 (by decide) ?_
    refine ev_iload dX4_cross_83 rfl ?_
    refine ev_iconst 1 dX4_cross_85 (by decide) ?_
    refine ev_icmp_ne 93 dX4_cross_86 (by decide) (fun c86 => ?_) (fun c86 => ?_)
    · refine ev_iconst 0 dX4_cross_93 (by decide) ?_
      refine ev_ireturn dX4_cross_94 rfl rfl rfl ?_
      first | exact Rp.mk (bI_f (hn (Decidable.not_not.mp (fun q => c86 (bI_one.mpr q))))) | exact Rp.mk (bI_t (hy (bI_one.mp c86)))
    · refine ev_iconst 1 dX4_cross_89 (by decide) ?_
      refine ev_goto 94 dX4_cross_90 (by decide) ?_
      refine ev_ireturn dX4_cross_94 rfl rfl rfl ?_
      first | exact Rp.mk (bI_f (hn (Decidable.not_not.mp (fun q => c86 (bI_one.mpr q))))) | exact Rp.mk (bI_t (hy (bI_one.mp c86)))
  have fin : unlI a b c e → ∀ x : Int32, x = bI (btwI c a b) → ev mX4_cross (d + 1) 63 [some (.int a), some (.int b), some (.int c), some (.int e), some (.int (if b < a then b else a)), some (.int (if a < b then b else a)), none] [.int x] y0 σ 0 0 (Rp y0 σ (bI (crsD a b c e = true))) := by
    rintro hu x rfl
    have iff := btw_iff e a b
    refine ev_iload dX4_cross_63 rfl ?_
    refine ev_iload_n dX4_cross_65 rfl ?_
    refine ev_icmp_ge 79 dX4_cross_66 (by decide) (fun c66 => ?_) (fun c66 => ?_)
    · refine ev_iconst 0 dX4_cross_79 (by decide) ?_
      first | exact fin2 hu _ _ _ _ (bI_f (fun q => absurd (iff.mp q).1 (Int32.not_lt.mpr c66))) | exact fin2 hu _ _ _ _ (bI_f (fun q => absurd (iff.mp q).2 (Int32.not_lt.mpr c72))) | exact fin2 hu _ _ _ _ (bI_t (iff.mpr ⟨Int32.not_le.mp c66, Int32.not_le.mp c72⟩))
    · refine ev_iload_n dX4_cross_69 rfl ?_
      refine ev_iload dX4_cross_70 rfl ?_
      refine ev_icmp_ge 79 dX4_cross_72 (by decide) (fun c72 => ?_) (fun c72 => ?_)
      · refine ev_iconst 0 dX4_cross_79 (by decide) ?_
        first | exact fin2 hu _ _ _ _ (bI_f (fun q => absurd (iff.mp q).1 (Int32.not_lt.mpr c66))) | exact fin2 hu _ _ _ _ (bI_f (fun q => absurd (iff.mp q).2 (Int32.not_lt.mpr c72))) | exact fin2 hu _ _ _ _ (bI_t (iff.mpr ⟨Int32.not_le.mp c66, Int32.not_le.mp c72⟩))
      · refine ev_iconst 1 dX4_cross_75 (by decide) ?_
        refine ev_goto 80 dX4_cross_76 (by decide) ?_
        first | exact fin2 hu _ _ _ _ (bI_f (fun q => absurd (iff.mp q).1 (Int32.not_lt.mpr c66))) | exact fin2 hu _ _ _ _ (bI_f (fun q => absurd (iff.mp q).2 (Int32.not_lt.mpr c72))) | exact fin2 hu _ _ _ _ (bI_t (iff.mpr ⟨Int32.not_le.mp c66, Int32.not_le.mp c72⟩))
  have iff := btw_iff c a b
  refine ev_iload_n dX4_cross_0 rfl ?_
  refine ev_iload_n dX4_cross_1 rfl ?_
  refine ev_icmp_eq 30 dX4_cross_2 (by decide) (fun c2 => ?_) (fun c2 => ?_)
  · refine ev_iconst 0 dX4_cross_30 (by decide) ?_
    refine ev_ireturn dX4_cross_31 rfl rfl rfl ?_
    first | exact no (fun q => q.1 c2) | exact no (fun q => q.2.1 c7) | exact no (fun q => q.2.2.1 c12) | exact no (fun q => q.2.2.2.1 c17) | exact no (fun q => q.2.2.2.2.1 c22) | exact no (fun q => c27 q.2.2.2.2.2) | exact no (fun q => q.2.2.2.2.2 c27)
  · refine ev_iload_n dX4_cross_5 rfl ?_
    refine ev_iload_n dX4_cross_6 rfl ?_
    refine ev_icmp_eq 30 dX4_cross_7 (by decide) (fun c7 => ?_) (fun c7 => ?_)
    · refine ev_iconst 0 dX4_cross_30 (by decide) ?_
      refine ev_ireturn dX4_cross_31 rfl rfl rfl ?_
      first | exact no (fun q => q.1 c2) | exact no (fun q => q.2.1 c7) | exact no (fun q => q.2.2.1 c12) | exact no (fun q => q.2.2.2.1 c17) | exact no (fun q => q.2.2.2.2.1 c22) | exact no (fun q => c27 q.2.2.2.2.2) | exact no (fun q => q.2.2.2.2.2 c27)
    · refine ev_iload_n dX4_cross_10 rfl ?_
      refine ev_iload_n dX4_cross_11 rfl ?_
      refine ev_icmp_eq 30 dX4_cross_12 (by decide) (fun c12 => ?_) (fun c12 => ?_)
      · refine ev_iconst 0 dX4_cross_30 (by decide) ?_
        refine ev_ireturn dX4_cross_31 rfl rfl rfl ?_
        first | exact no (fun q => q.1 c2) | exact no (fun q => q.2.1 c7) | exact no (fun q => q.2.2.1 c12) | exact no (fun q => q.2.2.2.1 c17) | exact no (fun q => q.2.2.2.2.1 c22) | exact no (fun q => c27 q.2.2.2.2.2) | exact no (fun q => q.2.2.2.2.2 c27)
      · refine ev_iload_n dX4_cross_15 rfl ?_
        refine ev_iload_n dX4_cross_16 rfl ?_
        refine ev_icmp_eq 30 dX4_cross_17 (by decide) (fun c17 => ?_) (fun c17 => ?_)
        · refine ev_iconst 0 dX4_cross_30 (by decide) ?_
          refine ev_ireturn dX4_cross_31 rfl rfl rfl ?_
          first | exact no (fun q => q.1 c2) | exact no (fun q => q.2.1 c7) | exact no (fun q => q.2.2.1 c12) | exact no (fun q => q.2.2.2.1 c17) | exact no (fun q => q.2.2.2.2.1 c22) | exact no (fun q => c27 q.2.2.2.2.2) | exact no (fun q => q.2.2.2.2.2 c27)
        · refine ev_iload_n dX4_cross_20 rfl ?_
          refine ev_iload_n dX4_cross_21 rfl ?_
          refine ev_icmp_eq 30 dX4_cross_22 (by decide) (fun c22 => ?_) (fun c22 => ?_)
          · refine ev_iconst 0 dX4_cross_30 (by decide) ?_
            refine ev_ireturn dX4_cross_31 rfl rfl rfl ?_
            first | exact no (fun q => q.1 c2) | exact no (fun q => q.2.1 c7) | exact no (fun q => q.2.2.1 c12) | exact no (fun q => q.2.2.2.1 c17) | exact no (fun q => q.2.2.2.2.1 c22) | exact no (fun q => c27 q.2.2.2.2.2) | exact no (fun q => q.2.2.2.2.2 c27)
          · refine ev_iload_n dX4_cross_25 rfl ?_
            refine ev_iload_n dX4_cross_26 rfl ?_
            refine ev_icmp_ne 32 dX4_cross_27 (by decide) (fun c27 => ?_) (fun c27 => ?_)
            · refine ev_iload_n dX4_cross_32 rfl ?_
              refine ev_iload_n dX4_cross_33 rfl ?_
              refine ev_min dX4_cross_34 maX4_190 (Nat.le_of_ble_eq_true rfl) ?_
              refine ev_istore dX4_cross_37 (by decide) ?_
              refine ev_iload_n dX4_cross_39 rfl ?_
              refine ev_iload_n dX4_cross_40 rfl ?_
              refine ev_max dX4_cross_41 maX4_195 (Nat.le_of_ble_eq_true rfl) ?_
              refine ev_istore dX4_cross_44 (by decide) ?_
              refine ev_iload dX4_cross_46 rfl ?_
              refine ev_iload_n dX4_cross_48 rfl ?_
              refine ev_icmp_ge 62 dX4_cross_49 (by decide) (fun c49 => ?_) (fun c49 => ?_)
              · refine ev_iconst 0 dX4_cross_62 (by decide) ?_
                have hu : unlI a b c e := ⟨c2, c7, c12, c17, c22, c27⟩
                first | exact fin hu _ (bI_f (fun q => absurd (iff.mp q).1 (Int32.not_lt.mpr c49))) | exact fin hu _ (bI_f (fun q => absurd (iff.mp q).2 (Int32.not_lt.mpr c55))) | exact fin hu _ (bI_t (iff.mpr ⟨Int32.not_le.mp c49, Int32.not_le.mp c55⟩))
              · refine ev_iload_n dX4_cross_52 rfl ?_
                refine ev_iload dX4_cross_53 rfl ?_
                refine ev_icmp_ge 62 dX4_cross_55 (by decide) (fun c55 => ?_) (fun c55 => ?_)
                · refine ev_iconst 0 dX4_cross_62 (by decide) ?_
                  have hu : unlI a b c e := ⟨c2, c7, c12, c17, c22, c27⟩
                  first | exact fin hu _ (bI_f (fun q => absurd (iff.mp q).1 (Int32.not_lt.mpr c49))) | exact fin hu _ (bI_f (fun q => absurd (iff.mp q).2 (Int32.not_lt.mpr c55))) | exact fin hu _ (bI_t (iff.mpr ⟨Int32.not_le.mp c49, Int32.not_le.mp c55⟩))
                · refine ev_iconst 1 dX4_cross_58 (by decide) ?_
                  refine ev_goto 63 dX4_cross_59 (by decide) ?_
                  have hu : unlI a b c e := ⟨c2, c7, c12, c17, c22, c27⟩
                  first | exact fin hu _ (bI_f (fun q => absurd (iff.mp q).1 (Int32.not_lt.mpr c49))) | exact fin hu _ (bI_f (fun q => absurd (iff.mp q).2 (Int32.not_lt.mpr c55))) | exact fin hu _ (bI_t (iff.mpr ⟨Int32.not_le.mp c49, Int32.not_le.mp c55⟩))
            · refine ev_iconst 0 dX4_cross_30 (by decide) ?_
              refine ev_ireturn dX4_cross_31 rfl rfl rfl ?_
              first | exact no (fun q => q.1 c2) | exact no (fun q => q.2.1 c7) | exact no (fun q => q.2.2.1 c12) | exact no (fun q => q.2.2.2.1 c17) | exact no (fun q => q.2.2.2.2.1 c22) | exact no (fun q => c27 q.2.2.2.2.2) | exact no (fun q => q.2.2.2.2.2 c27)
theorem cc_body (hw : WF β) (hW : rcW σ β) {F : Nat → Int32} (hF : ∀ k, k < 16 → σ 34 k = F k) (hp : ∀ k, k < 16 → F k = -6 ∨ (0 ≤ F k ∧ k / 4 < nW β)) {Q : Option Value → ai_L → ai_M → Prop} {i j n : Nat} (hi : i < 16) (hj : j < i)
    (K : ev mX4_countCrossings (d + 2) 87 [some (.ref 2), some (.ref 32), some (.int (nI (n + if crs β F i j then 1 else 0))), some (.int (nI i)), some (.int (nI j))] [] (LY L) σ 0 0 Q) :
    ev mX4_countCrossings (d + 2) 19 [some (.ref 2), some (.ref 32), some (.int (nI n)), some (.int (nI i)), some (.int (nI j))] [] (LY L) σ 0 0 Q := by
  have ii : vp_in (nI i) 16 := vp_in_nI (by omega) (by decide)
  have ij : vp_in (nI j) 16 := vp_in_nI (by omega) (by decide)
  have ci : (nI i).toNatClampNeg = i := clN (by omega)
  have cj : (nI j).toNatClampNeg = j := clN (by omega)
  have di : nI i / 4 = nI (i / 4) := pk_div (d := 4) (by omega) (by decide) (by decide)
  have dj : nI j / 4 = nI (j / 4) := pk_div (d := 4) (by omega) (by decide) (by decide)
  have neg : ¬ (0 ≤ F i ∧ 0 ≤ F j) → ¬ crs β F i j = true := fun q1 => by
    simp only [crs, Bool.and_eq_true, decide_eq_true_eq]; exact fun q => q1 q.1
  have n6 : ¬ (0 : Int32) ≤ -6 := by decide
  by_cases q1 : F i = -6
  · have := neg (fun q => by rw [q1] at q; exact n6 q.1)
    rw [if_neg this, Nat.add_zero] at K
    refine ev_aload_n dX4_countCrossings_19 rfl ?_
    refine ev_getR dX4_countCrossings_20 fX4_183 ⟨_, rfl, rfl⟩ ?_
    refine ev_iload_n dX4_countCrossings_23 rfl ?_
    refine ev_iaload dX4_countCrossings_24 rfl ii ?_
    rw [ci, hF i hi]
    refine ev_bipush (-6) dX4_countCrossings_25 (by decide) ?_
    refine ev_icmp_eq 87 dX4_countCrossings_27 (by decide) (fun c27 => ?_) (fun c27 => absurd q1 c27)
    exact K
  · by_cases q2 : F j = -6
    · have := neg (fun q => by rw [q2] at q; exact n6 q.2)
      rw [if_neg this, Nat.add_zero] at K
      refine ev_aload_n dX4_countCrossings_19 rfl ?_
      refine ev_getR dX4_countCrossings_20 fX4_183 ⟨_, rfl, rfl⟩ ?_
      refine ev_iload_n dX4_countCrossings_23 rfl ?_
      refine ev_iaload dX4_countCrossings_24 rfl ii ?_
      rw [ci, hF i hi]
      refine ev_bipush (-6) dX4_countCrossings_25 (by decide) ?_
      refine ev_icmp_eq 87 dX4_countCrossings_27 (by decide) (fun c27 => absurd c27 q1) (fun c27 => ?_)
      refine ev_aload_n dX4_countCrossings_30 rfl ?_
      refine ev_getR dX4_countCrossings_31 fX4_183 ⟨_, rfl, rfl⟩ ?_
      refine ev_iload dX4_countCrossings_34 rfl ?_
      refine ev_iaload dX4_countCrossings_36 rfl ij ?_
      rw [cj, hF j (by omega)]
      refine ev_bipush (-6) dX4_countCrossings_37 (by decide) ?_
      refine ev_icmp_eq 87 dX4_countCrossings_39 (by decide) (fun c39 => ?_) (fun c39 => absurd q2 c39)
      exact K
    · have p1 := (hp i hi).resolve_left q1
      have p2 := (hp j (by omega)).resolve_left q2
      have e1 := (hW _ p1.2).2.2.2
      have e2 := (hW _ p2.2).2.2.2
      have ecrs : crs β F i j = crsD (β 44 (i / 4)) (F i) (β 44 (j / 4)) (F j) := by
        unfold crs
        rw [decide_eq_true p1.1, decide_eq_true p2.1]; rfl
      rw [ecrs] at K
      refine ev_aload_n dX4_countCrossings_19 rfl ?_
      refine ev_getR dX4_countCrossings_20 fX4_183 ⟨_, rfl, rfl⟩ ?_
      refine ev_iload_n dX4_countCrossings_23 rfl ?_
      refine ev_iaload dX4_countCrossings_24 rfl ii ?_
      rw [ci, hF i hi]
      refine ev_bipush (-6) dX4_countCrossings_25 (by decide) ?_
      refine ev_icmp_eq 87 dX4_countCrossings_27 (by decide) (fun c27 => absurd c27 q1) (fun c27 => ?_)
      refine ev_aload_n dX4_countCrossings_30 rfl ?_
      refine ev_getR dX4_countCrossings_31 fX4_183 ⟨_, rfl, rfl⟩ ?_
      refine ev_iload dX4_countCrossings_34 rfl ?_
      refine ev_iaload dX4_countCrossings_36 rfl ij ?_
      rw [cj, hF j (by omega)]
      refine ev_bipush (-6) dX4_countCrossings_37 (by decide) ?_
      refine ev_icmp_eq 87 dX4_countCrossings_39 (by decide) (fun c39 => absurd c39 q2) (fun c39 => ?_)
      refine ev_aload_n dX4_countCrossings_42 rfl ?_
      refine ev_getR dX4_countCrossings_43 fX4_19 ⟨_, rfl, rfl⟩ ?_
      refine ev_getR dX4_countCrossings_46 fX4_117 ⟨_, rfl, rfl⟩ ?_
      refine ev_iload_n dX4_countCrossings_49 rfl ?_
      refine ev_iconst 4 dX4_countCrossings_50 (by decide) ?_
      refine ev_idiv dX4_countCrossings_51 (by decide) ?_
      rw [di]
      refine ev_iaload dX4_countCrossings_52 rfl (vp_in_nI (by omega) (by decide)) ?_
      rw [clN (by omega), e1]
      refine ev_aload_n dX4_countCrossings_53 rfl ?_
      refine ev_getR dX4_countCrossings_54 fX4_183 ⟨_, rfl, rfl⟩ ?_
      refine ev_iload_n dX4_countCrossings_57 rfl ?_
      refine ev_iaload dX4_countCrossings_58 rfl ii ?_
      rw [ci, hF i hi]
      refine ev_aload_n dX4_countCrossings_59 rfl ?_
      refine ev_getR dX4_countCrossings_60 fX4_19 ⟨_, rfl, rfl⟩ ?_
      refine ev_getR dX4_countCrossings_63 fX4_117 ⟨_, rfl, rfl⟩ ?_
      refine ev_iload dX4_countCrossings_66 rfl ?_
      refine ev_iconst 4 dX4_countCrossings_68 (by decide) ?_
      refine ev_idiv dX4_countCrossings_69 (by decide) ?_
      rw [dj]
      refine ev_iaload dX4_countCrossings_70 rfl (vp_in_nI (by omega) (by decide)) ?_
      rw [clN (by omega), e2]
      refine ev_aload_n dX4_countCrossings_71 rfl ?_
      refine ev_getR dX4_countCrossings_72 fX4_183 ⟨_, rfl, rfl⟩ ?_
      refine ev_iload dX4_countCrossings_75 rfl ?_
      refine ev_iaload dX4_countCrossings_77 rfl ij ?_
      rw [cj, hF j (by omega)]
      refine cSp4 dX4_countCrossings_78 SX4_186 rfl rfl rfl rfl rfl (t_cross (d := d) _ _ _ _) ?_
      refine ev_if_eq 87 dX4_countCrossings_81 (by decide) (fun c81 => ?_) (fun c81 => ?_)
      · first | (rw [bI_0] at c81; rw [if_neg c81, Nat.add_zero] at K; exact K) | (rw [bI_n] at c81; rw [if_pos c81] at K; exact K)
      · refine ev_iinc _ dX4_countCrossings_84 rfl rfl (by decide) ?_
        rw [show nI n + Int32.ofInt 1 = nI (n + 1) from nI_1 n]
        first | (rw [bI_0] at c81; rw [if_neg c81, Nat.add_zero] at K; exact K) | (rw [bI_n] at c81; rw [if_pos c81] at K; exact K)
theorem cc_in (hw : WF β) (hW : rcW σ β) {F : Nat → Int32} (hF : ∀ k, k < 16 → σ 34 k = F k) (hp : ∀ k, k < 16 → F k = -6 ∨ (0 ≤ F k ∧ k / 4 < nW β)) {Q : Option Value → ai_L → ai_M → Prop} {i m : Nat} (hi : i < 16) (K : ev mX4_countCrossings (d + 2) 93 [some (.ref 2), some (.ref 32), some (.int (nI (m + cnt (crs β F i) i))), some (.int (nI i)), some (.int (nI i))] [] (LY L) σ 0 0 Q) :
    ∀ n j, j + n = i → ev mX4_countCrossings (d + 2) 13 [some (.ref 2), some (.ref 32), some (.int (nI (m + cnt (crs β F i) j))), some (.int (nI i)), some (.int (nI j))] [] (LY L) σ 0 0 Q := by
  intro n
  induction n with
  | zero =>
    intro j hj
    obtain rfl : j = i := by omega
    refine ev_iload dX4_countCrossings_13 rfl ?_
    refine ev_iload_n dX4_countCrossings_15 rfl ?_
    refine ev_icmp_ge 93 dX4_countCrossings_16 (by decide) (fun c16 => ?_) (fun c16 => absurd (nI_le (by omega) (by omega)) c16)
    exact K
  | succ n ih =>
    intro j hj
    refine ev_iload dX4_countCrossings_13 rfl ?_
    refine ev_iload_n dX4_countCrossings_15 rfl ?_
    refine ev_icmp_ge 93 dX4_countCrossings_16 (by decide) (fun c16 => absurd c16 (nI_ge (by omega) (by omega))) (fun c16 => ?_)
    refine cc_body hw hW hF hp hi (by omega) ?_
    refine ev_iinc _ dX4_countCrossings_87 rfl rfl (by decide) ?_
    rw [show nI j + Int32.ofInt 1 = nI (j + 1) from nI_1 j]
    refine ev_goto 13 dX4_countCrossings_90 (by decide) ?_
    have := ih (j + 1) (by omega)
    unfold cnt at this
    rw [Nat.add_comm (if crs β F i j = true then 1 else 0), ← Nat.add_assoc] at this
    exact this
theorem cc_out (hw : WF β) (hW : rcW σ β) {F : Nat → Int32} (hF : ∀ k, k < 16 → σ 34 k = F k) (hp : ∀ k, k < 16 → F k = -6 ∨ (0 ≤ F k ∧ k / 4 < nW β)) :
    ∀ n i, i + n = 16 → ∀ (l4 : Option Value), ev mX4_countCrossings (d + 2) 4 [some (.ref 2), some (.ref 32), some (.int (nI (crT β F i))), some (.int (nI i)), l4] [] (LY L) σ 0 0 (Rp (LY L) σ (nI (crT β F 16))) := by
  intro n
  induction n with
  | zero =>
    intro i hi l4
    obtain rfl : i = 16 := by omega
    refine ev_iload_n dX4_countCrossings_4 rfl ?_
    refine ev_bipush 16 dX4_countCrossings_5 (by decide) ?_
    refine ev_icmp_ge 99 dX4_countCrossings_7 (by decide) (fun c7 => ?_) (fun c7 => absurd (nI_le (a := 16) (b := 16) (by omega) (by decide)) c7)
    refine ev_iload_n dX4_countCrossings_99 rfl ?_
    refine ev_ireturn dX4_countCrossings_100 rfl rfl rfl ?_
    exact Rp.mk rfl
  | succ n ih =>
    intro i hi l4
    refine ev_iload_n dX4_countCrossings_4 rfl ?_
    refine ev_bipush 16 dX4_countCrossings_5 (by decide) ?_
    refine ev_icmp_ge 99 dX4_countCrossings_7 (by decide) (fun c7 => absurd c7 (nI_ge (b := 16) (by omega) (by decide))) (fun c7 => ?_)
    refine ev_iconst 0 dX4_countCrossings_10 (by decide) ?_
    refine ev_istore dX4_countCrossings_11 (by decide) ?_
    refine cc_in hw hW hF hp (m := crT β F i) (by omega) ?_ i 0 (by omega)
    refine ev_iinc _ dX4_countCrossings_93 rfl rfl (by decide) ?_
    rw [show nI i + Int32.ofInt 1 = nI (i + 1) from nI_1 i]
    refine ev_goto 4 dX4_countCrossings_96 (by decide) ?_
    exact ih (i + 1) (by omega) _
theorem tc_crossings (hw : WF β) (h : RB σ β) (hc : rcC Bst σ β) : ev mX4_crossings (d + 30) 0 [some (.ref 2)] [] (LY L) σ 0 0 (Ri (LY L) (PC Bst (sp_crossings β) σ)) := by
  have h16 := hw.1.2.2.1
  refine ev_aload_n dX4_crossings_0 rfl ?_
  refine cVv0 dX4_crossings_1 VX4_127 ⟨_, rfl⟩ rfl (t_learn (d := d) hw h hc) ?_
  rintro σ1 ⟨h1, h2, h3⟩
  have hB := h2.2.1
  unfold Bst at hB
  cases hb : bestB β false with
  | none =>
    rw [hb] at hB
    refine ev_aload_n dX4_crossings_4 rfl ?_
    refine ev_getI dX4_crossings_5 fX4_40 ⟨_, rfl, rfl⟩ ?_
    rw [hB.1]
    refine ev_bipush (-6) dX4_crossings_8 (by decide) ?_
    refine ev_icmp_ne 18 dX4_crossings_10 (by decide) (fun c10 => absurd rfl c10) (fun c10 => ?_)
    refine ev_bipush (-6) dX4_crossings_13 (by decide) ?_
    refine ev_goto 26 dX4_crossings_15 (by decide) ?_
    refine ev_ireturn dX4_crossings_26 rfl rfl rfl ?_
    exact Ri.mk (PC.of (by rw [sp_crossings, hb]) h1 h2.c h3)
  | some y =>
    rw [hb] at hB
    have hy := best_mem hb
    have hcs := cs_top hw hy
    have hne : ¬ σ1 2 5 = -6 := by rw [hB.1]; exact nI_ne6 (by omega)
    have hp : ∀ k, k < 16 → fOf (plA β) y k = -6 ∨ (0 ≤ fOf (plA β) y k ∧ k / 4 < nW β) := fun k hk => by
      rcases fOf_cases hw hy k with q | ⟨w, r, a1, a2, a3, a4, a5, a6⟩
      · exact Or.inl q
      · exact Or.inr ⟨by rw [a6]; exact nI_pos' (by omega), by omega⟩
    have hcc : ev mX4_countCrossings (d + 29) 0 [some (.ref 2), some (.ref 32), none, none, none] [] (LY L) σ1 0 0 (Rp (LY L) σ1 (nI (crT β (fOf (plA β) y) 16))) := by
      refine ev_iconst 0 dX4_countCrossings_0 (by decide) ?_
      refine ev_istore_n dX4_countCrossings_1 (by decide) ?_
      refine ev_iconst 0 dX4_countCrossings_2 (by decide) ?_
      refine ev_istore_n dX4_countCrossings_3 (by decide) ?_
      exact cc_out (d := d + 27) hw h1.2.2.2.2.2.1 hB.2.2 hp 16 0 rfl _
    refine ev_aload_n dX4_crossings_4 rfl ?_
    refine ev_getI dX4_crossings_5 fX4_40 ⟨_, rfl, rfl⟩ ?_
    refine ev_bipush (-6) dX4_crossings_8 (by decide) ?_
    refine ev_icmp_ne 18 dX4_crossings_10 (by decide) (fun c10 => ?_) (fun c10 => absurd c10 hne)
    refine ev_aload_n dX4_crossings_18 rfl ?_
    refine ev_aload_n dX4_crossings_19 rfl ?_
    refine ev_getR dX4_crossings_20 fX4_37 ⟨_, rfl, rfl⟩ ?_
    refine cVp1 dX4_crossings_23 VX4_137 ⟨_, rfl⟩ rfl rfl (hcc) ?_
    refine ev_ireturn dX4_crossings_26 rfl rfl rfl ?_
    exact Ri.mk (PC.of (by rw [sp_crossings, hb]) h1 h2.c h3)
end CCR
def hdK : List (Nat × Nat) → Int32
  | [] => -6
  | q :: _ => nI q.2
section CST
variable {σ β : ai_M} {d L : Nat}
theorem slot_loop (hf : ∀ k, k < 16 → σ 31 k = β 47 k) {f : Nat} : ∀ n k, k + n = 16 → ev mX2_slotOn d 2 [some (.ref 29), some (.int (nI f)), some (.int (nI k))] [] (LY L) σ 0 0 (Rp (LY L) σ (hdK (stK β f k))) := by
  intro n
  induction n with
  | zero =>
    intro k hk
    obtain rfl : k = 16 := by omega
    refine ev_iload_n dX2_slotOn_2 rfl ?_
    refine ev_aload_n dX2_slotOn_3 rfl ?_
    refine ev_getR dX2_slotOn_4 fX2_15 ⟨_, rfl, rfl⟩ ?_
    refine ev_alen _ dX2_slotOn_7 rfl rfl ?_
    refine ev_icmp_ge 29 dX2_slotOn_8 (by decide) (fun c8 => ?_) (fun c8 => absurd (nI_le (a := 16) (b := 16) (by omega) (by decide)) c8)
    refine ev_bipush (-6) dX2_slotOn_29 (by decide) ?_
    refine ev_ireturn dX2_slotOn_31 rfl rfl rfl ?_
    exact Rp.mk rfl
  | succ n ih =>
    intro k hk
    rw [stK_lt (by omega)]
    have hin : vp_in (nI k) 16 := vp_in_nI (by omega) (by decide)
    have ic : (nI k).toNatClampNeg = k := clN (by omega)
    by_cases q : β 47 k = nI f
    · rw [if_pos q]
      refine ev_iload_n dX2_slotOn_2 rfl ?_
      refine ev_aload_n dX2_slotOn_3 rfl ?_
      refine ev_getR dX2_slotOn_4 fX2_15 ⟨_, rfl, rfl⟩ ?_
      refine ev_alen _ dX2_slotOn_7 rfl rfl ?_
      refine ev_icmp_ge 29 dX2_slotOn_8 (by decide) (fun c8 => absurd c8 (nI_ge (b := 16) (by omega) (by decide))) (fun c8 => ?_)
      refine ev_aload_n dX2_slotOn_11 rfl ?_
      refine ev_getR dX2_slotOn_12 fX2_15 ⟨_, rfl, rfl⟩ ?_
      refine ev_iload_n dX2_slotOn_15 rfl ?_
      refine ev_iaload dX2_slotOn_16 rfl hin ?_
      rw [ic, hf k (by omega)]
      refine ev_iload_n dX2_slotOn_17 rfl ?_
      refine ev_icmp_ne 23 dX2_slotOn_18 (by decide) (fun c18 => absurd q c18) (fun c18 => ?_)
      refine ev_iload_n dX2_slotOn_21 rfl ?_
      refine ev_ireturn dX2_slotOn_22 rfl rfl rfl ?_
      exact Rp.mk rfl
    · rw [if_neg q, List.nil_append]
      refine ev_iload_n dX2_slotOn_2 rfl ?_
      refine ev_aload_n dX2_slotOn_3 rfl ?_
      refine ev_getR dX2_slotOn_4 fX2_15 ⟨_, rfl, rfl⟩ ?_
      refine ev_alen _ dX2_slotOn_7 rfl rfl ?_
      refine ev_icmp_ge 29 dX2_slotOn_8 (by decide) (fun c8 => absurd c8 (nI_ge (b := 16) (by omega) (by decide))) (fun c8 => ?_)
      refine ev_aload_n dX2_slotOn_11 rfl ?_
      refine ev_getR dX2_slotOn_12 fX2_15 ⟨_, rfl, rfl⟩ ?_
      refine ev_iload_n dX2_slotOn_15 rfl ?_
      refine ev_iaload dX2_slotOn_16 rfl hin ?_
      rw [ic, hf k (by omega)]
      refine ev_iload_n dX2_slotOn_17 rfl ?_
      refine ev_icmp_ne 23 dX2_slotOn_18 (by decide) (fun c18 => ?_) (fun c18 => absurd c18 q)
      refine ev_iinc _ dX2_slotOn_23 rfl rfl (by decide) ?_
      rw [show nI k + Int32.ofInt 1 = nI (k + 1) from nI_1 k]
      refine ev_goto 2 dX2_slotOn_26 (by decide) ?_
      exact ih (k + 1) (by omega)
theorem t_slotOn (hf : ∀ k, k < 16 → σ 31 k = β 47 k) (f : Nat) : ev mX2_slotOn d 0 [some (.ref 29), some (.int (nI f)), none] [] (LY L) σ 0 0 (Rp (LY L) σ (hdK (stK β f 0))) := by
  refine ev_iconst 0 dX2_slotOn_0 (by decide) ?_
  refine ev_istore_n dX2_slotOn_1 (by decide) ?_
  exact slot_loop hf 16 0 rfl
theorem stK_one (hw : WF β) {f : Nat} (hf : f < 16) : ∀ n k, k + n = 16 → stK β f k = [] ∨ ∃ k', k ≤ k' ∧ k' < 16 ∧ β 47 k' = nI f ∧ stK β f k = [(f, k')] := by
  obtain ⟨h, h4, a1, a2, a3, a4, a5, a6, a7⟩ := hw.2.2.2.2
  intro n
  induction n with
  | zero =>
    intro k hk
    obtain rfl : k = 16 := by omega
    exact Or.inl rfl
  | succ n ih =>
    intro k hk
    rw [stK_lt (by omega)]
    by_cases q : β 47 k = nI f
    · rw [if_pos q]
      rcases ih (k + 1) (by omega) with z | ⟨k', z1, z2, z3, z4⟩
      · rw [z]
        exact Or.inr ⟨k, Nat.le_refl k, by omega, q, rfl⟩
      · have := a6 k k' (by omega) z2 (q.trans z3.symm) (by rw [q]; exact nI_ne6 (by omega))
        omega
    · rw [if_neg q, List.nil_append]
      rcases ih (k + 1) (by omega) with z | ⟨k', z1, z2, z3, z4⟩
      · exact Or.inl z
      · exact Or.inr ⟨k', by omega, z2, z3, z4⟩
theorem cset_loop (hw : WF β) (h : RB σ β) {i : Int32} : ∀ m f, f + m = nF β → ∀ n, ∀ l4, ev mX4_setting (d + 1) 4 [some (.ref 2), some (.int i), some (.int (nI n)), some (.int (nI f)), l4] [] (LY L) σ 0 0 (Rp (LY L) σ (stGo β i (stF β f) n)) := by
  have h16 := hw.1.2.2.1
  have e0 : σ 3 0 = nI (nF β) := h.1.1.trans hw.1.1
  have hH := h.2.2.2.2.2.2.2
  intro m
  induction m with
  | zero =>
    intro f hf n l4
    obtain rfl : f = nF β := by omega
    rw [stF_ge (Nat.le_refl _), stGo]
    refine ev_iload_n dX4_setting_4 rfl ?_
    refine ev_aload_n dX4_setting_5 rfl ?_
    refine ev_getR dX4_setting_6 fX4_10 ⟨_, rfl, rfl⟩ ?_
    refine ev_getI dX4_setting_9 fX4_48 ⟨_, rfl, rfl⟩ ?_
    rw [e0]
    refine ev_icmp_ge 72 dX4_setting_12 (by decide) (fun c12 => ?_) (fun c12 => absurd (nI_le (by omega) (by omega)) c12)
    refine ev_iload_n dX4_setting_72 rfl ?_
    refine ev_iconst (-1) dX4_setting_73 (by decide) ?_
    refine ev_icmp_ne 81 dX4_setting_74 (by decide) (fun c74 => ?_) (fun c74 => ?_)
    · refine ev_bipush (-6) dX4_setting_81 (by decide) ?_
      refine ev_ireturn dX4_setting_83 rfl rfl rfl ?_
      first | exact Rp.mk (by rw [if_neg c74]) | exact Rp.mk (by rw [if_pos (show i = -1 from c74)])
    · refine ev_iload_n dX4_setting_77 rfl ?_
      refine ev_goto 83 dX4_setting_78 (by decide) ?_
      refine ev_ireturn dX4_setting_83 rfl rfl rfl ?_
      first | exact Rp.mk (by rw [if_neg c74]) | exact Rp.mk (by rw [if_pos (show i = -1 from c74)])
  | succ m ih =>
    intro f hf n l4
    rw [stF_lt (by omega)]
    rcases stK_one hw (f := f) (by omega) 16 0 rfl with z | ⟨k, -, z2, z3, z4⟩
    · have e : hdK (stK β f 0) = -6 := by rw [z]; rfl
      rw [z, List.nil_append]
      refine ev_iload_n dX4_setting_4 rfl ?_
      refine ev_aload_n dX4_setting_5 rfl ?_
      refine ev_getR dX4_setting_6 fX4_10 ⟨_, rfl, rfl⟩ ?_
      refine ev_getI dX4_setting_9 fX4_48 ⟨_, rfl, rfl⟩ ?_
      rw [e0]
      refine ev_icmp_ge 72 dX4_setting_12 (by decide) (fun c12 => absurd c12 (nI_ge (by omega) (by omega))) (fun c12 => ?_)
      refine ev_aload_n dX4_setting_15 rfl ?_
      refine ev_getR dX4_setting_16 fX4_33 ⟨_, rfl, rfl⟩ ?_
      refine ev_iload_n dX4_setting_19 rfl ?_
      refine cVp1 dX4_setting_20 VX4_172 ⟨_, rfl⟩ rfl rfl ((t_slotOn hH.2.2.2 f)) ?_
      rw [e]
      refine ev_istore dX4_setting_23 (by decide) ?_
      refine ev_iload dX4_setting_25 rfl ?_
      refine ev_bipush (-6) dX4_setting_27 (by decide) ?_
      refine ev_icmp_eq 66 dX4_setting_29 (by decide) (fun c29 => ?_) (fun c29 => absurd rfl c29)
      refine ev_iinc _ dX4_setting_66 rfl rfl (by decide) ?_
      rw [show nI f + Int32.ofInt 1 = nI (f + 1) from nI_1 f]
      refine ev_goto 4 dX4_setting_69 (by decide) ?_
      exact ih (f + 1) (by omega) n _
    · have e : hdK (stK β f 0) = nI k := by rw [z4]; rfl
      have dk : nI k / 4 = nI (k / 4) := pk_div (d := 4) (by omega) (by decide) (by decide)
      have rk : nI k - nI k / 4 * 4 = nI (k % 4) := pk_rem (d := 4) (by omega) (by decide) (by decide)
      rw [z4]
      have step : stGo β i ([(f, k)] ++ stF β (f + 1)) n = if nI n = i then svI β f k else stGo β i (stF β (f + 1)) (n + 1) := rfl
      rw [step]
      by_cases hi : nI n = i
      · rw [if_pos hi]
        refine ev_iload_n dX4_setting_4 rfl ?_
        refine ev_aload_n dX4_setting_5 rfl ?_
        refine ev_getR dX4_setting_6 fX4_10 ⟨_, rfl, rfl⟩ ?_
        refine ev_getI dX4_setting_9 fX4_48 ⟨_, rfl, rfl⟩ ?_
        rw [e0]
        refine ev_icmp_ge 72 dX4_setting_12 (by decide) (fun c12 => absurd c12 (nI_ge (by omega) (by omega))) (fun c12 => ?_)
        refine ev_aload_n dX4_setting_15 rfl ?_
        refine ev_getR dX4_setting_16 fX4_33 ⟨_, rfl, rfl⟩ ?_
        refine ev_iload_n dX4_setting_19 rfl ?_
        refine cVp1 dX4_setting_20 VX4_172 ⟨_, rfl⟩ rfl rfl ((t_slotOn hH.2.2.2 f)) ?_
        rw [e]
        refine ev_istore dX4_setting_23 (by decide) ?_
        refine ev_iload dX4_setting_25 rfl ?_
        refine ev_bipush (-6) dX4_setting_27 (by decide) ?_
        refine ev_icmp_eq 66 dX4_setting_29 (by decide) (fun c29 => absurd c29 (nI_ne6 (by omega))) (fun c29 => ?_)
        refine ev_iload_n dX4_setting_32 rfl ?_
        refine ev_iload_n dX4_setting_33 rfl ?_
        refine ev_icmp_ne 63 dX4_setting_34 (by decide) (fun c34 => absurd hi c34) (fun c34 => ?_)
        refine ev_bipush 100 dX4_setting_37 (by decide) ?_
        refine ev_iload_n dX4_setting_39 rfl ?_
        refine ev_imul dX4_setting_40 ?_
        refine ev_bipush 10 dX4_setting_41 (by decide) ?_
        refine ev_aload_n dX4_setting_43 rfl ?_
        refine ev_getR dX4_setting_44 fX4_33 ⟨_, rfl, rfl⟩ ?_
        refine ev_getR dX4_setting_47 fX4_175 ⟨_, rfl, rfl⟩ ?_
        refine ev_iload dX4_setting_50 rfl ?_
        refine ev_iconst 4 dX4_setting_52 (by decide) ?_
        refine ev_idiv dX4_setting_53 (by decide) ?_
        rw [dk]
        refine ev_iaload dX4_setting_54 rfl (vp_in_nI (by omega) (by decide)) ?_
        rw [clN (by omega), hH.2.2.1 _ (by omega)]
        refine ev_imul dX4_setting_55 ?_
        refine ev_iadd dX4_setting_56 ?_
        refine ev_iload dX4_setting_57 rfl ?_
        refine ev_iconst 4 dX4_setting_59 (by decide) ?_
        refine ev_irem dX4_setting_60 (by decide) ?_
        rw [rk]
        refine ev_iadd dX4_setting_61 ?_
        refine ev_ireturn dX4_setting_62 rfl rfl rfl ?_
        exact Rp.mk rfl
      · rw [if_neg hi]
        refine ev_iload_n dX4_setting_4 rfl ?_
        refine ev_aload_n dX4_setting_5 rfl ?_
        refine ev_getR dX4_setting_6 fX4_10 ⟨_, rfl, rfl⟩ ?_
        refine ev_getI dX4_setting_9 fX4_48 ⟨_, rfl, rfl⟩ ?_
        rw [e0]
        refine ev_icmp_ge 72 dX4_setting_12 (by decide) (fun c12 => absurd c12 (nI_ge (by omega) (by omega))) (fun c12 => ?_)
        refine ev_aload_n dX4_setting_15 rfl ?_
        refine ev_getR dX4_setting_16 fX4_33 ⟨_, rfl, rfl⟩ ?_
        refine ev_iload_n dX4_setting_19 rfl ?_
        refine cVp1 dX4_setting_20 VX4_172 ⟨_, rfl⟩ rfl rfl ((t_slotOn hH.2.2.2 f)) ?_
        rw [e]
        refine ev_istore dX4_setting_23 (by decide) ?_
        refine ev_iload dX4_setting_25 rfl ?_
        refine ev_bipush (-6) dX4_setting_27 (by decide) ?_
        refine ev_icmp_eq 66 dX4_setting_29 (by decide) (fun c29 => absurd c29 (nI_ne6 (by omega))) (fun c29 => ?_)
        refine ev_iload_n dX4_setting_32 rfl ?_
        refine ev_iload_n dX4_setting_33 rfl ?_
        refine ev_icmp_ne 63 dX4_setting_34 (by decide) (fun c34 => ?_) (fun c34 => absurd c34 hi)
        refine ev_iinc _ dX4_setting_63 rfl rfl (by decide) ?_
        rw [show nI n + Int32.ofInt 1 = nI (n + 1) from nI_1 n]
        refine ev_iinc _ dX4_setting_66 rfl rfl (by decide) ?_
        rw [show nI f + Int32.ofInt 1 = nI (f + 1) from nI_1 f]
        refine ev_goto 4 dX4_setting_69 (by decide) ?_
        exact ih (f + 1) (by omega) (n + 1) _
theorem tc_setting (hw : WF β) (h : RB σ β) (hc : rcC Bst σ β) (i : Int32) : ev mX4_setting (d + 1) 0 [some (.ref 2), some (.int i), none, none, none] [] (LY L) σ 0 0 (Ri (LY L) (PC Bst (sp_setting β i) σ)) := by
  refine ev_iconst 0 dX4_setting_0 (by decide) ?_
  refine ev_istore_n dX4_setting_1 (by decide) ?_
  refine ev_iconst 0 dX4_setting_2 (by decide) ?_
  refine ev_istore_n dX4_setting_3 (by decide) ?_
  refine (cset_loop (d := d) (L := L) hw h (nF β) 0 (by omega) 0 _).mono ?_
  rintro r y' σ' ⟨rfl, x, rfl, rfl, rfl⟩
  exact Ri.mk (PC.of rfl h hc FrC.rf)
end CST
