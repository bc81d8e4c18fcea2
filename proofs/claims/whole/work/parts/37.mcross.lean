abbrev btwI (x a b : Int32) : Prop := (a < b ∧ a < x ∧ x < b) ∨ (¬ a < b ∧ b < x ∧ x < a)
abbrev unlI (a b c d : Int32) : Prop := ¬ a = b ∧ ¬ a = c ∧ ¬ a = d ∧ ¬ b = c ∧ ¬ b = d ∧ ¬ c = d
def crsD (a b c d : Int32) : Bool := decide (unlI a b c d) && (decide (btwI c a b) != decide (btwI d a b))
def crs (β : ai_M) (F : Nat → Int32) (i j : Nat) : Bool := decide (0 ≤ F i) && decide (0 ≤ F j) && crsD (β 44 (i / 4)) (F i) (β 44 (j / 4)) (F j)
def sumN (f : Nat → Nat) : Nat → Nat
  | 0 => 0
  | n + 1 => sumN f n + f n
def crT (β : ai_M) (F : Nat → Int32) (n : Nat) : Nat := sumN (fun i => cnt (crs β F i) i) n
def sp_crossings (β : ai_M) : Int32 × ai_M := (match bestB β false with
  | none => -6
  | some y => nI (crT β (fOf (plA β) y) 16), β)
theorem bI_eq {p q : Prop} [Decidable p] [Decidable q] : bI p = bI q ↔ (p ↔ q) := by
  unfold bI
  by_cases hp : p <;> by_cases hq : q <;> simp [hp, hq]
section MCR
variable {β : ai_M} {d L : Nat} {σ : ai_M} {y0 : ai_L}
theorem t_isBetween (x a b : Int32) : ev mX5_isBetween d 0 [some (.int x), some (.int a), some (.int b)] [] y0 σ 0 0 (Rp y0 σ (bI (btwI x a b))) := by
  refine ev_iload_n dX5_isBetween_0 rfl ?_
  refine ev_iload_n dX5_isBetween_1 rfl ?_
  refine ev_icmp_ge 23 dX5_isBetween_2 (by decide) (fun c2 => ?_) (fun c2 => ?_)
  · refine ev_iload_n dX5_isBetween_23 rfl ?_
    refine ev_iload_n dX5_isBetween_24 rfl ?_
    refine ev_icmp_le 37 dX5_isBetween_25 (by decide) (fun c25 => ?_) (fun c25 => ?_)
    · refine ev_iconst 0 dX5_isBetween_37 (by decide) ?_
      refine ev_ireturn dX5_isBetween_38 rfl rfl rfl ?_
      simp only [btwI, Int32.lt_iff_toInt_lt, Int32.le_iff_toInt_le] at *
      first | exact Rp.mk (bI_t (by omega)) | exact Rp.mk (bI_f (by omega))
    · refine ev_iload_n dX5_isBetween_28 rfl ?_
      refine ev_iload_n dX5_isBetween_29 rfl ?_
      refine ev_icmp_ge 37 dX5_isBetween_30 (by decide) (fun c30 => ?_) (fun c30 => ?_)
      · refine ev_iconst 0 dX5_isBetween_37 (by decide) ?_
        refine ev_ireturn dX5_isBetween_38 rfl rfl rfl ?_
        simp only [btwI, Int32.lt_iff_toInt_lt, Int32.le_iff_toInt_le] at *
        first | exact Rp.mk (bI_t (by omega)) | exact Rp.mk (bI_f (by omega))
      · refine ev_iconst 1 dX5_isBetween_33 (by decide) ?_
        refine ev_goto 38 dX5_isBetween_34 (by decide) ?_
        refine ev_ireturn dX5_isBetween_38 rfl rfl rfl ?_
        simp only [btwI, Int32.lt_iff_toInt_lt, Int32.le_iff_toInt_le] at *
        first | exact Rp.mk (bI_t (by omega)) | exact Rp.mk (bI_f (by omega))
  · refine ev_iload_n dX5_isBetween_5 rfl ?_
    refine ev_iload_n dX5_isBetween_6 rfl ?_
    refine ev_icmp_le 19 dX5_isBetween_7 (by decide) (fun c7 => ?_) (fun c7 => ?_)
    · refine ev_iconst 0 dX5_isBetween_19 (by decide) ?_
      refine ev_goto 38 dX5_isBetween_20 (by decide) ?_
      refine ev_ireturn dX5_isBetween_38 rfl rfl rfl ?_
      simp only [btwI, Int32.lt_iff_toInt_lt, Int32.le_iff_toInt_le] at *
      first | exact Rp.mk (bI_t (by omega)) | exact Rp.mk (bI_f (by omega))
    · refine ev_iload_n dX5_isBetween_10 rfl ?_
      refine ev_iload_n dX5_isBetween_11 rfl ?_
      refine ev_icmp_ge 19 dX5_isBetween_12 (by decide) (fun c12 => ?_) (fun c12 => ?_)
      · refine ev_iconst 0 dX5_isBetween_19 (by decide) ?_
        refine ev_goto 38 dX5_isBetween_20 (by decide) ?_
        refine ev_ireturn dX5_isBetween_38 rfl rfl rfl ?_
        simp only [btwI, Int32.lt_iff_toInt_lt, Int32.le_iff_toInt_le] at *
        first | exact Rp.mk (bI_t (by omega)) | exact Rp.mk (bI_f (by omega))
      · refine ev_iconst 1 dX5_isBetween_15 (by decide) ?_
        refine ev_goto 38 dX5_isBetween_16 (by decide) ?_
        refine ev_ireturn dX5_isBetween_38 rfl rfl rfl ?_
        simp only [btwI, Int32.lt_iff_toInt_lt, Int32.le_iff_toInt_le] at *
        first | exact Rp.mk (bI_t (by omega)) | exact Rp.mk (bI_f (by omega))
theorem cross_body {F : Nat → Int32} (h : RM σ β) (hF : ∀ k, k < 16 → σ 52 k = F k) {Q : Option Value → ai_L → ai_M → Prop} {i j n : Nat} (hi : i < 16) (hj : j < i) {l4 l5 l6 l7 l8 : Option Value}
    (K : ∀ (q4 q5 q6 q7 q8 : Option Value), ev mX5_crossings (d + 1) 165 [some (.ref 35), some (.int (nI (n + if crs β F i j then 1 else 0))), some (.int (nI i)), some (.int (nI j)), q4, q5, q6, q7, q8] [] (LY L) σ 0 0 Q) :
    ev mX5_crossings (d + 1) 28 [some (.ref 35), some (.int (nI n)), some (.int (nI i)), some (.int (nI j)), l4, l5, l6, l7, l8] [] (LY L) σ 0 0 Q := by
  have hP := h.2.2.2.2.2.2.2.2.1
  have ii : vp_in (nI i) 16 := vp_in_nI (by omega) (by decide)
  have ij : vp_in (nI j) 16 := vp_in_nI (by omega) (by decide)
  have ci : (nI i).toNatClampNeg = i := clN (by omega)
  have cj : (nI j).toNatClampNeg = j := clN (by omega)
  have di : nI i / 4 = nI (i / 4) := pk_div (d := 4) (by omega) (by decide) (by decide)
  have dj : nI j / 4 = nI (j / 4) := pk_div (d := 4) (by omega) (by decide) (by decide)
  have fin : 0 ≤ F i → 0 ≤ F j → ∀ x : Int32, x = bI (unlI (β 44 (i / 4)) (F i) (β 44 (j / 4)) (F j)) → ev mX5_crossings (d + 1) 129 [some (.ref 35), some (.int (nI n)), some (.int (nI i)), some (.int (nI j)), some (.int (β 44 (i / 4))), some (.int (F i)), some (.int (β 44 (j / 4))), some (.int (F j)), l8] [.int x] (LY L) σ 0 0 Q := by
    intro h1 h2 x hx
    subst hx
    have y1 : unlI (β 44 (i / 4)) (F i) (β 44 (j / 4)) (F j) → ¬ (btwI (β 44 (j / 4)) (β 44 (i / 4)) (F i) ↔ btwI (F j) (β 44 (i / 4)) (F i)) → crs β F i j = true := fun q1 q2 => by
      have e : (decide (btwI (β 44 (j / 4)) (β 44 (i / 4)) (F i)) != decide (btwI (F j) (β 44 (i / 4)) (F i))) = true := by rw [bne_iff_ne]; exact fun e => q2 (decide_eq_decide.mp e)
      unfold crs crsD
      rw [decide_eq_true h1, decide_eq_true h2, decide_eq_true q1, e]; rfl
    have n1 : ¬ unlI (β 44 (i / 4)) (F i) (β 44 (j / 4)) (F j) → ¬ crs β F i j = true := fun q1 => by simp [crs, crsD, q1]
    have n2 : (btwI (β 44 (j / 4)) (β 44 (i / 4)) (F i) ↔ btwI (F j) (β 44 (i / 4)) (F i)) → ¬ crs β F i j = true := fun q2 => by simp [crs, crsD, q2]
    refine ev_istore dX5_crossings_129 (by decide) ?_
    refine ev_iload_n dX5_crossings_131 rfl ?_
    refine ev_iload dX5_crossings_132 rfl ?_
    refine ev_if_eq 162 dX5_crossings_134 (by decide) (fun c134 => ?_) (fun c134 => ?_)
    · refine ev_iconst 0 dX5_crossings_162 (by decide) ?_
      refine ev_iadd dX5_crossings_163 ?_
      refine ev_istore_n dX5_crossings_164 (by decide) ?_
      have e0 : nI n + 0 = nI n := by rw [show (0 : Int32) = nI 0 from rfl, nI_add, Nat.add_zero]
      first | (rw [if_neg (n1 (bI_0.mp c134)), Nat.add_zero] at K; rw [e0]; exact K _ _ _ _ _) | (rw [if_neg (n2 (bI_eq.mp c155)), Nat.add_zero] at K; rw [e0]; exact K _ _ _ _ _) | (rw [if_pos (y1 (bI_n.mp c134) (fun q => c155 (bI_eq.mpr q)))] at K; rw [nI_1]; exact K _ _ _ _ _)
    · refine ev_iload dX5_crossings_137 rfl ?_
      refine ev_iload dX5_crossings_139 rfl ?_
      refine ev_iload dX5_crossings_141 rfl ?_
      refine cSp3 dX5_crossings_143 SX5_159 rfl rfl rfl rfl (t_isBetween _ _ _) ?_
      refine ev_iload dX5_crossings_146 rfl ?_
      refine ev_iload dX5_crossings_148 rfl ?_
      refine ev_iload dX5_crossings_150 rfl ?_
      refine cSp3 dX5_crossings_152 SX5_159 rfl rfl rfl rfl (t_isBetween _ _ _) ?_
      refine ev_icmp_eq 162 dX5_crossings_155 (by decide) (fun c155 => ?_) (fun c155 => ?_)
      · refine ev_iconst 0 dX5_crossings_162 (by decide) ?_
        refine ev_iadd dX5_crossings_163 ?_
        refine ev_istore_n dX5_crossings_164 (by decide) ?_
        have e0 : nI n + 0 = nI n := by rw [show (0 : Int32) = nI 0 from rfl, nI_add, Nat.add_zero]
        first | (rw [if_neg (n1 (bI_0.mp c134)), Nat.add_zero] at K; rw [e0]; exact K _ _ _ _ _) | (rw [if_neg (n2 (bI_eq.mp c155)), Nat.add_zero] at K; rw [e0]; exact K _ _ _ _ _) | (rw [if_pos (y1 (bI_n.mp c134) (fun q => c155 (bI_eq.mpr q)))] at K; rw [nI_1]; exact K _ _ _ _ _)
      · refine ev_iconst 1 dX5_crossings_158 (by decide) ?_
        refine ev_goto 163 dX5_crossings_159 (by decide) ?_
        refine ev_iadd dX5_crossings_163 ?_
        refine ev_istore_n dX5_crossings_164 (by decide) ?_
        have e0 : nI n + 0 = nI n := by rw [show (0 : Int32) = nI 0 from rfl, nI_add, Nat.add_zero]
        first | (rw [if_neg (n1 (bI_0.mp c134)), Nat.add_zero] at K; rw [e0]; exact K _ _ _ _ _) | (rw [if_neg (n2 (bI_eq.mp c155)), Nat.add_zero] at K; rw [e0]; exact K _ _ _ _ _) | (rw [if_pos (y1 (bI_n.mp c134) (fun q => c155 (bI_eq.mpr q)))] at K; rw [nI_1]; exact K _ _ _ _ _)
  have neg : ¬ (0 ≤ F i ∧ 0 ≤ F j) → ¬ crs β F i j = true := fun q1 => by
    simp only [crs, Bool.and_eq_true, decide_eq_true_eq]; exact fun q => q1 q.1
  refine ev_aload_n dX5_crossings_28 rfl ?_
  refine ev_getR dX5_crossings_29 fX5_62 ⟨_, rfl, rfl⟩ ?_
  refine ev_iload_n dX5_crossings_32 rfl ?_
  refine ev_iaload dX5_crossings_33 rfl ii ?_
  rw [ci, hF i hi]
  refine ev_if_lt 165 dX5_crossings_34 (by decide) (fun c34 => ?_) (fun c34 => ?_)
  · have := K l4 l5 l6 l7 l8
    first | (rw [if_neg (neg (fun q => absurd q.1 (Int32.not_le.mpr c34))), Nat.add_zero] at this; exact this) | (rw [if_neg (neg (fun q => absurd q.2 (Int32.not_le.mpr c43))), Nat.add_zero] at this; exact this)
  · refine ev_aload_n dX5_crossings_37 rfl ?_
    refine ev_getR dX5_crossings_38 fX5_62 ⟨_, rfl, rfl⟩ ?_
    refine ev_iload_n dX5_crossings_41 rfl ?_
    refine ev_iaload dX5_crossings_42 rfl ij ?_
    rw [cj, hF j (by omega)]
    refine ev_if_lt 165 dX5_crossings_43 (by decide) (fun c43 => ?_) (fun c43 => ?_)
    · have := K l4 l5 l6 l7 l8
      first | (rw [if_neg (neg (fun q => absurd q.1 (Int32.not_le.mpr c34))), Nat.add_zero] at this; exact this) | (rw [if_neg (neg (fun q => absurd q.2 (Int32.not_le.mpr c43))), Nat.add_zero] at this; exact this)
    · refine ev_aload_n dX5_crossings_46 rfl ?_
      refine ev_getR dX5_crossings_47 fX5_38 ⟨_, rfl, rfl⟩ ?_
      refine ev_iload_n dX5_crossings_50 rfl ?_
      refine ev_iconst 4 dX5_crossings_51 (by decide) ?_
      refine ev_idiv dX5_crossings_52 (by decide) ?_
      rw [di]
      refine ev_iaload dX5_crossings_53 rfl (vp_in_nI (by omega) (by decide)) ?_
      rw [clN (by omega), (hP _ (by omega)).2.2.2]
      refine ev_istore dX5_crossings_54 (by decide) ?_
      refine ev_aload_n dX5_crossings_56 rfl ?_
      refine ev_getR dX5_crossings_57 fX5_62 ⟨_, rfl, rfl⟩ ?_
      refine ev_iload_n dX5_crossings_60 rfl ?_
      refine ev_iaload dX5_crossings_61 rfl ii ?_
      rw [ci, hF i hi]
      refine ev_istore dX5_crossings_62 (by decide) ?_
      refine ev_aload_n dX5_crossings_64 rfl ?_
      refine ev_getR dX5_crossings_65 fX5_38 ⟨_, rfl, rfl⟩ ?_
      refine ev_iload_n dX5_crossings_68 rfl ?_
      refine ev_iconst 4 dX5_crossings_69 (by decide) ?_
      refine ev_idiv dX5_crossings_70 (by decide) ?_
      rw [dj]
      refine ev_iaload dX5_crossings_71 rfl (vp_in_nI (by omega) (by decide)) ?_
      rw [clN (by omega), (hP _ (by omega)).2.2.2]
      refine ev_istore dX5_crossings_72 (by decide) ?_
      refine ev_aload_n dX5_crossings_74 rfl ?_
      refine ev_getR dX5_crossings_75 fX5_62 ⟨_, rfl, rfl⟩ ?_
      refine ev_iload_n dX5_crossings_78 rfl ?_
      refine ev_iaload dX5_crossings_79 rfl ij ?_
      rw [cj, hF j (by omega)]
      refine ev_istore dX5_crossings_80 (by decide) ?_
      refine ev_iload dX5_crossings_82 rfl ?_
      refine ev_iload dX5_crossings_84 rfl ?_
      refine ev_icmp_eq 128 dX5_crossings_86 (by decide) (fun c86 => ?_) (fun c86 => ?_)
      · refine ev_iconst 0 dX5_crossings_128 (by decide) ?_
        have h1 := Int32.not_lt.mp c34
        have h2 := Int32.not_lt.mp c43
        first | exact fin h1 h2 _ (bI_f (fun q => q.1 c86)) | exact fin h1 h2 _ (bI_f (fun q => q.2.1 c93)) | exact fin h1 h2 _ (bI_f (fun q => q.2.2.1 c100)) | exact fin h1 h2 _ (bI_f (fun q => q.2.2.2.1 c107)) | exact fin h1 h2 _ (bI_f (fun q => q.2.2.2.2.1 c114)) | exact fin h1 h2 _ (bI_f (fun q => q.2.2.2.2.2 c121)) | exact fin h1 h2 _ (bI_t ⟨c86, c93, c100, c107, c114, c121⟩)
      · refine ev_iload dX5_crossings_89 rfl ?_
        refine ev_iload dX5_crossings_91 rfl ?_
        refine ev_icmp_eq 128 dX5_crossings_93 (by decide) (fun c93 => ?_) (fun c93 => ?_)
        · refine ev_iconst 0 dX5_crossings_128 (by decide) ?_
          have h1 := Int32.not_lt.mp c34
          have h2 := Int32.not_lt.mp c43
          first | exact fin h1 h2 _ (bI_f (fun q => q.1 c86)) | exact fin h1 h2 _ (bI_f (fun q => q.2.1 c93)) | exact fin h1 h2 _ (bI_f (fun q => q.2.2.1 c100)) | exact fin h1 h2 _ (bI_f (fun q => q.2.2.2.1 c107)) | exact fin h1 h2 _ (bI_f (fun q => q.2.2.2.2.1 c114)) | exact fin h1 h2 _ (bI_f (fun q => q.2.2.2.2.2 c121)) | exact fin h1 h2 _ (bI_t ⟨c86, c93, c100, c107, c114, c121⟩)
        · refine ev_iload dX5_crossings_96 rfl ?_
          refine ev_iload dX5_crossings_98 rfl ?_
          refine ev_icmp_eq 128 dX5_crossings_100 (by decide) (fun c100 => ?_) (fun c100 => ?_)
          · refine ev_iconst 0 dX5_crossings_128 (by decide) ?_
            have h1 := Int32.not_lt.mp c34
            have h2 := Int32.not_lt.mp c43
            first | exact fin h1 h2 _ (bI_f (fun q => q.1 c86)) | exact fin h1 h2 _ (bI_f (fun q => q.2.1 c93)) | exact fin h1 h2 _ (bI_f (fun q => q.2.2.1 c100)) | exact fin h1 h2 _ (bI_f (fun q => q.2.2.2.1 c107)) | exact fin h1 h2 _ (bI_f (fun q => q.2.2.2.2.1 c114)) | exact fin h1 h2 _ (bI_f (fun q => q.2.2.2.2.2 c121)) | exact fin h1 h2 _ (bI_t ⟨c86, c93, c100, c107, c114, c121⟩)
          · refine ev_iload dX5_crossings_103 rfl ?_
            refine ev_iload dX5_crossings_105 rfl ?_
            refine ev_icmp_eq 128 dX5_crossings_107 (by decide) (fun c107 => ?_) (fun c107 => ?_)
            · refine ev_iconst 0 dX5_crossings_128 (by decide) ?_
              have h1 := Int32.not_lt.mp c34
              have h2 := Int32.not_lt.mp c43
              first | exact fin h1 h2 _ (bI_f (fun q => q.1 c86)) | exact fin h1 h2 _ (bI_f (fun q => q.2.1 c93)) | exact fin h1 h2 _ (bI_f (fun q => q.2.2.1 c100)) | exact fin h1 h2 _ (bI_f (fun q => q.2.2.2.1 c107)) | exact fin h1 h2 _ (bI_f (fun q => q.2.2.2.2.1 c114)) | exact fin h1 h2 _ (bI_f (fun q => q.2.2.2.2.2 c121)) | exact fin h1 h2 _ (bI_t ⟨c86, c93, c100, c107, c114, c121⟩)
            · refine ev_iload dX5_crossings_110 rfl ?_
              refine ev_iload dX5_crossings_112 rfl ?_
              refine ev_icmp_eq 128 dX5_crossings_114 (by decide) (fun c114 => ?_) (fun c114 => ?_)
              · refine ev_iconst 0 dX5_crossings_128 (by decide) ?_
                have h1 := Int32.not_lt.mp c34
                have h2 := Int32.not_lt.mp c43
                first | exact fin h1 h2 _ (bI_f (fun q => q.1 c86)) | exact fin h1 h2 _ (bI_f (fun q => q.2.1 c93)) | exact fin h1 h2 _ (bI_f (fun q => q.2.2.1 c100)) | exact fin h1 h2 _ (bI_f (fun q => q.2.2.2.1 c107)) | exact fin h1 h2 _ (bI_f (fun q => q.2.2.2.2.1 c114)) | exact fin h1 h2 _ (bI_f (fun q => q.2.2.2.2.2 c121)) | exact fin h1 h2 _ (bI_t ⟨c86, c93, c100, c107, c114, c121⟩)
              · refine ev_iload dX5_crossings_117 rfl ?_
                refine ev_iload dX5_crossings_119 rfl ?_
                refine ev_icmp_eq 128 dX5_crossings_121 (by decide) (fun c121 => ?_) (fun c121 => ?_)
                · refine ev_iconst 0 dX5_crossings_128 (by decide) ?_
                  have h1 := Int32.not_lt.mp c34
                  have h2 := Int32.not_lt.mp c43
                  first | exact fin h1 h2 _ (bI_f (fun q => q.1 c86)) | exact fin h1 h2 _ (bI_f (fun q => q.2.1 c93)) | exact fin h1 h2 _ (bI_f (fun q => q.2.2.1 c100)) | exact fin h1 h2 _ (bI_f (fun q => q.2.2.2.1 c107)) | exact fin h1 h2 _ (bI_f (fun q => q.2.2.2.2.1 c114)) | exact fin h1 h2 _ (bI_f (fun q => q.2.2.2.2.2 c121)) | exact fin h1 h2 _ (bI_t ⟨c86, c93, c100, c107, c114, c121⟩)
                · refine ev_iconst 1 dX5_crossings_124 (by decide) ?_
                  refine ev_goto 129 dX5_crossings_125 (by decide) ?_
                  have h1 := Int32.not_lt.mp c34
                  have h2 := Int32.not_lt.mp c43
                  first | exact fin h1 h2 _ (bI_f (fun q => q.1 c86)) | exact fin h1 h2 _ (bI_f (fun q => q.2.1 c93)) | exact fin h1 h2 _ (bI_f (fun q => q.2.2.1 c100)) | exact fin h1 h2 _ (bI_f (fun q => q.2.2.2.1 c107)) | exact fin h1 h2 _ (bI_f (fun q => q.2.2.2.2.1 c114)) | exact fin h1 h2 _ (bI_f (fun q => q.2.2.2.2.2 c121)) | exact fin h1 h2 _ (bI_t ⟨c86, c93, c100, c107, c114, c121⟩)
theorem cross_in {F : Nat → Int32} (h : RM σ β) (hF : ∀ k, k < 16 → σ 52 k = F k) {Q : Option Value → ai_L → ai_M → Prop} {i m : Nat} (hi : i < 16) (K : ∀ (q4 q5 q6 q7 q8 : Option Value), ev mX5_crossings (d + 1) 171 [some (.ref 35), some (.int (nI (m + cnt (crs β F i) i))), some (.int (nI i)), some (.int (nI i)), q4, q5, q6, q7, q8] [] (LY L) σ 0 0 Q) :
    ∀ n j, j + n = i → ∀ (l4 l5 l6 l7 l8 : Option Value), ev mX5_crossings (d + 1) 23 [some (.ref 35), some (.int (nI (m + cnt (crs β F i) j))), some (.int (nI i)), some (.int (nI j)), l4, l5, l6, l7, l8] [] (LY L) σ 0 0 Q := by
  intro n
  induction n with
  | zero =>
    intro j hj l4 l5 l6 l7 l8
    obtain rfl : j = i := by omega
    refine ev_iload_n dX5_crossings_23 rfl ?_
    refine ev_iload_n dX5_crossings_24 rfl ?_
    refine ev_icmp_ge 171 dX5_crossings_25 (by decide) (fun c25 => ?_) (fun c25 => absurd (nI_le (by omega) (by omega)) c25)
    exact K _ _ _ _ _
  | succ n ih =>
    intro j hj l4 l5 l6 l7 l8
    refine ev_iload_n dX5_crossings_23 rfl ?_
    refine ev_iload_n dX5_crossings_24 rfl ?_
    refine ev_icmp_ge 171 dX5_crossings_25 (by decide) (fun c25 => absurd c25 (nI_ge (by omega) (by omega))) (fun c25 => ?_)
    refine cross_body h hF hi (by omega) (fun q4 q5 q6 q7 q8 => ?_)
    refine ev_iinc _ dX5_crossings_165 rfl rfl (by decide) ?_
    rw [show nI j + Int32.ofInt 1 = nI (j + 1) from nI_1 j]
    refine ev_goto 23 dX5_crossings_168 (by decide) ?_
    have := ih (j + 1) (by omega) q4 q5 q6 q7 q8
    unfold cnt at this
    rw [Nat.add_comm (if crs β F i j = true then 1 else 0), ← Nat.add_assoc] at this
    exact this
theorem cross_out {F : Nat → Int32} (h : RM σ β) (hF : ∀ k, k < 16 → σ 52 k = F k) {Q : Option Value → ai_L → ai_M → Prop} (K : Q (some (.int (nI (crT β F 16)))) (LY L) σ) :
    ∀ n i, i + n = 16 → ∀ (l3 l4 l5 l6 l7 l8 : Option Value), ev mX5_crossings (d + 1) 15 [some (.ref 35), some (.int (nI (crT β F i))), some (.int (nI i)), l3, l4, l5, l6, l7, l8] [] (LY L) σ 0 0 Q := by
  intro n
  induction n with
  | zero =>
    intro i hi l3 l4 l5 l6 l7 l8
    obtain rfl : i = 16 := by omega
    refine ev_iload_n dX5_crossings_15 rfl ?_
    refine ev_bipush 16 dX5_crossings_16 (by decide) ?_
    refine ev_icmp_ge 177 dX5_crossings_18 (by decide) (fun c18 => ?_) (fun c18 => absurd (nI_le (a := 16) (b := 16) (by omega) (by decide)) c18)
    refine ev_iload_n dX5_crossings_177 rfl ?_
    refine ev_ireturn dX5_crossings_178 rfl rfl rfl ?_
    exact K
  | succ n ih =>
    intro i hi l3 l4 l5 l6 l7 l8
    refine ev_iload_n dX5_crossings_15 rfl ?_
    refine ev_bipush 16 dX5_crossings_16 (by decide) ?_
    refine ev_icmp_ge 177 dX5_crossings_18 (by decide) (fun c18 => absurd c18 (nI_ge (b := 16) (by omega) (by decide))) (fun c18 => ?_)
    refine ev_iconst 0 dX5_crossings_21 (by decide) ?_
    refine ev_istore_n dX5_crossings_22 (by decide) ?_
    refine cross_in h hF (m := crT β F i) (by omega) (fun q4 q5 q6 q7 q8 => ?_) i 0 (by omega) _ _ _ _ _
    refine ev_iinc _ dX5_crossings_171 rfl rfl (by decide) ?_
    rw [show nI i + Int32.ofInt 1 = nI (i + 1) from nI_1 i]
    refine ev_goto 15 dX5_crossings_174 (by decide) ?_
    exact ih (i + 1) (by omega) _ _ _ _ _ _
theorem tm_crossings (hw : WF β) (h : RM σ β) : ev mX5_crossings (d + 5) 0 [some (.ref 35), none, none, none, none, none, none, none, none] [] (LY L) σ 0 0 (Ri (LY L) (PM (sp_crossings β) σ)) := by
  refine ev_aload_n dX5_crossings_0 rfl ?_
  refine ev_iconst 0 dX5_crossings_1 (by decide) ?_
  refine cVi1 dX5_crossings_2 VX5_155 ⟨_, rfl⟩ rfl rfl (t_find (d := d) hw h false) ?_
  rintro r σ1 ⟨s1, s2⟩
  cases hb : bestB β false with
  | none =>
    rw [hb] at s2
    subst s2
    refine ev_if_ne 11 dX5_crossings_5 (by decide) (fun c5 => absurd rfl c5) (fun c5 => ?_)
    refine ev_bipush (-6) dX5_crossings_8 (by decide) ?_
    refine ev_ireturn dX5_crossings_10 rfl rfl rfl ?_
    exact Ri.mk (PM.of (by rw [sp_crossings, hb]) (s1.RM h) s1.M)
  | some y =>
    rw [hb] at s2
    obtain ⟨rfl, s3, s4, s5, s6, s7⟩ := s2
    refine ev_if_ne 11 dX5_crossings_5 (by decide) (fun c5 => ?_) (fun c5 => absurd c5 (by decide))
    refine ev_iconst 0 dX5_crossings_11 (by decide) ?_
    refine ev_istore_n dX5_crossings_12 (by decide) ?_
    refine ev_iconst 0 dX5_crossings_13 (by decide) ?_
    refine ev_istore_n dX5_crossings_14 (by decide) ?_
    exact cross_out (F := fOf (plA β) y) (s1.RM h) s5.2 (Ri.mk (PM.of (by rw [sp_crossings, hb]) (s1.RM h) s1.M)) 16 0 rfl _ _ _ _ _ _
end MCR
