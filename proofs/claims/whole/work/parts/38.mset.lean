def svI (β : ai_M) (f k : Nat) : Int32 := 100 * nI f + 10 * β 46 (k / 4) + nI (k % 4)
def stGo (β : ai_M) (i : Int32) : List (Nat × Nat) → Nat → Int32
  | [], n => if i = -1 then nI n else -6
  | q :: l, n => if nI n = i then svI β q.1 q.2 else stGo β i l (n + 1)
def stK (β : ai_M) (f k : Nat) : List (Nat × Nat) := ((List.range' k (16 - k)).filter (fun k => decide (β 47 k = nI f))).map (fun k => (f, k))
def stF (β : ai_M) (f : Nat) : List (Nat × Nat) := (List.range' f (nF β - f)).flatMap (fun f => stK β f 0)
def sp_setting (β : ai_M) (i : Int32) : Int32 × ai_M := (stGo β i (stF β 0) 0, β)
theorem stK_lt {β : ai_M} {f k : Nat} (h : k < 16) : stK β f k = (if β 47 k = nI f then [(f, k)] else []) ++ stK β f (k + 1) := by
  unfold stK
  rw [show 16 - k = (16 - (k + 1)) + 1 by omega, List.range'_succ, List.filter_cons]
  by_cases q : β 47 k = nI f
  · rw [if_pos q, if_pos (by simp [q])]; rfl
  · rw [if_neg q, if_neg (by simp [q])]; rfl
theorem stF_lt {β : ai_M} {f : Nat} (h : f < nF β) : stF β f = stK β f 0 ++ stF β (f + 1) := by
  unfold stF
  rw [show nF β - f = (nF β - (f + 1)) + 1 by omega, List.range'_succ, List.flatMap_cons]
theorem stF_ge {β : ai_M} {f : Nat} (h : nF β ≤ f) : stF β f = [] := by
  unfold stF
  rw [show nF β - f = 0 by omega]; rfl
section MSS
variable {β : ai_M} {d L : Nat} {σ : ai_M}
theorem set_in (hw : WF β) (h : RM σ β) {i : Int32} {f : Nat} (hf : f < nF β) (hlen : ∀ n, ∀ l4, ev mX5_setting d 70 [some (.ref 35), some (.int i), some (.int (nI n)), some (.int (nI f)), l4] [] (LY L) σ 0 0 (Rp (LY L) σ (stGo β i (stF β (f + 1)) n))) :
    ∀ m k, k + m = 16 → ∀ n, ev mX5_setting d 15 [some (.ref 35), some (.int i), some (.int (nI n)), some (.int (nI f)), some (.int (nI k))] [] (LY L) σ 0 0 (Rp (LY L) σ (stGo β i (stK β f k ++ stF β (f + 1)) n)) := by
  have h16 := hw.1.2.2.1
  obtain ⟨m0, m1, m2, m3, m4, mV, mK, mU, mW, mX, mHu, mHf⟩ := id h
  intro m
  induction m with
  | zero =>
    intro k hk n
    obtain rfl : k = 16 := by omega
    have e : stK β f 16 = [] := rfl
    rw [e, List.nil_append]
    refine ev_iload dX5_setting_15 rfl ?_
    refine ev_bipush 16 dX5_setting_17 (by decide) ?_
    refine ev_icmp_ge 70 dX5_setting_19 (by decide) (fun c19 => ?_) (fun c19 => absurd (nI_le (a := 16) (b := 16) (by omega) (by decide)) c19)
    exact hlen n _
  | succ m ih =>
    intro k hk n
    have ik : vp_in (nI k) 16 := vp_in_nI (by omega) (by decide)
    have ck : (nI k).toNatClampNeg = k := clN (by omega)
    have dk : nI k / 4 = nI (k / 4) := pk_div (d := 4) (by omega) (by decide) (by decide)
    have rk : nI k - nI k / 4 * 4 = nI (k % 4) := pk_rem (d := 4) (by omega) (by decide) (by decide)
    rw [stK_lt (by omega)]
    refine ev_iload dX5_setting_15 rfl ?_
    refine ev_bipush 16 dX5_setting_17 (by decide) ?_
    refine ev_icmp_ge 70 dX5_setting_19 (by decide) (fun c19 => absurd c19 (nI_ge (b := 16) (by omega) (by decide))) (fun c19 => ?_)
    by_cases hq : β 47 k = nI f
    · rw [if_pos hq]
      have step : ∀ z, stGo β i ([(f, k)] ++ stK β f (k + 1) ++ stF β (f + 1)) z = if nI z = i then svI β f k else stGo β i (stK β f (k + 1) ++ stF β (f + 1)) (z + 1) := fun z => rfl
      rw [step]
      by_cases hi : nI n = i
      · rw [if_pos hi]
        refine ev_aload_n dX5_setting_22 rfl ?_
        refine ev_getR dX5_setting_23 fX5_47 ⟨_, rfl, rfl⟩ ?_
        refine ev_iload dX5_setting_26 rfl ?_
        refine ev_iaload dX5_setting_28 rfl ik ?_
        rw [ck, mHf k (by omega)]
        refine ev_iload_n dX5_setting_29 rfl ?_
        refine ev_icmp_ne 64 dX5_setting_30 (by decide) (fun c30 => absurd hq c30) (fun c30 => ?_)
        refine ev_iload_n dX5_setting_33 rfl ?_
        refine ev_iload_n dX5_setting_34 rfl ?_
        refine ev_icmp_ne 61 dX5_setting_35 (by decide) (fun c35 => absurd hi c35) (fun c35 => ?_)
        refine ev_bipush 100 dX5_setting_38 (by decide) ?_
        refine ev_iload_n dX5_setting_40 rfl ?_
        refine ev_imul dX5_setting_41 ?_
        refine ev_bipush 10 dX5_setting_42 (by decide) ?_
        refine ev_aload_n dX5_setting_44 rfl ?_
        refine ev_getR dX5_setting_45 fX5_44 ⟨_, rfl, rfl⟩ ?_
        refine ev_iload dX5_setting_48 rfl ?_
        refine ev_iconst 4 dX5_setting_50 (by decide) ?_
        refine ev_idiv dX5_setting_51 (by decide) ?_
        rw [dk]
        refine ev_iaload dX5_setting_52 rfl (vp_in_nI (by omega) (by decide)) ?_
        rw [clN (by omega), mHu _ (by omega)]
        refine ev_imul dX5_setting_53 ?_
        refine ev_iadd dX5_setting_54 ?_
        refine ev_iload dX5_setting_55 rfl ?_
        refine ev_iconst 4 dX5_setting_57 (by decide) ?_
        refine ev_irem dX5_setting_58 (by decide) ?_
        rw [rk]
        refine ev_iadd dX5_setting_59 ?_
        refine ev_ireturn dX5_setting_60 rfl rfl rfl ?_
        exact Rp.mk rfl
      · rw [if_neg hi]
        refine ev_aload_n dX5_setting_22 rfl ?_
        refine ev_getR dX5_setting_23 fX5_47 ⟨_, rfl, rfl⟩ ?_
        refine ev_iload dX5_setting_26 rfl ?_
        refine ev_iaload dX5_setting_28 rfl ik ?_
        rw [ck, mHf k (by omega)]
        refine ev_iload_n dX5_setting_29 rfl ?_
        refine ev_icmp_ne 64 dX5_setting_30 (by decide) (fun c30 => absurd hq c30) (fun c30 => ?_)
        refine ev_iload_n dX5_setting_33 rfl ?_
        refine ev_iload_n dX5_setting_34 rfl ?_
        refine ev_icmp_ne 61 dX5_setting_35 (by decide) (fun c35 => ?_) (fun c35 => absurd c35 hi)
        refine ev_iinc _ dX5_setting_61 rfl rfl (by decide) ?_
        rw [show nI n + Int32.ofInt 1 = nI (n + 1) from nI_1 n]
        refine ev_iinc _ dX5_setting_64 rfl rfl (by decide) ?_
        rw [show nI k + Int32.ofInt 1 = nI (k + 1) from nI_1 k]
        refine ev_goto 15 dX5_setting_67 (by decide) ?_
        exact ih (k + 1) (by omega) (n + 1)
    · rw [if_neg hq, List.nil_append]
      refine ev_aload_n dX5_setting_22 rfl ?_
      refine ev_getR dX5_setting_23 fX5_47 ⟨_, rfl, rfl⟩ ?_
      refine ev_iload dX5_setting_26 rfl ?_
      refine ev_iaload dX5_setting_28 rfl ik ?_
      rw [ck, mHf k (by omega)]
      refine ev_iload_n dX5_setting_29 rfl ?_
      refine ev_icmp_ne 64 dX5_setting_30 (by decide) (fun c30 => ?_) (fun c30 => absurd c30 hq)
      refine ev_iinc _ dX5_setting_64 rfl rfl (by decide) ?_
      rw [show nI k + Int32.ofInt 1 = nI (k + 1) from nI_1 k]
      refine ev_goto 15 dX5_setting_67 (by decide) ?_
      exact ih (k + 1) (by omega) n
theorem set_out (hw : WF β) (h : RM σ β) {i : Int32} : ∀ m f, f + m = nF β → ∀ n, ∀ l4, ev mX5_setting d 4 [some (.ref 35), some (.int i), some (.int (nI n)), some (.int (nI f)), l4] [] (LY L) σ 0 0 (Rp (LY L) σ (stGo β i (stF β f) n)) := by
  have h16 := hw.1.2.2.1
  have e0 : σ 35 0 = nI (nF β) := h.1.trans hw.1.1
  intro m
  induction m with
  | zero =>
    intro f hf n l4
    obtain rfl : f = nF β := by omega
    rw [stF_ge (Nat.le_refl _), stGo]
    refine ev_iload_n dX5_setting_4 rfl ?_
    refine ev_aload_n dX5_setting_5 rfl ?_
    refine ev_getI dX5_setting_6 fX5_7 ⟨_, rfl, rfl⟩ ?_
    rw [e0]
    refine ev_icmp_ge 76 dX5_setting_9 (by decide) (fun c9 => ?_) (fun c9 => absurd (nI_le (by omega) (by omega)) c9)
    refine ev_iload_n dX5_setting_76 rfl ?_
    refine ev_iconst (-1) dX5_setting_77 (by decide) ?_
    refine ev_icmp_ne 85 dX5_setting_78 (by decide) (fun c78 => ?_) (fun c78 => ?_)
    · refine ev_bipush (-6) dX5_setting_85 (by decide) ?_
      refine ev_ireturn dX5_setting_87 rfl rfl rfl ?_
      first | exact Rp.mk (by rw [if_pos (show i = -1 from c78)]) | exact Rp.mk (by rw [if_neg c78])
    · refine ev_iload_n dX5_setting_81 rfl ?_
      refine ev_goto 87 dX5_setting_82 (by decide) ?_
      refine ev_ireturn dX5_setting_87 rfl rfl rfl ?_
      first | exact Rp.mk (by rw [if_pos (show i = -1 from c78)]) | exact Rp.mk (by rw [if_neg c78])
  | succ m ih =>
    intro f hf n l4
    rw [stF_lt (by omega)]
    refine ev_iload_n dX5_setting_4 rfl ?_
    refine ev_aload_n dX5_setting_5 rfl ?_
    refine ev_getI dX5_setting_6 fX5_7 ⟨_, rfl, rfl⟩ ?_
    rw [e0]
    refine ev_icmp_ge 76 dX5_setting_9 (by decide) (fun c9 => absurd c9 (nI_ge (by omega) (by omega))) (fun c9 => ?_)
    refine ev_iconst 0 dX5_setting_12 (by decide) ?_
    refine ev_istore dX5_setting_13 (by decide) ?_
    refine set_in hw h (by omega) (fun n' l4' => ?_) 16 0 rfl n
    refine ev_iinc _ dX5_setting_70 rfl rfl (by decide) ?_
    rw [show nI f + Int32.ofInt 1 = nI (f + 1) from nI_1 f]
    refine ev_goto 4 dX5_setting_73 (by decide) ?_
    exact ih (f + 1) (by omega) n' l4'
theorem tm_setting (hw : WF β) (h : RM σ β) (i : Int32) : ev mX5_setting d 0 [some (.ref 35), some (.int i), none, none, none] [] (LY L) σ 0 0 (Ri (LY L) (PM (sp_setting β i) σ)) := by
  refine ev_iconst 0 dX5_setting_0 (by decide) ?_
  refine ev_istore_n dX5_setting_1 (by decide) ?_
  refine ev_iconst 0 dX5_setting_2 (by decide) ?_
  refine ev_istore_n dX5_setting_3 (by decide) ?_
  refine (set_out (d := d) (L := L) hw h (nF β) 0 (by omega) 0 _).mono ?_
  rintro r y' σ' ⟨rfl, x, rfl, rfl, rfl⟩
  exact Ri.mk (PM.of rfl h FrM.rf)
end MSS
