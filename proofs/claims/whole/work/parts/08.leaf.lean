/-! the cells behind both constructors: 0 script, 1 SETS, 2 FootBook, 3 Chip (4 volts, 5 kinds, 6 uses, 7 able), 8 Board (9 kinds, 10 roles, 11 volts, 12 places, 13 fixed), 14 Search (15 found, 18 making, 21 kept, 24 roles, 25 open, 26 steps, 27 rolesFrom, 28 wishesFrom), 29 hand, 32 cheapest, 35 FootBookModel and its rows -/
abbrev gvF (u f : Nat) : ai_Q := .inr (2, [none, none, some (some u), some (some f)])
def LY (L : Nat) : ai_L := [.inl L, .inl 15,
  .inr (4, [some (some 3), some (some 8), some (some 14), some (some 29), some (some 32), none, none]),
  .inr (1, [none, none, none, some (some 4), some (some 5), some (some 6), some (some 7)]), .inl 16, .inl 6, .inl 90, .inl 24,
  .inr (0, [none, some (some 9), some (some 10), some (some 11), some (some 12), some (some 13)]), .inl 4, .inl 4, .inl 4, .inl 4, .inl 16,
  .inr (3, [some (some 15), some (some 18), some (some 21), none, none, none, some (some 24), some (some 25), some (some 26), some (some 27), some (some 28), none, none, none, none, none, none, none]),
  gvF 16 17, .inl 4, .inl 16, gvF 19 20, .inl 4, .inl 16, gvF 22 23, .inl 4, .inl 16, .inl 4, .inl 96, .inl 64, .inl 120, .inl 5,
  gvF 30 31, .inl 4, .inl 16, gvF 33 34, .inl 4, .inl 16,
  .inr (5, [none, some (some 36), none, some (some 37), none, some (some 38), some (some 39), some (some 40), none, some (some 41), some (some 42), some (some 43), some (some 44), some (some 45), none, some (some 46), some (some 47), none, some (some 48), some (some 49), some (some 50), none, none, none, none, some (some 51), some (some 52)]),
  .inl 16, .inl 6, .inl 30, .inl 30, .inl 30, .inl 4, .inl 4, .inl 4, .inl 4, .inl 16, .inl 4, .inl 16, .inl 20, .inl 20, .inl 20, .inl 4, .inl 16]
def bI (p : Prop) [Decidable p] : Int32 := if p then 1 else 0
theorem bI_t {p : Prop} [Decidable p] (h : p) : (1 : Int32) = bI p := (if_pos h).symm
theorem bI_f {p : Prop} [Decidable p] (h : ¬ p) : (0 : Int32) = bI p := (if_neg h).symm
theorem bI_0 {p : Prop} [Decidable p] : bI p = 0 ↔ ¬ p := by unfold bI; split <;> simp_all
theorem bI_n {p : Prop} [Decidable p] : ¬ bI p = 0 ↔ p := by unfold bI; split <;> simp_all
theorem bI_z (p : Prop) [Decidable p] : narrow .boolean (.int (bI p)) = .int (bI p) := by unfold bI; split <;> rfl
theorem c4 : (4 : Int32).toInt = 4 := rfl
theorem c0 : (0 : Int32).toInt = 0 := rfl
/-- 0 to n, as Int32 -/
abbrev inR (x : Int32) (n : Int) : Prop := 0 ≤ x.toInt ∧ x.toInt < n
theorem lt0 {x : Int32} : x < 0 ↔ x.toInt < 0 := by rw [Int32.lt_iff_toInt_lt, c0]
section LEAF
variable {y : ai_L} {σ : ai_M} {d L : Nat}
theorem t_isRole (x : Int32) : ev mX4_isRole d 0 [some (.int x)] [] y σ 0 0 (Rp y σ (bI (inR x 4))) := by
  refine ev_iload_n dX4_isRole_0 rfl ?_
  refine ev_if_lt 13 dX4_isRole_1 (by decide) (fun c1 => ?_) (fun c1 => ?_)
  · refine ev_iconst 0 dX4_isRole_13 (by decide) ?_
    refine ev_ireturn dX4_isRole_14 rfl rfl rfl ?_
    simp only [Int32.lt_iff_toInt_lt, Int32.le_iff_toInt_le, c0, c4] at *
    first | exact Rp.mk (bI_t (by omega)) | exact Rp.mk (bI_f (by omega))
  · refine ev_iload_n dX4_isRole_4 rfl ?_
    refine ev_iconst 4 dX4_isRole_5 (by decide) ?_
    refine ev_icmp_ge 13 dX4_isRole_6 (by decide) (fun c6 => ?_) (fun c6 => ?_)
    · refine ev_iconst 0 dX4_isRole_13 (by decide) ?_
      refine ev_ireturn dX4_isRole_14 rfl rfl rfl ?_
      simp only [Int32.lt_iff_toInt_lt, Int32.le_iff_toInt_le, c0, c4] at *
      first | exact Rp.mk (bI_t (by omega)) | exact Rp.mk (bI_f (by omega))
    · refine ev_iconst 1 dX4_isRole_9 (by decide) ?_
      refine ev_goto 14 dX4_isRole_10 (by decide) ?_
      refine ev_ireturn dX4_isRole_14 rfl rfl rfl ?_
      simp only [Int32.lt_iff_toInt_lt, Int32.le_iff_toInt_le, c0, c4] at *
      first | exact Rp.mk (bI_t (by omega)) | exact Rp.mk (bI_f (by omega))
theorem t_isKind (x : Int32) : ev mX4_isKind d 0 [some (.int x)] [] y σ 0 0 (Rp y σ (bI (inR x 4))) := by
  refine ev_iload_n dX4_isKind_0 rfl ?_
  refine ev_if_lt 13 dX4_isKind_1 (by decide) (fun c1 => ?_) (fun c1 => ?_)
  · refine ev_iconst 0 dX4_isKind_13 (by decide) ?_
    refine ev_ireturn dX4_isKind_14 rfl rfl rfl ?_
    simp only [Int32.lt_iff_toInt_lt, Int32.le_iff_toInt_le, c0, c4] at *
    first | exact Rp.mk (bI_t (by omega)) | exact Rp.mk (bI_f (by omega))
  · refine ev_iload_n dX4_isKind_4 rfl ?_
    refine ev_iconst 4 dX4_isKind_5 (by decide) ?_
    refine ev_icmp_ge 13 dX4_isKind_6 (by decide) (fun c6 => ?_) (fun c6 => ?_)
    · refine ev_iconst 0 dX4_isKind_13 (by decide) ?_
      refine ev_ireturn dX4_isKind_14 rfl rfl rfl ?_
      simp only [Int32.lt_iff_toInt_lt, Int32.le_iff_toInt_le, c0, c4] at *
      first | exact Rp.mk (bI_t (by omega)) | exact Rp.mk (bI_f (by omega))
    · refine ev_iconst 1 dX4_isKind_9 (by decide) ?_
      refine ev_goto 14 dX4_isKind_10 (by decide) ?_
      refine ev_ireturn dX4_isKind_14 rfl rfl rfl ?_
      simp only [Int32.lt_iff_toInt_lt, Int32.le_iff_toInt_le, c0, c4] at *
      first | exact Rp.mk (bI_t (by omega)) | exact Rp.mk (bI_f (by omega))
theorem t_hasFoot (x : Int32) : ev mX1_hasFoot d 0 [some (.ref 3), some (.int x)] [] (LY L) σ 0 0 (Rp (LY L) σ (bI (inR x (σ 3 0).toInt))) := by
  refine ev_iload_n dX1_hasFoot_0 rfl ?_
  refine ev_if_lt 16 dX1_hasFoot_1 (by decide) (fun c1 => ?_) (fun c1 => ?_)
  · refine ev_iconst 0 dX1_hasFoot_16 (by decide) ?_
    refine ev_ireturn dX1_hasFoot_17 rfl rfl rfl ?_
    simp only [Int32.lt_iff_toInt_lt, Int32.le_iff_toInt_le, c0, c4] at *
    first | exact Rp.mk (bI_t (by omega)) | exact Rp.mk (bI_f (by omega))
  · refine ev_iload_n dX1_hasFoot_4 rfl ?_
    refine ev_aload_n dX1_hasFoot_5 rfl ?_
    refine ev_getI dX1_hasFoot_6 fX1_28 ⟨_, rfl, rfl⟩ ?_
    refine ev_icmp_ge 16 dX1_hasFoot_9 (by decide) (fun c9 => ?_) (fun c9 => ?_)
    · refine ev_iconst 0 dX1_hasFoot_16 (by decide) ?_
      refine ev_ireturn dX1_hasFoot_17 rfl rfl rfl ?_
      simp only [Int32.lt_iff_toInt_lt, Int32.le_iff_toInt_le, c0, c4] at *
      first | exact Rp.mk (bI_t (by omega)) | exact Rp.mk (bI_f (by omega))
    · refine ev_iconst 1 dX1_hasFoot_12 (by decide) ?_
      refine ev_goto 17 dX1_hasFoot_13 (by decide) ?_
      refine ev_ireturn dX1_hasFoot_17 rfl rfl rfl ?_
      simp only [Int32.lt_iff_toInt_lt, Int32.le_iff_toInt_le, c0, c4] at *
      first | exact Rp.mk (bI_t (by omega)) | exact Rp.mk (bI_f (by omega))
theorem t_hasUnit (x : Int32) : ev mX1_hasUnit d 0 [some (.ref 3), some (.int x)] [] (LY L) σ 0 0 (Rp (LY L) σ (bI (inR x (σ 3 1).toInt))) := by
  refine ev_iload_n dX1_hasUnit_0 rfl ?_
  refine ev_if_lt 16 dX1_hasUnit_1 (by decide) (fun c1 => ?_) (fun c1 => ?_)
  · refine ev_iconst 0 dX1_hasUnit_16 (by decide) ?_
    refine ev_ireturn dX1_hasUnit_17 rfl rfl rfl ?_
    simp only [Int32.lt_iff_toInt_lt, Int32.le_iff_toInt_le, c0, c4] at *
    first | exact Rp.mk (bI_t (by omega)) | exact Rp.mk (bI_f (by omega))
  · refine ev_iload_n dX1_hasUnit_4 rfl ?_
    refine ev_aload_n dX1_hasUnit_5 rfl ?_
    refine ev_getI dX1_hasUnit_6 fX1_32 ⟨_, rfl, rfl⟩ ?_
    refine ev_icmp_ge 16 dX1_hasUnit_9 (by decide) (fun c9 => ?_) (fun c9 => ?_)
    · refine ev_iconst 0 dX1_hasUnit_16 (by decide) ?_
      refine ev_ireturn dX1_hasUnit_17 rfl rfl rfl ?_
      simp only [Int32.lt_iff_toInt_lt, Int32.le_iff_toInt_le, c0, c4] at *
      first | exact Rp.mk (bI_t (by omega)) | exact Rp.mk (bI_f (by omega))
    · refine ev_iconst 1 dX1_hasUnit_12 (by decide) ?_
      refine ev_goto 17 dX1_hasUnit_13 (by decide) ?_
      refine ev_ireturn dX1_hasUnit_17 rfl rfl rfl ?_
      simp only [Int32.lt_iff_toInt_lt, Int32.le_iff_toInt_le, c0, c4] at *
      first | exact Rp.mk (bI_t (by omega)) | exact Rp.mk (bI_f (by omega))
theorem t_hasWish (x : Int32) : ev mX0_hasWish d 0 [some (.ref 8), some (.int x)] [] (LY L) σ 0 0 (Rp (LY L) σ (bI (inR x (σ 8 0).toInt))) := by
  refine ev_iload_n dX0_hasWish_0 rfl ?_
  refine ev_if_lt 16 dX0_hasWish_1 (by decide) (fun c1 => ?_) (fun c1 => ?_)
  · refine ev_iconst 0 dX0_hasWish_16 (by decide) ?_
    refine ev_ireturn dX0_hasWish_17 rfl rfl rfl ?_
    simp only [Int32.lt_iff_toInt_lt, Int32.le_iff_toInt_le, c0, c4] at *
    first | exact Rp.mk (bI_t (by omega)) | exact Rp.mk (bI_f (by omega))
  · refine ev_iload_n dX0_hasWish_4 rfl ?_
    refine ev_aload_n dX0_hasWish_5 rfl ?_
    refine ev_getI dX0_hasWish_6 fX0_27 ⟨_, rfl, rfl⟩ ?_
    refine ev_icmp_ge 16 dX0_hasWish_9 (by decide) (fun c9 => ?_) (fun c9 => ?_)
    · refine ev_iconst 0 dX0_hasWish_16 (by decide) ?_
      refine ev_ireturn dX0_hasWish_17 rfl rfl rfl ?_
      simp only [Int32.lt_iff_toInt_lt, Int32.le_iff_toInt_le, c0, c4] at *
      first | exact Rp.mk (bI_t (by omega)) | exact Rp.mk (bI_f (by omega))
    · refine ev_iconst 1 dX0_hasWish_12 (by decide) ?_
      refine ev_goto 17 dX0_hasWish_13 (by decide) ?_
      refine ev_ireturn dX0_hasWish_17 rfl rfl rfl ?_
      simp only [Int32.lt_iff_toInt_lt, Int32.le_iff_toInt_le, c0, c4] at *
      first | exact Rp.mk (bI_t (by omega)) | exact Rp.mk (bI_f (by omega))
theorem t_in (x a b : Int32) : ev mX5_in d 0 [some (.int x), some (.int a), some (.int b)] [] y σ 0 0 (Rp y σ (bI (a ≤ x ∧ x ≤ b))) := by
  refine ev_iload_n dX5_in_0 rfl ?_
  refine ev_iload_n dX5_in_1 rfl ?_
  refine ev_icmp_lt 14 dX5_in_2 (by decide) (fun c2 => ?_) (fun c2 => ?_)
  · refine ev_iconst 0 dX5_in_14 (by decide) ?_
    refine ev_ireturn dX5_in_15 rfl rfl rfl ?_
    simp only [Int32.lt_iff_toInt_lt, Int32.le_iff_toInt_le, c0, c4] at *
    first | exact Rp.mk (bI_t (by omega)) | exact Rp.mk (bI_f (by omega))
  · refine ev_iload_n dX5_in_5 rfl ?_
    refine ev_iload_n dX5_in_6 rfl ?_
    refine ev_icmp_gt 14 dX5_in_7 (by decide) (fun c7 => ?_) (fun c7 => ?_)
    · refine ev_iconst 0 dX5_in_14 (by decide) ?_
      refine ev_ireturn dX5_in_15 rfl rfl rfl ?_
      simp only [Int32.lt_iff_toInt_lt, Int32.le_iff_toInt_le, c0, c4] at *
      first | exact Rp.mk (bI_t (by omega)) | exact Rp.mk (bI_f (by omega))
    · refine ev_iconst 1 dX5_in_10 (by decide) ?_
      refine ev_goto 15 dX5_in_11 (by decide) ?_
      refine ev_ireturn dX5_in_15 rfl rfl rfl ?_
      simp only [Int32.lt_iff_toInt_lt, Int32.le_iff_toInt_le, c0, c4] at *
      first | exact Rp.mk (bI_t (by omega)) | exact Rp.mk (bI_f (by omega))
theorem t_isFoot (x : Int32) : ev mX5_isFoot (d + 1) 0 [some (.ref 35), some (.int x)] [] (LY L) σ 0 0 (Rp (LY L) σ (bI (0 ≤ x ∧ x ≤ σ 35 0 - 1))) := by
  refine ev_iload_n dX5_isFoot_0 rfl ?_
  refine ev_iconst 0 dX5_isFoot_1 (by decide) ?_
  refine ev_aload_n dX5_isFoot_2 rfl ?_
  refine ev_getI dX5_isFoot_3 fX5_7 ⟨_, rfl, rfl⟩ ?_
  refine ev_iconst 1 dX5_isFoot_6 (by decide) ?_
  refine ev_isub dX5_isFoot_7 ?_
  refine cSp3 dX5_isFoot_8 SX5_84 rfl rfl rfl rfl (t_in _ _ _) ?_
  refine ev_ireturn dX5_isFoot_11 rfl rfl (bI_z _) ?_
  exact Rp.mk rfl
theorem t_isWish (x : Int32) : ev mX5_isWish (d + 1) 0 [some (.ref 35), some (.int x)] [] (LY L) σ 0 0 (Rp (LY L) σ (bI (0 ≤ x ∧ x ≤ σ 35 8 - 1))) := by
  refine ev_iload_n dX5_isWish_0 rfl ?_
  refine ev_iconst 0 dX5_isWish_1 (by decide) ?_
  refine ev_aload_n dX5_isWish_2 rfl ?_
  refine ev_getI dX5_isWish_3 fX5_74 ⟨_, rfl, rfl⟩ ?_
  refine ev_iconst 1 dX5_isWish_6 (by decide) ?_
  refine ev_isub dX5_isWish_7 ?_
  refine cSp3 dX5_isWish_8 SX5_84 rfl rfl rfl rfl (t_in _ _ _) ?_
  refine ev_ireturn dX5_isWish_11 rfl rfl (bI_z _) ?_
  exact Rp.mk rfl
theorem t_wants {w x : Int32} (hw : vp_in w 4) : ev mX0_wants (d + 1) 0 [some (.ref 8), some (.int w), some (.int x)] [] (LY L) σ 0 0 (Rp (LY L) σ (bI (inR x 4 ∧ ¬ (σ 10 w.toNatClampNeg >>> (x &&& 31)) &&& 1 = 0))) := by
  refine ev_iload_n dX0_wants_0 rfl ?_
  refine cNp1 dX0_wants_1 NX0_31 rfl rfl (t_isRole _) ?_
  refine ev_if_eq 24 dX0_wants_4 (by decide) (fun c4 => ?_) (fun c4 => ?_)
  · refine ev_iconst 0 dX0_wants_24 (by decide) ?_
    refine ev_ireturn dX0_wants_25 rfl rfl rfl ?_
    rw [bI_0] at c4
    first | exact Rp.mk (bI_t ⟨Decidable.not_not.mp c4, c17⟩) | exact Rp.mk (bI_f (fun h => h.2 c17)) | exact Rp.mk (bI_f (fun h => c4 h.1))
  · refine ev_aload_n dX0_wants_7 rfl ?_
    refine ev_getR dX0_wants_8 fX0_15 ⟨_, rfl, rfl⟩ ?_
    refine ev_iload_n dX0_wants_11 rfl ?_
    refine ev_iaload dX0_wants_12 rfl hw ?_
    refine ev_iload_n dX0_wants_13 rfl ?_
    refine ev_ishr dX0_wants_14 ?_
    refine ev_iconst 1 dX0_wants_15 (by decide) ?_
    refine ev_iand dX0_wants_16 ?_
    refine ev_if_eq 24 dX0_wants_17 (by decide) (fun c17 => ?_) (fun c17 => ?_)
    · refine ev_iconst 0 dX0_wants_24 (by decide) ?_
      refine ev_ireturn dX0_wants_25 rfl rfl rfl ?_
      rw [bI_0] at c4
      first | exact Rp.mk (bI_t ⟨Decidable.not_not.mp c4, c17⟩) | exact Rp.mk (bI_f (fun h => h.2 c17)) | exact Rp.mk (bI_f (fun h => c4 h.1))
    · refine ev_iconst 1 dX0_wants_20 (by decide) ?_
      refine ev_goto 25 dX0_wants_21 (by decide) ?_
      refine ev_ireturn dX0_wants_25 rfl rfl rfl ?_
      rw [bI_0] at c4
      first | exact Rp.mk (bI_t ⟨Decidable.not_not.mp c4, c17⟩) | exact Rp.mk (bI_f (fun h => h.2 c17)) | exact Rp.mk (bI_f (fun h => c4 h.1))
end LEAF
