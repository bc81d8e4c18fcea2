theorem fillS {f g : Nat → Int32} {a i : Nat} {x : Int32} (h : ∀ j, f j = if a ≤ j ∧ j < a + i then x else g j) : ∀ j, upd f (a + i) x j = if a ≤ j ∧ j < a + (i + 1) then x else g j := by
  intro j
  unfold upd
  by_cases hj : j = a + i
  · rw [if_pos hj, if_pos (by omega)]
  · rw [if_neg hj, h j]
    by_cases q : a ≤ j ∧ j < a + i
    · rw [if_pos q, if_pos (by omega)]
    · rw [if_neg q, if_neg (by omega)]
section CB3
variable {σ β : ai_M} {d L : Nat} {Bst : BS}
/-- what wish() and trial() answer when they refuse; 0 else -/
def rfB (β : ai_M) (k R v p : Int32) : Int32 := if ¬ inR p (β 35 0).toInt then -1 else if ¬ (inR k 4 ∧ inn R 1 15 ∧ inn v 0 4) then -2 else if nW β = 4 then -4 else 0
theorem t_refusal (hw : WF β) (hN : rcN σ β) (k R v p : Int32) : ev mX4_refusalOfWish (d + 1) 0 [some (.ref 2), some (.int k), some (.int R), some (.int v), some (.int p)] [] (LY L) σ 0 0 (Rp (LY L) σ (rfB β k R v p)) := by
  have e0 : (σ 3 0).toInt = (β 35 0).toInt := by rw [hN.1]
  have ew : σ 8 0 = nI (nW β) := hN.2.2.2.trans hw.1.2.2.2.2.2.2.2.1
  have hw4 := hw.1.2.2.2.2.2.2.2.2
  have hout : inR p (β 35 0).toInt → ¬ (inR k 4 ∧ inn R 1 15 ∧ inn v 0 4) → Rp (LY L) σ (rfB β k R v p) (some (.int (-2))) (LY L) σ := fun q1 q2 => Rp.mk (by rw [rfB, if_neg (fun q => q q1), if_pos q2])
  refine ev_aload_n dX4_refusalOfWish_0 rfl ?_
  refine ev_getR dX4_refusalOfWish_1 fX4_10 ⟨_, rfl, rfl⟩ ?_
  refine ev_iload dX4_refusalOfWish_4 rfl ?_
  refine cVp1 dX4_refusalOfWish_6 VX4_61 ⟨_, rfl⟩ rfl rfl (t_hasFoot _) ?_
  refine ev_if_ne 14 dX4_refusalOfWish_9 (by decide) (fun c9 => ?_) (fun c9 => ?_)
  · rw [bI_n, e0] at c9
    refine ev_iload_n dX4_refusalOfWish_14 rfl ?_
    refine cSp1 dX4_refusalOfWish_15 SX4_69 rfl rfl (t_isKind _) ?_
    refine ev_if_eq 41 dX4_refusalOfWish_18 (by decide) (fun c18 => ?_) (fun c18 => ?_)
    · refine ev_bipush (-2) dX4_refusalOfWish_41 (by decide) ?_
      refine ev_ireturn dX4_refusalOfWish_43 rfl rfl rfl ?_
      first | exact hout c9 (fun q => by rw [bI_0] at c18; exact c18 q.1) | exact hout c9 (fun q => by have := q.2; clear q c9 c18 hout; simp only [inn, Int32.lt_iff_toInt_lt, Int32.le_iff_toInt_le, c0, c1n, c2n, c3n, c4, c10n, c13n, c14n, c15n, c16n, cm1n] at *; omega)
    · rw [bI_n] at c18
      refine ev_iload_n dX4_refusalOfWish_21 rfl ?_
      refine ev_iconst 1 dX4_refusalOfWish_22 (by decide) ?_
      refine ev_icmp_lt 41 dX4_refusalOfWish_23 (by decide) (fun c23 => ?_) (fun c23 => ?_)
      · refine ev_bipush (-2) dX4_refusalOfWish_41 (by decide) ?_
        refine ev_ireturn dX4_refusalOfWish_43 rfl rfl rfl ?_
        first | exact hout c9 (fun q => by rw [bI_0] at c18; exact c18 q.1) | exact hout c9 (fun q => by have := q.2; clear q c9 c18 hout; simp only [inn, Int32.lt_iff_toInt_lt, Int32.le_iff_toInt_le, c0, c1n, c2n, c3n, c4, c10n, c13n, c14n, c15n, c16n, cm1n] at *; omega)
      · refine ev_iload_n dX4_refusalOfWish_26 rfl ?_
        refine ev_bipush 15 dX4_refusalOfWish_27 (by decide) ?_
        refine ev_icmp_gt 41 dX4_refusalOfWish_29 (by decide) (fun c29 => ?_) (fun c29 => ?_)
        · refine ev_bipush (-2) dX4_refusalOfWish_41 (by decide) ?_
          refine ev_ireturn dX4_refusalOfWish_43 rfl rfl rfl ?_
          first | exact hout c9 (fun q => by rw [bI_0] at c18; exact c18 q.1) | exact hout c9 (fun q => by have := q.2; clear q c9 c18 hout; simp only [inn, Int32.lt_iff_toInt_lt, Int32.le_iff_toInt_le, c0, c1n, c2n, c3n, c4, c10n, c13n, c14n, c15n, c16n, cm1n] at *; omega)
        · refine ev_iload_n dX4_refusalOfWish_32 rfl ?_
          refine ev_if_lt 41 dX4_refusalOfWish_33 (by decide) (fun c33 => ?_) (fun c33 => ?_)
          · refine ev_bipush (-2) dX4_refusalOfWish_41 (by decide) ?_
            refine ev_ireturn dX4_refusalOfWish_43 rfl rfl rfl ?_
            first | exact hout c9 (fun q => by rw [bI_0] at c18; exact c18 q.1) | exact hout c9 (fun q => by have := q.2; clear q c9 c18 hout; simp only [inn, Int32.lt_iff_toInt_lt, Int32.le_iff_toInt_le, c0, c1n, c2n, c3n, c4, c10n, c13n, c14n, c15n, c16n, cm1n] at *; omega)
          · refine ev_iload_n dX4_refusalOfWish_36 rfl ?_
            refine ev_iconst 4 dX4_refusalOfWish_37 (by decide) ?_
            refine ev_icmp_le 44 dX4_refusalOfWish_38 (by decide) (fun c38 => ?_) (fun c38 => ?_)
            · have q2 : inR k 4 ∧ inn R 1 15 ∧ inn v 0 4 := ⟨c18, by clear c18 c9; simp only [inn, Int32.lt_iff_toInt_lt, Int32.le_iff_toInt_le, c0, c1n, c2n, c3n, c4, c10n, c13n, c14n, c15n, c16n, cm1n] at *; omega⟩
              refine ev_aload_n dX4_refusalOfWish_44 rfl ?_
              refine ev_getR dX4_refusalOfWish_45 fX4_19 ⟨_, rfl, rfl⟩ ?_
              refine ev_getI dX4_refusalOfWish_48 fX4_55 ⟨_, rfl, rfl⟩ ?_
              refine ev_iconst 4 dX4_refusalOfWish_51 (by decide) ?_
              refine ev_icmp_lt 60 dX4_refusalOfWish_52 (by decide) (fun c52 => ?_) (fun c52 => ?_)
              · have hlt := lt6 (by omega) ew (b := 4) (by omega) c52
                refine ev_iconst 0 dX4_refusalOfWish_60 (by decide) ?_
                refine ev_ireturn dX4_refusalOfWish_61 rfl rfl rfl ?_
                first | exact Rp.mk (by rw [rfB, if_neg (fun q => q c9), if_neg (fun q => q q2), if_neg (by omega)]) | exact Rp.mk (by rw [rfB, if_neg (fun q => q c9), if_neg (fun q => q q2), if_pos (by omega)])
              · have hge := ge6 (by omega) ew (b := 4) (by omega) c52
                refine ev_bipush (-4) dX4_refusalOfWish_55 (by decide) ?_
                refine ev_goto 61 dX4_refusalOfWish_57 (by decide) ?_
                refine ev_ireturn dX4_refusalOfWish_61 rfl rfl rfl ?_
                first | exact Rp.mk (by rw [rfB, if_neg (fun q => q c9), if_neg (fun q => q q2), if_neg (by omega)]) | exact Rp.mk (by rw [rfB, if_neg (fun q => q c9), if_neg (fun q => q q2), if_pos (by omega)])
            · refine ev_bipush (-2) dX4_refusalOfWish_41 (by decide) ?_
              refine ev_ireturn dX4_refusalOfWish_43 rfl rfl rfl ?_
              first | exact hout c9 (fun q => by rw [bI_0] at c18; exact c18 q.1) | exact hout c9 (fun q => by have := q.2; clear q c9 c18 hout; simp only [inn, Int32.lt_iff_toInt_lt, Int32.le_iff_toInt_le, c0, c1n, c2n, c3n, c4, c10n, c13n, c14n, c15n, c16n, cm1n] at *; omega)
  · refine ev_iconst (-1) dX4_refusalOfWish_12 (by decide) ?_
    refine ev_ireturn dX4_refusalOfWish_13 rfl rfl rfl ?_
    rw [bI_0, e0] at c9
    exact Rp.mk (by rw [rfB, if_pos c9])
/-- what add() does to the cells -/
def addP (σ : ai_M) (w : Nat) (k R v p : Int32) (σ' : ai_M) : Prop := σ' 8 0 = nI (w + 1) ∧ σ' 9 = upd (σ 9) w k ∧ σ' 10 = upd (σ 10) w R ∧ σ' 11 = upd (σ 11) w v ∧ σ' 12 = upd (σ 12) w p ∧ (∀ j, σ' 13 j = if 4 * w ≤ j ∧ j < 4 * w + 4 then -6 else σ 13 j) ∧ ∀ c, (c < 8 ∨ 13 < c) → σ' c = σ c
theorem add_loop {w : Nat} (hw : w < 4) {k R v p : Int32} {σ0 : ai_M} {Q : Option Value → ai_L → ai_M → Prop} (K : ∀ σ1 : ai_M, (∀ j, σ1 13 j = if 4 * w ≤ j ∧ j < 4 * w + 4 then -6 else σ0 13 j) → (∀ c, c ≠ 13 → σ1 c = σ0 c) → ev mX0_add d 68 [some (.ref 8), some (.int k), some (.int R), some (.int v), some (.int p), some (.int (nI w)), some (.int (nI 4))] [] (LY L) σ1 0 0 Q) :
    ∀ n i, i + n = 4 → ∀ σ1 : ai_M, (∀ j, σ1 13 j = if 4 * w ≤ j ∧ j < 4 * w + i then -6 else σ0 13 j) → (∀ c, c ≠ 13 → σ1 c = σ0 c) → ev mX0_add d 42 [some (.ref 8), some (.int k), some (.int R), some (.int v), some (.int p), some (.int (nI w)), some (.int (nI i))] [] (LY L) σ1 0 0 Q := by
  intro n
  induction n with
  | zero =>
    intro i hi σ1 h1 h2
    obtain rfl : i = 4 := by omega
    refine ev_iload dX0_add_42 rfl ?_
    refine ev_iconst 4 dX0_add_44 (by decide) ?_
    refine ev_icmp_ge 68 dX0_add_45 (by decide) (fun c45 => ?_) (fun c45 => absurd (nI_le (a := 4) (b := 4) (by omega) (by decide)) c45)
    exact K σ1 h1 h2
  | succ n ih =>
    intro i hi σ1 h1 h2
    have e4 : nI w * 4 + nI i = nI (4 * w + i) := by rw [show (4 : Int32) = nI 4 from rfl, pk_mul, nI_add, Nat.mul_comm]
    have ec : (nI (4 * w + i)).toNatClampNeg = 4 * w + i := clN (by omega)
    refine ev_iload dX0_add_42 rfl ?_
    refine ev_iconst 4 dX0_add_44 (by decide) ?_
    refine ev_icmp_ge 68 dX0_add_45 (by decide) (fun c45 => absurd c45 (nI_ge (b := 4) (by omega) (by decide))) (fun c45 => ?_)
    refine ev_aload_n dX0_add_48 rfl ?_
    refine ev_getR dX0_add_49 fX0_24 ⟨_, rfl, rfl⟩ ?_
    refine ev_iload dX0_add_52 rfl ?_
    refine ev_iconst 4 dX0_add_54 (by decide) ?_
    refine ev_imul dX0_add_55 ?_
    refine ev_iload dX0_add_56 rfl ?_
    refine ev_iadd dX0_add_58 ?_
    rw [e4]
    refine ev_bipush (-6) dX0_add_59 (by decide) ?_
    refine ev_iastore dX0_add_61 (by decide) rfl (vp_in_nI (by omega) (by decide)) ?_
    rw [ec]
    refine ev_iinc _ dX0_add_62 rfl rfl (by decide) ?_
    rw [show nI i + Int32.ofInt 1 = nI (i + 1) from nI_1 i]
    refine ev_goto 42 dX0_add_65 (by decide) ?_
    refine ih (i + 1) (by omega) _ (fillS h1) (fun c hc => by rw [ai_up, if_neg hc]; exact h2 c hc)
theorem t_add {w : Nat} (hw : w < 4) (ew : σ 8 0 = nI w) (k R v p : Int32) : ev mX0_add d 0 [some (.ref 8), some (.int k), some (.int R), some (.int v), some (.int p), none, none] [] (LY L) σ 0 0 (Ri (LY L) (fun x σ' => x = nI w ∧ addP σ w k R v p σ')) := by
  have ec : (nI w).toNatClampNeg = w := clN (by omega)
  refine ev_aload_n dX0_add_0 rfl ?_
  refine ev_getI dX0_add_1 fX0_27 ⟨_, rfl, rfl⟩ ?_
  rw [ew]
  refine ev_istore dX0_add_4 (by decide) ?_
  refine ev_aload_n dX0_add_6 rfl ?_
  refine ev_getR dX0_add_7 fX0_9 ⟨_, rfl, rfl⟩ ?_
  refine ev_iload dX0_add_10 rfl ?_
  refine ev_iload_n dX0_add_12 rfl ?_
  refine ev_iastore dX0_add_13 (by decide) rfl (vp_in_nI hw (by decide)) ?_
  refine ev_aload_n dX0_add_14 rfl ?_
  refine ev_getR dX0_add_15 fX0_15 ⟨_, rfl, rfl⟩ ?_
  refine ev_iload dX0_add_18 rfl ?_
  refine ev_iload_n dX0_add_20 rfl ?_
  refine ev_iastore dX0_add_21 (by decide) rfl (vp_in_nI hw (by decide)) ?_
  refine ev_aload_n dX0_add_22 rfl ?_
  refine ev_getR dX0_add_23 fX0_18 ⟨_, rfl, rfl⟩ ?_
  refine ev_iload dX0_add_26 rfl ?_
  refine ev_iload_n dX0_add_28 rfl ?_
  refine ev_iastore dX0_add_29 (by decide) rfl (vp_in_nI hw (by decide)) ?_
  refine ev_aload_n dX0_add_30 rfl ?_
  refine ev_getR dX0_add_31 fX0_21 ⟨_, rfl, rfl⟩ ?_
  refine ev_iload dX0_add_34 rfl ?_
  refine ev_iload dX0_add_36 rfl ?_
  refine ev_iastore dX0_add_38 (by decide) rfl (vp_in_nI hw (by decide)) ?_
  refine ev_iconst 0 dX0_add_39 (by decide) ?_
  refine ev_istore dX0_add_40 (by decide) ?_
  rw [ec]
  refine add_loop hw (fun σ1 h1 h2 => ?_) 4 0 rfl _ (fun j => by rw [if_neg (by omega)]) (fun _ _ => rfl)
  refine ev_aload_n dX0_add_68 rfl ?_
  refine ev_dup dX0_add_69 rfl ?_
  refine ev_getI dX0_add_70 fX0_27 ⟨_, rfl, rfl⟩ ?_
  refine ev_iconst 1 dX0_add_73 (by decide) ?_
  refine ev_iadd dX0_add_74 ?_
  have e8 : σ1 8 0 = nI w := by rw [h2 8 (by decide)]; exact ew
  rw [e8, nI_1]
  refine ev_putI dX0_add_75 fX0_27 ⟨_, rfl, rfl⟩ rfl rfl ?_
  refine ev_iload dX0_add_78 rfl ?_
  refine ev_ireturn dX0_add_80 rfl rfl rfl ?_
  refine Ri.mk ⟨rfl, rfl, ?_, ?_, ?_, ?_, fun j => ?_, fun c hc => ?_⟩
  · show σ1 9 = _; rw [h2 9 (by decide)]; rfl
  · show σ1 10 = _; rw [h2 10 (by decide)]; rfl
  · show σ1 11 = _; rw [h2 11 (by decide)]; rfl
  · show σ1 12 = _; rw [h2 12 (by decide)]; rfl
  · show σ1 13 j = _; rw [h1 j]; rfl
  · rw [ai_up, if_neg (by omega), h2 c (by omega), ai_up, if_neg (by omega), ai_up, if_neg (by omega), ai_up, if_neg (by omega), ai_up, if_neg (by omega)]
theorem wish_cases (β : ai_M) (k R v p : Int32) : (rfB β k R v p = 0 ∧ inR p (β 35 0).toInt ∧ (inR k 4 ∧ inn R 1 15 ∧ inn v 0 4) ∧ nW β ≠ 4) ∨ (rfB β k R v p ≠ 0 ∧ sp_wish β k R v p = (rfB β k R v p, β)) := by
  by_cases q1 : inR p (β 35 0).toInt
  · by_cases q2 : inR k 4 ∧ inn R 1 15 ∧ inn v 0 4
    · by_cases q3 : nW β = 4
      · exact Or.inr ⟨by rw [rfB, if_neg (fun q => q q1), if_neg (fun q => q q2), if_pos q3]; decide, by rw [rfB, if_neg (fun q => q q1), if_neg (fun q => q q2), if_pos q3, sp_wish, if_neg (fun q => q q1), if_neg (fun q => q q2), if_pos q3]⟩
      · exact Or.inl ⟨by rw [rfB, if_neg (fun q => q q1), if_neg (fun q => q q2), if_neg q3], q1, q2, q3⟩
    · exact Or.inr ⟨by rw [rfB, if_neg (fun q => q q1), if_pos q2]; decide, by rw [rfB, if_neg (fun q => q q1), if_pos q2, sp_wish, if_neg (fun q => q q1), if_pos q2]⟩
  · exact Or.inr ⟨by rw [rfB, if_pos q1]; decide, by rw [rfB, if_pos q1, sp_wish, if_pos q1]⟩
theorem wish_RB {k R v p : Int32} {σ' : ai_M} (h : RB σ β) (hlt : nW β < 4) (z1 : inR p (β 35 0).toInt) (z2 : inR k 4 ∧ inn R 1 15 ∧ inn v 0 4) (a0 : σ' 8 0 = nI (nW β + 1)) (a1 : σ' 9 = upd (σ 9) (nW β) k) (a2 : σ' 10 = upd (σ 10) (nW β) R) (a3 : σ' 11 = upd (σ 11) (nW β) v) (a4 : σ' 12 = upd (σ 12) (nW β) p) (a5 : ∀ j, σ' 13 j = if 4 * nW β ≤ j ∧ j < 4 * nW β + 4 then -6 else σ 13 j) (a6 : ∀ c, (c < 8 ∨ 13 < c) → σ' c = ai_up σ 2 6 0 c) : RB σ' (sp_wish β k R v p).2 := by
  obtain ⟨hN, hV, hK, hU, hA, hW, hX, hH⟩ := h
  have e3 : σ' 3 = σ 3 := (a6 3 (by omega)).trans rfl
  have e4 : σ' 4 = σ 4 := (a6 4 (by omega)).trans rfl
  have e5 : σ' 5 = σ 5 := (a6 5 (by omega)).trans rfl
  have e6 : σ' 6 = σ 6 := (a6 6 (by omega)).trans rfl
  have e7 : σ' 7 = σ 7 := (a6 7 (by omega)).trans rfl
  have e29 : σ' 29 = σ 29 := (a6 29 (by omega)).trans rfl
  have e30 : σ' 30 = σ 30 := (a6 30 (by omega)).trans rfl
  have e31 : σ' 31 = σ 31 := (a6 31 (by omega)).trans rfl
  rw [sp_wish, if_neg (fun q => q z1), if_neg (fun q => q z2), if_neg (by omega)]
  have en : nW (ai_up (ai_set (ai_up (ai_up (ai_up (ai_up β 41 (nW β) k) 42 (nW β) R) 43 (nW β) v) 44 (nW β) p) 45 (fun j => if 4 * nW β ≤ j ∧ j < 4 * nW β + 4 then -6 else β 45 j)) 35 8 (nI (nW β + 1))) = nW β + 1 := clN (by omega)
  refine ⟨⟨by rw [e3]; exact hN.1, by rw [e3]; exact hN.2.1, by rw [e3]; exact hN.2.2.1, a0⟩, fun i hi => by rw [e4]; exact hV i hi, fun i hi => by rw [e5]; exact hK i hi, fun i hi => by rw [e6]; exact hU i hi, fun a b ha hb => by rw [e7]; exact hA a b ha hb, ?_, ?_, ⟨by rw [e29]; exact hH.1, by rw [e29]; exact hH.2.1, fun i hi => by rw [e30]; exact hH.2.2.1 i hi, fun i hi => by rw [e31]; exact hH.2.2.2 i hi⟩⟩
  · intro i hi
    rw [en] at hi
    rw [a1, a2, a3, a4]
    exact ⟨upd_eqS (fun i hi => (hW i hi).1) _ i hi, upd_eqS (fun i hi => (hW i hi).2.1) _ i hi, upd_eqS (fun i hi => (hW i hi).2.2.1) _ i hi, upd_eqS (fun i hi => (hW i hi).2.2.2) _ i hi⟩
  · intro j hj
    rw [en] at hj
    rw [a5 j]
    show _ = if 4 * nW β ≤ j ∧ j < 4 * nW β + 4 then -6 else β 45 j
    by_cases q : 4 * nW β ≤ j ∧ j < 4 * nW β + 4
    · rw [if_pos q, if_pos q]
    · rw [if_neg q, if_neg q]; exact hX j (by omega)
theorem tc_wish (hw : WF β) (h : RB σ β) (hc : rcC Bst σ β) (k R v p : Int32) : ev mX4_wish (d + 2) 0 [some (.ref 2), some (.int k), some (.int R), some (.int v), some (.int p), none] [] (LY L) σ 0 0 (Ri (LY L) (PC Bst (sp_wish β k R v p) σ)) := by
  obtain ⟨hN, hV, hK, hU, hA, hW, hX, hH⟩ := id h
  have ew : σ 8 0 = nI (nW β) := hN.2.2.2.trans hw.1.2.2.2.2.2.2.2.1
  have hw4 := hw.1.2.2.2.2.2.2.2.2
  have hsp : (rfB β k R v p = 0 ∧ inR p (β 35 0).toInt ∧ (inR k 4 ∧ inn R 1 15 ∧ inn v 0 4) ∧ nW β ≠ 4) ∨ (rfB β k R v p ≠ 0 ∧ sp_wish β k R v p = (rfB β k R v p, β)) := by
    exact wish_cases β k R v p
  refine ev_aload_n dX4_wish_0 rfl ?_
  refine ev_iload_n dX4_wish_1 rfl ?_
  refine ev_iload_n dX4_wish_2 rfl ?_
  refine ev_iload_n dX4_wish_3 rfl ?_
  refine ev_iload dX4_wish_4 rfl ?_
  refine cVp4 dX4_wish_6 VX4_102 ⟨_, rfl⟩ rfl rfl rfl rfl rfl (t_refusal hw hN _ _ _ _) ?_
  refine ev_istore dX4_wish_9 (by decide) ?_
  refine ev_iload dX4_wish_11 rfl ?_
  refine ev_if_eq 19 dX4_wish_13 (by decide) (fun c13 => ?_) (fun c13 => ?_)
  · have hz := hsp.resolve_right (fun q => q.1 c13)
    have hlt : nW β < 4 := by have := hz.2.2.2; omega
    refine ev_aload_n dX4_wish_19 rfl ?_
    refine ev_iconst 0 dX4_wish_20 (by decide) ?_
    refine ev_putI dX4_wish_21 fX4_44 ⟨_, rfl, rfl⟩ rfl rfl ?_
    refine ev_aload_n dX4_wish_24 rfl ?_
    refine ev_getR dX4_wish_25 fX4_19 ⟨_, rfl, rfl⟩ ?_
    refine ev_iload_n dX4_wish_28 rfl ?_
    refine ev_iload_n dX4_wish_29 rfl ?_
    refine ev_iload_n dX4_wish_30 rfl ?_
    refine ev_iload dX4_wish_31 rfl ?_
    refine cVi4 dX4_wish_33 VX4_106 ⟨_, rfl⟩ rfl rfl rfl rfl rfl (t_add (σ := ai_up σ 2 6 0) hlt ew k R v p) ?_
    rintro x σ' ⟨rfl, a0, a1, a2, a3, a4, a5, a6⟩
    refine ev_ireturn dX4_wish_36 rfl rfl rfl ?_
    refine Ri.mk (PC.of (β' := (sp_wish β k R v p).2) (by rw [sp_wish, if_neg (fun q => q hz.2.1), if_neg (fun q => q hz.2.2.1), if_neg hz.2.2.2]) ?_ ?_ ?_)
    · exact wish_RB h hlt hz.2.1 hz.2.2.1 a0 a1 a2 a3 a4 a5 a6
    · exact Or.inl (by rw [a6 2 (by omega)]; rfl)
    · intro c hc; rw [a6 c (by omega), ai_up, if_neg (by omega)]
  · refine ev_iload dX4_wish_16 rfl ?_
    refine ev_ireturn dX4_wish_18 rfl rfl rfl ?_
    have hz := hsp.resolve_left (fun q => c13 q.1)
    exact Ri.mk (PC.of hz.2 h hc FrC.rf)
end CB3
