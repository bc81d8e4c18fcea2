theorem pls_congr {β : ai_M} {S T : Nat → Bool} (h : ∀ w, w < nW β → S w = T w) : pls β S = pls β T := by
  unfold pls
  have : ∀ l : List Nat, (∀ w ∈ l, w < nW β) → l.flatMap (fun w => if S w then plW β w else []) = l.flatMap (fun w => if T w then plW β w else []) := by
    intro l
    induction l with
    | nil => intro _; rfl
    | cons w l ih =>
      intro hl
      rw [List.flatMap_cons, List.flatMap_cons, h w (hl w List.mem_cons_self), ih (fun z hz => hl z (List.mem_cons_of_mem _ hz))]
  exact this _ (fun w hw => List.mem_range.mp hw)
theorem all_nI {n : Nat} (hn : n ≤ 4) : (1 : Int32) <<< (nI n &&& 31) - 1 = nI (2 ^ n - 1) := by
  rw [one_shl (by omega), show (1 : Int32) = nI 1 from rfl, pk_sub (Nat.one_le_two_pow)]
section MF2
variable {β : ai_M} {d L : Nat} {pl : PLt} {mv : Bool} {σ0 σ : ai_M}
theorem t_mall (hw : WF β) (h : RM σ β) : ev mX5_all d 0 [some (.ref 35)] [] (LY L) σ 0 0 (Rp (LY L) σ (nI (2 ^ nW β - 1))) := by
  have e8 : σ 35 8 = nI (nW β) := h.2.2.2.1.trans hw.1.2.2.2.2.2.2.2.1
  have h4 := hw.1.2.2.2.2.2.2.2.2
  refine ev_iconst 1 dX5_all_0 (by decide) ?_
  refine ev_aload_n dX5_all_1 rfl ?_
  refine ev_getI dX5_all_2 fX5_74 ⟨_, rfl, rfl⟩ ?_
  rw [e8]
  refine ev_ishl dX5_all_5 ?_
  refine ev_iconst 1 dX5_all_6 (by decide) ?_
  refine ev_isub dX5_all_7 ?_
  refine ev_ireturn dX5_all_8 rfl rfl rfl ?_
  exact Rp.mk (all_nI h4)
theorem bst_cons_none (wt : List Nat → Nat) (x : List Nat) (l : List (List Nat)) : bst wt none (x :: l) = bst wt (some x) l := rfl
theorem bst_cons_lt {wt : List Nat → Nat} {x y : List Nat} (h : wt x < wt y) (l : List (List Nat)) : bst wt (some y) (x :: l) = bst wt (some x) l := by
  show bst wt (stB wt (some y) x) l = _
  rw [stB, if_pos h]
/-- the end of find(): what is kept -/
def FP (σ0 β : ai_M) (mv : Bool) (pl : PLt) (o : Option (List Nat)) (r : Int32) (σ1 : ai_M) : Prop := SFr σ0 σ1 ∧ match o with
  | none => r = 0
  | some y => r = 1 ∧ y.length = pl.length ∧ VL β pl y ∧ BR σ1 pl y ∧ σ1 35 24 = nI (csP β pl y) ∧ σ1 35 23 = nI (mvP β mv pl y)
theorem find_loop (hw : WF β) (hr : RM σ0 β) (hp : PLok β pl) {m0 : Int32} : ∀ (n : Nat) (x : List Nat), (upR β pl pl.length x).length < n → x.length = pl.length → ∀ (σ : ai_M), NS0 σ0 β mv pl (some x) x σ → BR σ pl x → ev mX5_find (d + 4) 11 [some (.ref 35), some (.int m0), some (.int 1)] [] (LY L) σ 0 0 (Ri (LY L) (FP σ0 β mv pl (bst (wtP β mv pl) (some x) (upR β pl pl.length x)))) := by
  intro n
  induction n with
  | zero => intro x hn; omega
  | succ n ih =>
    intro x hn hx σ h hb
    refine ev_aload_n dX5_find_11 rfl ?_
    refine cVi0 dX5_find_12 VX5_148 ⟨_, rfl⟩ rfl (t_next1 hw (h.1.RM hr) hp ⟨SFr.rf, h.2⟩ hx) ?_
    rintro r σ1 (⟨rfl, k1, k2, k3, k5, k6⟩ | ⟨rfl, y, k1, k2, k3, l1, k4, k5⟩)
    · have hno : bst (wtP β mv pl) (some x) (upR β pl pl.length x) = some x := bst_no (fun z hz => by have := k6 z hz; simp only [btr, decide_eq_false_iff_not] at this; omega)
      rw [hno]
      refine ev_if_eq 27 dX5_find_15 (by decide) (fun c15 => ?_) (fun c15 => absurd rfl c15)
      refine ev_iload_n dX5_find_27 rfl ?_
      refine ev_ireturn dX5_find_28 rfl rfl rfl ?_
      exact Ri.mk ⟨h.1.tr k1, rfl, hx, h.2.2.2.1, ⟨by rw [k5.2.1]; exact hb.1, by rw [k5.2.2]; exact hb.2⟩, k2.2.2.1, k2.2.2.2⟩
    · have hlt : wtP β mv pl y < wtP β mv pl x := by simpa [btr] using k3
      have hb1 : bst (wtP β mv pl) (some x) l1 = some x := bst_no (fun z hz => by have := k5 z hz; simp only [btr, decide_eq_false_iff_not] at this; omega)
      have hfold : bst (wtP β mv pl) (some x) (upR β pl pl.length x) = bst (wtP β mv pl) (some y) (upR β pl pl.length y) := by
        rw [k4, bst_app, hb1, bst_cons_lt hlt, k2]
      have hlen : (upR β pl pl.length y).length < n := by
        have := congrArg List.length k4
        rw [List.length_append, List.length_cons, k2] at this
        omega
      rw [hfold]
      refine ev_if_eq 27 dX5_find_15 (by decide) (fun c15 => absurd c15 (by decide)) (fun c15 => ?_)
      refine ev_aload_n dX5_find_18 rfl ?_
      refine cVv0 dX5_find_19 VX5_152 ⟨_, rfl⟩ rfl (keepBest_ok (σ0 := σ0) hw hr hp ⟨h.1.tr k1.1, k1.2.1, k1.2.2.1, k1.2.2.2.1, k1.2.2.2.2.1⟩ k2) ?_
      rintro σ2 ⟨g1, g2⟩
      refine ev_iconst 1 dX5_find_22 (by decide) ?_
      refine ev_istore_n dX5_find_23 (by decide) ?_
      refine ev_goto 11 dX5_find_24 (by decide) ?_
      exact ih y hlen k2 σ2 g1 g2
theorem t_find (hw : WF β) (hr : RM σ β) (mv : Bool) : ev mX5_find (d + 4) 0 [some (.ref 35), some (.int (if mv then 1 else 0)), none] [] (LY L) σ 0 0 (Ri (LY L) (FP σ β mv (pls β allS) (bestB β mv))) := by
  have h4 := hw.1.2.2.2.2.2.2.2.2
  have hpow : 2 ^ nW β ≤ 2 ^ 4 := Nat.pow_le_pow_right (by omega) h4
  have epl : pls β (fun w => (2 ^ nW β - 1).testBit w) = pls β allS := pls_congr (fun w hlt => by rw [Nat.testBit_two_pow_sub_one]; simp [hlt])
  have hp := pls_ok hw allS
  refine ev_aload_n dX5_find_0 rfl ?_
  refine ev_aload_n dX5_find_1 rfl ?_
  refine cVp0 dX5_find_2 VX5_140 ⟨_, rfl⟩ rfl (t_mall hw hr) ?_
  refine ev_iload_n dX5_find_5 rfl ?_
  refine cVv2 dX5_find_6 VX5_144 ⟨_, rfl⟩ rfl rfl rfl (t_start hw hr (by omega) mv) ?_
  rintro σ1 ⟨s1, s2, s3, s4⟩
  rw [epl] at s2 s4
  refine ev_iconst 0 dX5_find_9 (by decide) ?_
  refine ev_istore_n dX5_find_10 (by decide) ?_
  refine ev_aload_n dX5_find_11 rfl ?_
  refine cVi0 dX5_find_12 VX5_148 ⟨_, rfl⟩ rfl (t_next0 hw (s1.RM hr) hp s2 s3 s4) ?_
  unfold bestB gvA
  rintro r σ2 (⟨rfl, k1, k2, k3, k5, k6⟩ | ⟨rfl, y, k1, k2, k3, l1, k4, k5⟩)
  · have hnil : sub β (pls β allS) (pls β allS).length [] = [] := by
      cases hz : sub β (pls β allS) (pls β allS).length [] with
      | nil => rfl
      | cons z l => rw [hz] at k6; have := k6 z List.mem_cons_self; simp [btr] at this
    rw [hnil]
    refine ev_if_eq 27 dX5_find_15 (by decide) (fun c15 => ?_) (fun c15 => absurd rfl c15)
    refine ev_iload_n dX5_find_27 rfl ?_
    refine ev_ireturn dX5_find_28 rfl rfl rfl ?_
    exact Ri.mk ⟨s1.tr k1, rfl⟩
  · have hl1 : l1 = [] := by
      cases l1 with
      | nil => rfl
      | cons z l => have := k5 z List.mem_cons_self; simp [btr] at this
    subst hl1
    rw [k4, List.nil_append, bst_cons_none, k2]
    refine ev_if_eq 27 dX5_find_15 (by decide) (fun c15 => absurd c15 (by decide)) (fun c15 => ?_)
    refine ev_aload_n dX5_find_18 rfl ?_
    refine cVv0 dX5_find_19 VX5_152 ⟨_, rfl⟩ rfl (keepBest_ok (σ0 := σ) hw hr hp ⟨s1.tr k1.1, k1.2.1, k1.2.2.1, k1.2.2.2.1, k1.2.2.2.2.1⟩ k2) ?_
    rintro σ3 ⟨g1, g2⟩
    refine ev_iconst 1 dX5_find_22 (by decide) ?_
    refine ev_istore_n dX5_find_23 (by decide) ?_
    refine ev_goto 11 dX5_find_24 (by decide) ?_
    exact find_loop hw hr hp _ y (Nat.lt_succ_self _) k2 σ3 g1 g2
end MF2
