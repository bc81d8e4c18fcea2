section MN3
variable {β : ai_M} {d L : Nat} {pl : PLt} {mv : Bool} {b : Option (List Nat)} {σ0 : ai_M}
/-- back from a prefix that gave nothing: what comes behind it -/
theorem next_up (hw : WF β) (hr : RM σ0 β) (hp : PLok β pl) {Q : Option Value → ai_L → ai_M → Prop} : ∀ (n : Nat) (vs : List Nat), vs.length = n → ∀ (σ : ai_M) (l2 l3 l4 : Option Value), NS σ0 β mv pl b vs σ → NB pl n σ →
    (∀ (x : List Nat) (σ1 : ai_M), NS σ0 β mv pl b x σ1 → Fnd β mv pl b (upR β pl n vs) x → Q (some (.int 1)) (LY L) σ1) →
    (∀ (σ1 : ai_M), SFr σ0 σ1 → MBd σ1 β mv pl b → MS σ1 pl [] → (σ1 35 21 = 0 ∧ σ1 51 = σ0 51 ∧ σ1 52 = σ0 52) → (∀ x ∈ upR β pl n vs, btr β mv pl b x = false) → Q (some (.int 0)) (LY L) σ1) →
    nxt σ (d + 3) L 42 (nI n + Int32.ofInt (-1)) l2 l3 l4 Q := by
  intro n
  induction n with
  | zero =>
    intro vs hvs σ l2 l3 l4 h hb Kt Kf
    have : vs = [] := List.length_eq_zero_iff.mp hvs
    subst this
    rw [show nI 0 + Int32.ofInt (-1) = -1 from by decide]
    refine ev_iload_n dX5_next_42 rfl ?_
    refine ev_if_lt 187 dX5_next_43 (by decide) (fun c43 => ?_) (fun c43 => absurd (by decide) c43)
    refine ev_iconst 0 dX5_next_187 (by decide) ?_
    refine ev_ireturn dX5_next_188 rfl rfl rfl ?_
    exact Kf σ h.1 h.2.1 h.2.2.1 h.2.2.2.2 (fun x hx => by cases hx)
  | succ n ih =>
    intro vs hvs σ l2 l3 l4 h hb Kt Kf
    have h16 := lim16 (pl := pl) hw n
    obtain ⟨us, v, rfl⟩ : ∃ us v, vs = us ++ [v] := by
      refine ⟨vs.take n, vs.getD n 0, ?_⟩
      have e := take_S (vs := vs) (p := n) (v := vs.getD n 0) (by rw [List.getD_eq_getElem?_getD, List.getElem?_eq_getElem (by omega)]; rfl)
      rw [List.take_of_length_le (by omega)] at e
      exact e
    have hus : us.length = n := by rw [List.length_append, List.length_singleton] at hvs; omega
    have i1 := h.2.2.1.init
    have i2 := h.2.2.2.1.init
    have hl : us.length < pl.length := by have := h.2.2.2.1.1; rw [List.length_append, List.length_singleton] at this; omega
    have hup : upR β pl (n + 1) (us ++ [v]) = subF β pl (pl.length - us.length - 1) us (v + 1) ++ upR β pl us.length us := by rw [← hus, upR_S]
    rw [show nI (n + 1) + Int32.ofInt (-1) = nI n from pk_m1 n, ← hus]
    refine next_head hw hr hp (v0 := v + 1) hl (by have := i2.2; rw [hus] at this; omega) ⟨h.1, h.2.1, i1.1, i2.1, h.2.2.2.2⟩ (Or.inr ⟨by omega, i1.2⟩) (by rw [hus]; exact hb) (fun σ1 k1 k2 => ?_) _ _ _
    refine inner_go hw hr hp (pl.length - us.length - 1) us (by omega) (lim β pl us.length - (v + 1)) (v + 1) (by have := i2.2; omega) σ1 k1 (fun p h1 h2 => k2 p (by omega) h2) (fun x σ2 j1 j2 => Kt x σ2 j1 (by rw [hup]; exact j2)) (fun σ2 l2 l3 l4 j1 j2 j3 => ?_)
    refine ev_goto 42 dX5_next_184 (by decide) ?_
    rw [hus]
    refine ih us hus σ2 l2 l3 l4 j1 (by rw [hus] at j2; exact j2) (fun x σ3 t1 t2 => Kt x σ3 t1 ?_) (fun σ3 t1 t2 t3 t4 t5 => Kf σ3 t1 t2 t3 t4 (fun x hx => ?_))
    · rw [hup]; rw [hus] at j3 ⊢; exact t2.pre j3
    · rw [hup] at hx
      rw [hus] at j3 hx
      exact (List.mem_append.mp hx).elim (j3 x) (t5 x)
/-- what next() does: l is the list of givings that are still to come -/
def NxP (σ0 β : ai_M) (mv : Bool) (pl : PLt) (b : Option (List Nat)) (l : List (List Nat)) (r : Int32) (σ1 : ai_M) : Prop := (r = 0 ∧ SFr σ0 σ1 ∧ MBd σ1 β mv pl b ∧ MS σ1 pl [] ∧ (σ1 35 21 = 0 ∧ σ1 51 = σ0 51 ∧ σ1 52 = σ0 52) ∧ ∀ x ∈ l, btr β mv pl b x = false) ∨ (r = 1 ∧ ∃ x, NS σ0 β mv pl b x σ1 ∧ Fnd β mv pl b l x)
theorem next_fin0 (hz : ¬ pl.length = 0) {σ2 : ai_M} (j1 : NS σ0 β mv pl b [] σ2) (j3 : ∀ x ∈ subF β pl (pl.length - 1) [] 0, btr β mv pl b x = false) (l2 l3 l4 : Option Value) : nxt σ2 (d + 3) L 184 (nI ([] : List Nat).length + Int32.ofInt (-1)) l2 l3 l4 (Ri (LY L) (NxP σ0 β mv pl b (sub β pl pl.length []))) := by
  refine ev_goto 42 dX5_next_184 (by decide) ?_
  rw [show nI ([] : List Nat).length + Int32.ofInt (-1) = -1 from by decide]
  refine ev_iload_n dX5_next_42 rfl ?_
  refine ev_if_lt 187 dX5_next_43 (by decide) (fun c43 => ?_) (fun c43 => absurd (by decide) c43)
  refine ev_iconst 0 dX5_next_187 (by decide) ?_
  refine ev_ireturn dX5_next_188 rfl rfl rfl ?_
  exact Ri.mk (Or.inl ⟨rfl, j1.1, j1.2.1, j1.2.2.1, j1.2.2.2.2, by rw [show pl.length = (pl.length - 1) + 1 by omega, sub_F]; exact j3⟩)
/-- the first call behind start() -/
theorem t_next0 (hw : WF β) {σ : ai_M} (hr : RM σ β) (hp : PLok β pl) (h2 : SP σ pl) (h3 : σ 35 21 = 1) (h4 : MBd σ β mv pl none) : ev mX5_next (d + 3) 0 [some (.ref 35), none, none, none, none] [] (LY L) σ 0 0 (Ri (LY L) (NxP σ β mv pl none (sub β pl pl.length []))) := by
  have h20 := hp.1
  have hms : MS σ pl [] := ⟨h2.1, fun p w o hq => ⟨(h2.2 p w o hq).1, (h2.2 p w o hq).2.1⟩, fun p v hv => by simp at hv⟩
  have hns : NS σ β mv pl none [] (ai_up σ 35 21 0) := ⟨SFr.rf.up35 (by decide), h4, hms, ⟨Nat.zero_le _, fun p v hv => by simp at hv⟩, rfl, rfl, rfl⟩
  have hnb : NB pl 0 (ai_up σ 35 21 0) := by
    intro p _ hpl
    obtain ⟨⟨w, o⟩, ho⟩ : ∃ q, pl[p]? = some q := ⟨_, List.getElem?_eq_getElem hpl⟩
    exact (h2.2 p w o ho).2.2
  by_cases hz : pl.length = 0
  · have : pl = [] := List.length_eq_zero_iff.mp hz
    subst this
    refine ev_aload_n dX5_next_0 rfl ?_
    refine ev_getI dX5_next_1 fX5_102 ⟨_, rfl, rfl⟩ ?_
    rw [show σ 35 17 = 0 from h2.1]
    refine ev_if_ne 19 dX5_next_4 (by decide) (fun c4 => absurd rfl c4) (fun c4 => ?_)
    refine ev_aload_n dX5_next_7 rfl ?_
    refine ev_getI dX5_next_8 fX5_105 ⟨_, rfl, rfl⟩ ?_
    rw [h3]
    refine ev_istore_n dX5_next_11 (by decide) ?_
    refine ev_aload_n dX5_next_12 rfl ?_
    refine ev_iconst 0 dX5_next_13 (by decide) ?_
    refine ev_putI dX5_next_14 fX5_105 ⟨_, rfl, rfl⟩ rfl rfl ?_
    refine ev_iload_n dX5_next_17 rfl ?_
    refine ev_ireturn dX5_next_18 rfl rfl rfl ?_
    exact Ri.mk (Or.inr ⟨rfl, [], hns, rfl, rfl, [], rfl, fun z hz => by cases hz⟩)
  · have hne : ¬ σ 35 17 = 0 := fun q => hz (by rw [h2.1] at q; exact nI_inj (b := 0) (by omega) (by decide) q)
    have hl : ([] : List Nat).length < pl.length := by show 0 < pl.length; omega
    refine ev_aload_n dX5_next_0 rfl ?_
    refine ev_getI dX5_next_1 fX5_102 ⟨_, rfl, rfl⟩ ?_
    refine ev_if_ne 19 dX5_next_4 (by decide) (fun c4 => ?_) (fun c4 => absurd c4 hne)
    refine ev_aload_n dX5_next_19 rfl ?_
    refine ev_getI dX5_next_20 fX5_105 ⟨_, rfl, rfl⟩ ?_
    rw [h3]
    refine ev_if_eq 30 dX5_next_23 (by decide) (fun c23 => absurd c23 (by decide)) (fun c23 => ?_)
    refine ev_iconst 0 dX5_next_26 (by decide) ?_
    refine ev_goto 36 dX5_next_27 (by decide) ?_
    refine ev_istore_n dX5_next_36 (by decide) ?_
    refine ev_aload_n dX5_next_37 rfl ?_
    refine ev_iconst 0 dX5_next_38 (by decide) ?_
    refine ev_putI dX5_next_39 fX5_105 ⟨_, rfl, rfl⟩ rfl rfl ?_
    refine next_head (vs := []) hw hr hp (v0 := 0) hl (by omega) hns (Or.inl ⟨rfl, hnb 0 (by omega) (by omega)⟩) (fun p a c => hnb p (by omega) c) (fun σ1 k1 k2 => ?_) _ _ _
    refine inner_go hw hr hp (pl.length - 1) [] (by show 0 + (pl.length - 1) + 1 = _; omega) (lim β pl 0) 0 (by show 0 + lim β pl 0 = lim β pl 0; omega) σ1 k1 (fun p a c => k2 p (by show 0 ≤ p; omega) c) (fun x σ2 j1 j2 => Ri.mk (Or.inr ⟨rfl, x, j1, ?_⟩)) (fun σ2 l2 l3 l4 j1 j2 j3 => ?_)
    · rw [show pl.length = (pl.length - 1) + 1 by omega, sub_F]; rw [show upR β pl ([] : List Nat).length [] = [] from rfl, List.append_nil] at j2; exact j2
    · exact next_fin0 hz j1 j3 l2 l3 l4
/-- a later call, behind a giving x -/
theorem t_next1 (hw : WF β) {σ : ai_M} (hr : RM σ β) (hp : PLok β pl) {x : List Nat} (h : NS0 σ β mv pl b x σ) (hx : x.length = pl.length) : ev mX5_next (d + 3) 0 [some (.ref 35), none, none, none, none] [] (LY L) σ 0 0 (Ri (LY L) (NxP σ β mv pl b (upR β pl pl.length x))) := by
  have h20 := hp.1
  have e17 := h.2.2.1.1
  have hns : NS σ β mv pl b x (ai_up σ 35 21 0) := ⟨h.1.up35 (by decide), h.2.1, h.2.2.1, h.2.2.2.1, rfl, rfl, rfl⟩
  by_cases hz : pl.length = 0
  · have : pl = [] := List.length_eq_zero_iff.mp hz
    subst this
    refine ev_aload_n dX5_next_0 rfl ?_
    refine ev_getI dX5_next_1 fX5_102 ⟨_, rfl, rfl⟩ ?_
    rw [show σ 35 17 = 0 from e17]
    refine ev_if_ne 19 dX5_next_4 (by decide) (fun c4 => absurd rfl c4) (fun c4 => ?_)
    refine ev_aload_n dX5_next_7 rfl ?_
    refine ev_getI dX5_next_8 fX5_105 ⟨_, rfl, rfl⟩ ?_
    rw [h.2.2.2.2]
    refine ev_istore_n dX5_next_11 (by decide) ?_
    refine ev_aload_n dX5_next_12 rfl ?_
    refine ev_iconst 0 dX5_next_13 (by decide) ?_
    refine ev_putI dX5_next_14 fX5_105 ⟨_, rfl, rfl⟩ rfl rfl ?_
    refine ev_iload_n dX5_next_17 rfl ?_
    refine ev_ireturn dX5_next_18 rfl rfl rfl ?_
    exact Ri.mk (Or.inl ⟨rfl, hns.1, hns.2.1, ⟨hns.2.2.1.1, hns.2.2.1.2.1, fun p v hv => by simp at hv⟩, ⟨rfl, rfl, rfl⟩, fun z hz => by cases hz⟩)
  · have hne : ¬ σ 35 17 = 0 := fun q => hz (by rw [e17] at q; exact nI_inj (b := 0) (by omega) (by decide) q)
    refine ev_aload_n dX5_next_0 rfl ?_
    refine ev_getI dX5_next_1 fX5_102 ⟨_, rfl, rfl⟩ ?_
    refine ev_if_ne 19 dX5_next_4 (by decide) (fun c4 => ?_) (fun c4 => absurd c4 hne)
    refine ev_aload_n dX5_next_19 rfl ?_
    refine ev_getI dX5_next_20 fX5_105 ⟨_, rfl, rfl⟩ ?_
    rw [h.2.2.2.2]
    refine ev_if_eq 30 dX5_next_23 (by decide) (fun c23 => ?_) (fun c23 => absurd rfl c23)
    refine ev_aload_n dX5_next_30 rfl ?_
    refine ev_getI dX5_next_31 fX5_102 ⟨_, rfl, rfl⟩ ?_
    rw [e17]
    refine ev_iconst 1 dX5_next_34 (by decide) ?_
    refine ev_isub dX5_next_35 ?_
    rw [show nI pl.length - 1 = nI pl.length + Int32.ofInt (-1) from by rw [show pl.length = pl.length - 1 + 1 by omega, nI_pred]; exact (pk_m1 _).symm]
    refine ev_istore_n dX5_next_36 (by decide) ?_
    refine ev_aload_n dX5_next_37 rfl ?_
    refine ev_iconst 0 dX5_next_38 (by decide) ?_
    refine ev_putI dX5_next_39 fX5_105 ⟨_, rfl, rfl⟩ rfl rfl ?_
    refine next_up hw hr hp pl.length x hx _ _ _ _ hns (fun p a c => absurd c (by omega)) (fun y σ1 j1 j2 => Ri.mk (Or.inr ⟨rfl, y, j1, j2⟩)) (fun σ1 j1 j2 j3 j4 j5 => Ri.mk (Or.inl ⟨rfl, j1, j2, j3, j4, j5⟩))
end MN3
