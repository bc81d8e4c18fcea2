/-! the cache; what does not matter to givings -/
theorem pls15 {β : ai_M} (hw : WF β) : pls β (mS 15) = pls β allS := pls_congr (fun w hlt => by
  have h4 := hw.1.2.2.2.2.2.2.2.2
  have : ∀ w, w < 4 → (15 : Nat).testBit w = true := by decide
  exact this w (by omega))
theorem plM15 {β : ai_M} (hw : WF β) : plM β 15 = plA β := pls15 hw
theorem gvA15 {β : ai_M} (hw : WF β) : gvA β (mS 15) = gvA β allS := by unfold gvA; rw [pls15 hw]
theorem bsO15 {β : ai_M} (hw : WF β) (mv : Bool) : bsO β 15 mv = bestB β mv := by unfold bsO bestB; rw [gvA15 hw, plM15 hw]
theorem bst_mem {wt : List Nat → Nat} {y : List Nat} : ∀ {l : List (List Nat)} {b : Option (List Nat)}, bst wt b l = some y → b = some y ∨ y ∈ l
  | [], b, h => Or.inl h
  | x :: l, b, h => by
    have h2 : bst wt (stB wt b x) l = some y := h
    rcases bst_mem h2 with h3 | h3
    · cases b with
      | none => cases h3; exact Or.inr List.mem_cons_self
      | some z =>
        by_cases q : wt x < wt z
        · rw [stB, if_pos q] at h3; cases h3; exact Or.inr List.mem_cons_self
        · rw [stB, if_neg q] at h3; exact Or.inl h3
    · exact Or.inr (List.mem_cons_of_mem _ h3)
theorem best_mem {β : ai_M} {mv : Bool} {y : List Nat} (h : bestB β mv = some y) : y ∈ gvA β allS := by
  rcases bst_mem h with h2 | h2
  · cases h2
  · exact h2
theorem best_none {β : ai_M} {mv : Bool} : bestB β mv = none ↔ gvA β allS = [] := by
  have key : ∀ (l : List (List Nat)) (b : Option (List Nat)) (wt : List Nat → Nat), bst wt b l = none ↔ b = none ∧ l = [] := by
    intro l
    induction l with
    | nil => intro b wt; exact ⟨fun h => ⟨h, rfl⟩, fun h => h.1⟩
    | cons x l ih =>
      intro b wt
      show bst wt (stB wt b x) l = none ↔ _
      rw [ih]
      constructor
      · intro h
        exfalso
        have h1 := h.1
        unfold stB at h1
        split at h1
        · cases h1
        · split at h1 <;> cases h1
      · intro h; cases h.2
  unfold bestB
  rw [key]
  exact ⟨fun h => h.2, fun h => ⟨rfl, h⟩⟩
theorem nI_ne6 {n : Nat} (h : n < 2 ^ 31) : ¬ nI n = -6 := fun q => by
  have e : (nI n).toInt = (-6 : Int32).toInt := by rw [q]
  rw [nI_toInt h, show (-6 : Int32).toInt = -6 from rfl] at e; omega
theorem wtF (β : ai_M) (pl : PLt) (x : List Nat) : wtP β false pl x = csP β pl x := by
  unfold wtP; rw [mvP_false]; omega
theorem gv_len {β : ai_M} {S : Nat → Bool} (hw : WF β) {y : List Nat} (h : y ∈ gvA β S) : y.length = (pls β S).length ∧ y.length ≤ 20 := by
  have h1 := (gv_iff.mp h).1
  have h2 := (pls_ok hw S).1
  exact ⟨h1, by omega⟩
theorem cs_top {β : ai_M} {S : Nat → Bool} (hw : WF β) {y : List Nat} (h : y ∈ gvA β S) : csP β (pls β S) y ≤ 320 := by
  have h1 := csP_top (β := β) hw.1.2.2.1 (pls β S) y
  have h2 := (gv_len hw h).2
  omega
/-- the same chip and wishes -/
def sameB (β β' : ai_M) : Prop := β' 35 0 = β 35 0 ∧ β' 35 2 = β 35 2 ∧ β' 35 4 = β 35 4 ∧ β' 35 8 = β 35 8 ∧ β' 36 = β 36 ∧ β' 37 = β 37 ∧ β' 38 = β 38 ∧ β' 39 = β 39 ∧ β' 40 = β 40 ∧ (∀ w, w < nW β → β' 41 w = β 41 w ∧ β' 42 w = β 42 w ∧ β' 43 w = β 43 w ∧ β' 44 w = β 44 w) ∧ ∀ k, k < 4 * nW β → β' 45 k = β 45 k
section SAME
variable {β β' : ai_M}
theorem sb_nW (h : sameB β β') : nW β' = nW β := by unfold nW; rw [h.2.2.2.1]
theorem sb_nF (h : sameB β β') : nF β' = nF β := by unfold nF; rw [h.1]
theorem sb_nU (h : sameB β β') : nU β' = nU β := by unfold nU; rw [h.2.1]
theorem sb_can (h : sameB β β') (f u r : Nat) : canB β' f u r = canB β f u r := by
  have e : nM β' = nM β := by unfold nM; rw [h.2.2.1]
  unfold canB; rw [e, h.2.2.2.2.2.2.1, h.2.2.2.2.2.2.2.1, h.2.2.2.2.2.2.2.2.1]
theorem flat_cong {f g : Nat → PLt} : ∀ (l : List Nat), (∀ w ∈ l, f w = g w) → l.flatMap f = l.flatMap g
  | [], _ => rfl
  | w :: l, h => by
    rw [List.flatMap_cons, List.flatMap_cons, h w List.mem_cons_self, flat_cong l (fun z hz => h z (List.mem_cons_of_mem _ hz))]
theorem sb_rol (h : sameB β β') {w : Nat} (hw : w < nW β) : rol β' w = rol β w := by
  have e := (h.2.2.2.2.2.2.2.2.2.1 w hw).2.1
  funext r
  unfold rol
  rw [e]
theorem sb_plW (h : sameB β β') {w : Nat} (hw : w < nW β) : plW β' w = plW β w := by
  unfold plW
  rw [sb_rol h hw]
theorem sb_pls (h : sameB β β') (S : Nat → Bool) : pls β' S = pls β S := by
  unfold pls
  rw [sb_nW h]
  exact flat_cong _ (fun w hw => by rw [sb_plW h (List.mem_range.mp hw)])
theorem sb_fit (h : sameB β β') {pl : PLt} (hp : PLok β pl) (vs : List Nat) (v : Nat) : fit β' pl vs v = fit β pl vs v := by
  unfold fit
  cases hq : pl[vs.length]? with
  | none => rfl
  | some z =>
    obtain ⟨w, o⟩ := z
    have hwo := hp.2.1 _ w o hq
    have hW := h.2.2.2.2.2.2.2.2.2.1 w hwo.1
    cases o with
    | none =>
      show (kdB β' w v && _) = (kdB β w v && _)
      unfold kdB; rw [h.2.2.2.2.2.1, hW.1]
    | some r =>
      have hr := hwo.2 r rfl
      show (okB β' w _ r v && _) = (okB β w _ r v && _)
      unfold okB
      rw [sb_can h, h.2.2.2.2.1, hW.2.2.1, h.2.2.2.2.2.2.2.2.2.2 (4 * w + r) (by omega)]
theorem sb_lim (h : sameB β β') (pl : PLt) (k : Nat) : lim β' pl k = lim β pl k := by
  unfold lim; rw [sb_nU h, sb_nF h]
theorem sb_sub (h : sameB β β') {pl : PLt} (hp : PLok β pl) : ∀ (d : Nat) (vs : List Nat), sub β' pl d vs = sub β pl d vs
  | 0, vs => rfl
  | d + 1, vs => by
    rw [sub, sub, sb_lim h]
    congr 1
    funext v
    rw [sb_fit h hp, sb_sub h hp d]
theorem sb_cs (h : sameB β β') {pl : PLt} (hp : PLok β pl) (vs : List Nat) : csP β' pl vs = csP β pl vs := by
  unfold csP
  refine sumS (fun i hi => ?_)
  unfold pc1
  cases hq : pl[(vs.take i).length]? with
  | none => rfl
  | some z =>
    obtain ⟨w, o⟩ := z
    cases o with
    | none => rfl
    | some r =>
      show cst β' w _ = cst β w _
      unfold cst
      rw [sb_nF h, (h.2.2.2.2.2.2.2.2.2.1 w (hp.2.1 _ w _ hq).1).2.2.2]
theorem sb_best (h : sameB β β') (hw : WF β) : bestB β' false = bestB β false := by
  have hp := pls_ok hw allS
  unfold bestB gvA
  rw [sb_pls h, sb_sub h hp]
  congr 1
  funext vs
  rw [wtF, wtF, sb_cs h hp]
theorem sb_Bst (h : sameB β β') (hw : WF β) {c : Int32} {U F : Nat → Int32} (hb : Bst β c U F) : Bst β' c U F := by
  unfold Bst at hb ⊢
  rw [sb_best h hw]
  cases hq : bestB β false with
  | none => rw [hq] at hb; exact hb
  | some x =>
    rw [hq] at hb
    show c = nI (csP β' (pls β' allS) x) ∧ (∀ w, w < 4 → U w = uOf (pls β' allS) x w) ∧ ∀ k, k < 16 → F k = fOf (pls β' allS) x k
    rw [sb_pls h, sb_cs h (pls_ok hw allS)]
    exact hb
end SAME
theorem rcC.keep {σ σ' β : ai_M} {B : BS} (h : rcC B σ β) (e : ∀ c, (c = 2 ∨ (32 ≤ c ∧ c ≤ 34)) → σ' c = σ c) : rcC B σ' β := by
  unfold rcC
  rw [e 2 (by omega), e 32 (by omega), e 33 (by omega), e 34 (by omega)]
  exact h
theorem rcC.same {σ β β' : ai_M} (h : rcC Bst σ β) (hw : WF β) (hs : sameB β β') : rcC Bst σ β' := by
  rcases h with h | ⟨h1, h2, h3⟩
  · exact Or.inl h
  · exact Or.inr ⟨h1, sb_Bst hs hw h2, by rw [hs.2.2.2.1]; exact h3⟩
/-- the cache holds -/
def wrm (σ β : ai_M) : Prop := σ 2 6 = 1 ∧ Bst β (σ 2 5) (σ 33) (σ 34) ∧ (σ 2 5 = -6 ∨ (σ 32 0 = 1 ∧ σ 32 1 = β 35 8))
def lcP (σ β σ' : ai_M) : Prop := RB σ' β ∧ wrm σ' β ∧ FrC σ σ'
section LRN
variable {σ β : ai_M} {d L : Nat}
theorem t_learn (hw : WF β) (h : RB σ β) (hc : rcC Bst σ β) : ev mX4_learnCheapest (d + 29) 0 [some (.ref 2)] [] (LY L) σ 0 0 (Rv (LY L) (lcP σ β)) := by
  rcases hc with hc | hc
  · refine ev_aload_n dX4_learnCheapest_0 rfl ?_
    refine ev_getI dX4_learnCheapest_1 fX4_44 ⟨_, rfl, rfl⟩ ?_
    rw [hc]
    refine ev_if_eq 8 dX4_learnCheapest_4 (by decide) (fun _ => ?_) (fun c4 => absurd rfl c4)
    refine ev_aload_n dX4_learnCheapest_8 rfl ?_
    refine ev_getR dX4_learnCheapest_9 fX4_26 ⟨_, rfl, rfl⟩ ?_
    refine ev_aload_n dX4_learnCheapest_12 rfl ?_
    refine ev_getR dX4_learnCheapest_13 fX4_10 ⟨_, rfl, rfl⟩ ?_
    refine ev_aload_n dX4_learnCheapest_16 rfl ?_
    refine ev_getR dX4_learnCheapest_17 fX4_19 ⟨_, rfl, rfl⟩ ?_
    refine ev_bipush 15 dX4_learnCheapest_20 (by decide) ?_
    refine cVv3 dX4_learnCheapest_22 VX4_147 ⟨_, rfl⟩ rfl rfl rfl rfl (t_aim (d := d + 25) (m := 15) hw h (by decide)) ?_
    rintro σ1 ⟨a1, a2, a3, a4, a5⟩
    refine ev_aload_n dX4_learnCheapest_25 rfl ?_
    refine ev_aload_n dX4_learnCheapest_26 rfl ?_
    refine ev_getR dX4_learnCheapest_27 fX4_26 ⟨_, rfl, rfl⟩ ?_
    refine cVi0 dX4_learnCheapest_30 VX4_155 ⟨_, rfl⟩ rfl (t_findLeast (d := d) (mv := false) hw a1 (Or.inl ⟨rfl, a2⟩) a3 a4) ?_
    rintro r σ2 ⟨b1, b2, b3⟩
    have fr : ∀ c, c ≠ 14 → (c < 15 ∨ 28 < c) → σ2 c = σ c := fun c q1 q2 => by rw [b3 c q1 (by omega) (by omega) (by omega)]; exact a5 c q1 (by omega)
    rw [bsO15 hw] at b1 b2
    refine ev_putI dX4_learnCheapest_33 fX4_40 ⟨_, rfl, rfl⟩ rfl rfl ?_
    refine ev_aload_n dX4_learnCheapest_36 rfl ?_
    refine ev_getI dX4_learnCheapest_37 fX4_40 ⟨_, rfl, rfl⟩ ?_
    rw [show (ai_up σ2 2 5 r) 2 5 = r from rfl]
    cases hb : bestB β false with
    | none =>
      rw [hb] at b2
      have b2' : r = -6 := b2
      subst b2'
      refine ev_bipush (-6) dX4_learnCheapest_40 (by decide) ?_
      refine ev_icmp_ne 55 dX4_learnCheapest_42 (by decide) (fun c42 => absurd rfl c42) (fun c42 => ?_)
      refine ev_aload_n dX4_learnCheapest_45 rfl ?_
      refine ev_getR dX4_learnCheapest_46 fX4_37 ⟨_, rfl, rfl⟩ ?_
      refine cVv0 dX4_learnCheapest_49 VX4_58 ⟨_, rfl⟩ rfl (t_clear (g := 32) (u := 33) (f := 34) rfl rfl rfl (by decide) (by decide) (by decide) (by decide) (by decide)) ?_
      rintro σ3 ⟨k1, k2, k3, k4, k5⟩
      refine ev_goto 69 dX4_learnCheapest_52 (by decide) ?_
      refine ev_aload_n dX4_learnCheapest_69 rfl ?_
      refine ev_iconst 1 dX4_learnCheapest_70 (by decide) ?_
      refine ev_putI dX4_learnCheapest_71 fX4_44 ⟨_, rfl, rfl⟩ rfl rfl ?_
      refine ev_ret dX4_learnCheapest_74 rfl rfl ?_
      refine Rv.mk ⟨h.keep (fun c q => ?_), ⟨rfl, ?_, Or.inl ?_⟩, fun c q => ?_⟩
      · rw [ai_up, if_neg (by omega), k5 c (by omega) (by omega) (by omega), ai_up, if_neg (by omega)]; exact fr c (by omega) (by omega)
      · show Bst β (σ3 2 5) (σ3 33) (σ3 34)
        rw [k5 2 (by decide) (by decide) (by decide)]
        unfold Bst
        rw [hb]
        exact ⟨rfl, k3, k4⟩
      · show σ3 2 5 = -6
        rw [k5 2 (by decide) (by decide) (by decide)]; rfl
      · rw [ai_up, if_neg (by omega), k5 c (by omega) (by omega) (by omega), ai_up, if_neg (by omega)]; exact fr c (by omega) (by omega)
    | some x =>
      have hx := cs_top hw (best_mem hb)
      rw [hb] at b1 b2
      have b2' : r = nI (csP β (pls β allS) x) := by rw [b2, plM15 hw]; show nI (wtP _ _ _ _) = _; rw [wtF]
      subst b2'
      obtain ⟨-, f1, f2, f3, f4, f5⟩ := b1
      rw [plM15 hw] at f4 f5
      refine ev_bipush (-6) dX4_learnCheapest_40 (by decide) ?_
      refine ev_icmp_ne 55 dX4_learnCheapest_42 (by decide) (fun c42 => ?_) (fun c42 => absurd c42 (nI_ne6 (by omega)))
      refine ev_aload_n dX4_learnCheapest_55 rfl ?_
      refine ev_getR dX4_learnCheapest_56 fX4_37 ⟨_, rfl, rfl⟩ ?_
      refine ev_aload_n dX4_learnCheapest_59 rfl ?_
      refine ev_getR dX4_learnCheapest_60 fX4_26 ⟨_, rfl, rfl⟩ ?_
      refine ev_getR dX4_learnCheapest_63 fX4_169 ⟨_, rfl, rfl⟩ ?_
      refine cVv1 dX4_learnCheapest_66 VX4_159 ⟨_, rfl⟩ rfl rfl (t_copy (g := 32) (u := 33) (f := 34) (g2 := 15) (u2 := 16) (f2 := 17) rfl rfl rfl rfl rfl rfl (by decide) (by decide) (by decide) (by decide) (by decide) (by decide) (by decide) (by decide) (by decide) (by decide) (by decide) (Or.inr f2)) ?_
      rintro σ3 ⟨k1, k2, k3, k4, k5⟩
      refine ev_aload_n dX4_learnCheapest_69 rfl ?_
      refine ev_iconst 1 dX4_learnCheapest_70 (by decide) ?_
      refine ev_putI dX4_learnCheapest_71 fX4_44 ⟨_, rfl, rfl⟩ rfl rfl ?_
      refine ev_ret dX4_learnCheapest_74 rfl rfl ?_
      refine Rv.mk ⟨h.keep (fun c q => ?_), ⟨rfl, ?_, Or.inr ⟨?_, ?_⟩⟩, fun c q => ?_⟩
      · rw [ai_up, if_neg (by omega), k5 c (by omega) (by omega) (by omega), ai_up, if_neg (by omega)]; exact fr c (by omega) (by omega)
      · show Bst β (σ3 2 5) (σ3 33) (σ3 34)
        rw [k5 2 (by decide) (by decide) (by decide)]
        unfold Bst
        rw [hb]
        exact ⟨rfl, fun w q => (k3 w q).trans (f4 w q), fun k q => (k4 k q).trans (f5 k q)⟩
      · show σ3 32 0 = 1
        rw [k1]; exact f2
      · show σ3 32 1 = _
        rw [k2, hw.1.2.2.2.2.2.2.2.1]; exact f3
      · rw [ai_up, if_neg (by omega), k5 c (by omega) (by omega) (by omega), ai_up, if_neg (by omega)]; exact fr c (by omega) (by omega)
  · refine ev_aload_n dX4_learnCheapest_0 rfl ?_
    refine ev_getI dX4_learnCheapest_1 fX4_44 ⟨_, rfl, rfl⟩ ?_
    rw [hc.1]
    refine ev_if_eq 8 dX4_learnCheapest_4 (by decide) (fun c4 => absurd c4 (by decide)) (fun c4 => ?_)
    refine ev_ret dX4_learnCheapest_7 rfl rfl ?_
    exact Rv.mk ⟨h, hc, FrC.rf⟩
theorem wrm.c (h : wrm σ β) : rcC Bst σ β := Or.inr h
theorem wrm.b (h : wrm σ β) : σ 2 5 = bsB β := by
  have h2 := h.2.1
  unfold Bst at h2
  unfold bsB
  cases hb : bestB β false with
  | none => rw [hb] at h2; exact h2.1
  | some x => rw [hb] at h2; exact h2.1
theorem tc_best (hw : WF β) (h : RB σ β) (hc : rcC Bst σ β) : ev mX4_best (d + 30) 0 [some (.ref 2)] [] (LY L) σ 0 0 (Ri (LY L) (PC Bst (sp_best β) σ)) := by
  refine ev_aload_n dX4_best_0 rfl ?_
  refine cVv0 dX4_best_1 VX4_127 ⟨_, rfl⟩ rfl (t_learn (d := d) hw h hc) ?_
  rintro σ1 ⟨h1, h2, h3⟩
  refine ev_aload_n dX4_best_4 rfl ?_
  refine ev_getI dX4_best_5 fX4_40 ⟨_, rfl, rfl⟩ ?_
  refine ev_ireturn dX4_best_8 rfl rfl rfl ?_
  exact Ri.mk (PC.of (by rw [h2.b]; rfl) h1 h2.c h3)
end LRN
