def anO (wt : List Nat → Nat) : Option (List Nat) → Int32
  | none => -6
  | some x => nI (wt x)
section FL
variable {σ β : ai_M} {d L m : Nat} {mv : Bool}
def sbP (σ β : ai_M) (m : Nat) (mv : Bool) (l : Nat) (σ1 : ai_M) : Prop := SS σ1 β m ∧ KP σ1 β mv ∧ BD σ1 β m mv ∧ σ1 14 17 = nI l ∧ σ1 14 16 = nI 0 ∧ σ1 14 15 = nI 1000000 ∧ σ1 14 13 = 0 ∧ σ1 14 14 = 0 ∧ MKV σ1 β m [] ∧ (∀ k, k < 13 → σ1 14 k = σ 14 k) ∧ ∀ c, c ≠ 14 → (c < 18 ∨ 20 < c) → c ≠ 27 → c ≠ 28 → σ1 c = σ c
theorem SS.same {σ1 : ai_M} (hs : SS σ β m) (h14 : ∀ k, k < 13 → σ1 14 k = σ 14 k) (h : ∀ c, 24 ≤ c → c ≤ 26 → σ1 c = σ c) : SS σ1 β m := by
  unfold SS
  rw [h14 3 (by decide), h14 4 (by decide), h14 5 (by decide), h 24 (by decide) (by decide), h 25 (by decide) (by decide), h 26 (by decide) (by decide)]
  exact hs
theorem KP.same {σ1 : ai_M} (hs : KP σ β mv) (h : ∀ c, 21 ≤ c → c ≤ 23 → σ1 c = σ c) : KP σ1 β mv := by
  unfold KP
  rw [h 21 (by decide) (by decide), h 22 (by decide) (by decide), h 23 (by decide) (by decide)]
  exact hs
theorem t_cbegin (hw : WF β) (hs : SS σ β m) (hk : KP σ β mv) (l : Nat) : ev mX3_begin (d + 3) 0 [some (.ref 14), some (.int (nI l))] [] (LY L) σ 0 0 (Rv (LY L) (sbP σ β m mv l)) := by
  refine ev_aload_n dX3_begin_0 rfl ?_
  refine ev_iload_n dX3_begin_1 rfl ?_
  refine ev_putI dX3_begin_2 fX3_121 ⟨_, rfl, rfl⟩ rfl rfl ?_
  refine ev_aload_n dX3_begin_5 rfl ?_
  refine ev_iconst 0 dX3_begin_6 (by decide) ?_
  refine ev_putI dX3_begin_7 fX3_113 ⟨_, rfl, rfl⟩ rfl rfl ?_
  refine ev_aload_n dX3_begin_10 rfl ?_
  refine ev_ldc 1000000 dX3_begin_11 kX3_124 ?_
  refine ev_putI dX3_begin_13 fX3_110 ⟨_, rfl, rfl⟩ rfl rfl ?_
  refine ev_aload_n dX3_begin_16 rfl ?_
  refine ev_iconst 0 dX3_begin_17 (by decide) ?_
  refine ev_putI dX3_begin_18 fX3_125 ⟨_, rfl, rfl⟩ rfl rfl ?_
  refine ev_aload_n dX3_begin_21 rfl ?_
  refine ev_iconst 0 dX3_begin_22 (by decide) ?_
  refine ev_putI dX3_begin_23 fX3_128 ⟨_, rfl, rfl⟩ rfl rfl ?_
  refine ev_aload_n dX3_begin_26 rfl ?_
  refine ev_getR dX3_begin_27 fX3_18 ⟨_, rfl, rfl⟩ ?_
  refine cVv0 dX3_begin_30 VX3_64 ⟨_, rfl⟩ rfl (t_clear (g := 18) (u := 19) (f := 20) rfl rfl rfl (by decide) (by decide) (by decide) (by decide) (by decide)) ?_
  rintro σ2 ⟨k1, k2, k3, k4, k5⟩
  have k14 := k5 14 (by decide) (by decide) (by decide)
  have f14 : ∀ k, k < 13 → σ2 14 k = σ 14 k := fun k q => by
    rw [k14]
    simp only [ai_up, if_true, upd]
    rw [if_neg (by omega), if_neg (by omega), if_neg (by omega), if_neg (by omega), if_neg (by omega)]
  have fc : ∀ c, c ≠ 14 → (c < 18 ∨ 20 < c) → σ2 c = σ c := fun c q1 q2 => by
    rw [k5 c (by omega) (by omega) (by omega)]
    simp only [ai_up, if_neg q1]
  refine ev_aload_n dX3_begin_33 rfl ?_
  refine ev_getR dX3_begin_34 fX3_18 ⟨_, rfl, rfl⟩ ?_
  refine ev_iconst 1 dX3_begin_37 (by decide) ?_
  refine ev_putI dX3_begin_38 fX3_107 ⟨_, rfl, rfl⟩ rfl rfl ?_
  refine ev_aload_n dX3_begin_41 rfl ?_
  refine ev_getR dX3_begin_42 fX3_18 ⟨_, rfl, rfl⟩ ?_
  refine ev_aload_n dX3_begin_45 rfl ?_
  refine ev_getI dX3_begin_46 fX3_46 ⟨_, rfl, rfl⟩ ?_
  rw [show (ai_up σ2 18 0 1) 14 3 = nI (nW β) from (f14 3 (by decide)).trans hs.1]
  have hs3 : SS (ai_up (ai_up σ2 18 0 1) 18 1 (nI (nW β))) β m := hs.same (fun k q => f14 k q) (fun c q1 q2 => by rw [ai_up, if_neg (by omega), ai_up, if_neg (by omega)]; exact fc c (by omega) (by omega))
  have hk3 : KP (ai_up (ai_up σ2 18 0 1) 18 1 (nI (nW β))) β mv := hk.same (fun c q1 q2 => by rw [ai_up, if_neg (by omega), ai_up, if_neg (by omega)]; exact fc c (by omega) (by omega))
  refine ev_putI dX3_begin_49 fX3_131 ⟨_, rfl, rfl⟩ rfl rfl ?_
  refine ev_aload_n dX3_begin_52 rfl ?_
  refine cVv0 dX3_begin_53 VX3_132 ⟨_, rfl⟩ rfl (t_setBounds (d := d) hw hs3 hk3) ?_
  rintro σ4 ⟨b1, b2⟩
  refine ev_ret dX3_begin_56 rfl rfl ?_
  have e14 := b2 14 (by decide) (by decide)
  refine Rv.mk ⟨hs3.keep b2, hk3.keep b2, b1, ?_, ?_, ?_, ?_, ?_, ⟨?_, ?_, fun p w _ q => absurd q (Nat.not_lt_zero p), fun p w r _ q => absurd q (Nat.not_lt_zero p), fun w q _ => ?_, fun k q _ => ?_⟩, fun k q => ?_, fun c q1 q2 q3 q4 => ?_⟩
  · rw [e14]; show σ2 14 17 = _; rw [k14]; rfl
  · rw [e14]; show σ2 14 16 = _; rw [k14]; rfl
  · rw [e14]; show σ2 14 15 = _; rw [k14]; rfl
  · rw [e14]; show σ2 14 13 = _; rw [k14]; rfl
  · rw [e14]; show σ2 14 14 = _; rw [k14]; rfl
  · rw [b2 18 (by decide) (by decide)]; rfl
  · rw [b2 18 (by decide) (by decide)]; rfl
  · rw [b2 19 (by decide) (by decide)]; exact k3 w q
  · rw [b2 20 (by decide) (by decide)]; exact k4 k q
  · rw [e14]; exact f14 k q
  · rw [b2 c q3 q4, ai_up, if_neg (by omega), ai_up, if_neg (by omega)]; exact fc c q1 q2
theorem bg_AM (hw : WF β) {l : Nat} (hl : l ≤ 100000) {σ1 σ2 : ai_M} (hb : sbP σ β m mv l σ1) (e11 : σ 14 11 = lsN β m (4 * nW β)) (h : ∀ c, (c < 15 ∨ 17 < c) → σ2 c = σ1 c) : AM σ2 β m mv l := by
  obtain ⟨b1, b2, b3, b4, b5, b6, b7, b8, b9, b10, b11⟩ := hb
  refine ⟨b1.same (fun k q => by rw [h 14 (by omega)]) (fun c q1 q2 => h c (by omega)), b2.same (fun c q1 q2 => h c (by omega)), ?_, ls_ok hw (by rw [h 14 (by omega), b10 11 (by decide)]; exact e11), by rw [h 14 (by omega)]; exact b4, hl⟩
  unfold BD
  rw [h 27 (by omega), h 28 (by omega)]; exact b3
theorem tk_0 (pl : PLt) (b : Bool) : nI (mk (tkB pl [] b) 16) = 0 := by
  rw [← mk_none 16]; exact mkI_cong (fun i _ => rfl)
theorem bg_GI {l : Nat} {σ1 σ2 : ai_M} (hb : sbP σ β m mv l σ1) (h : ∀ c, (c < 15 ∨ 17 < c) → σ2 c = σ1 c) (h0 : l = 0 → σ2 15 0 = 0) : GI σ2 β m mv l [] none 0 σ2 := by
  obtain ⟨b1, b2, b3, b4, b5, b6, b7, b8, b9, b10, b11⟩ := hb
  refine ⟨GF.rf, by rw [h 14 (by omega), b7, tk_0], by rw [h 14 (by omega), b8, tk_0], by rw [h 14 (by omega)]; exact b6, by rw [h 14 (by omega)]; exact b5, ?_, h0⟩
  unfold MKV
  rw [h 18 (by omega), h 19 (by omega), h 20 (by omega)]; exact b9
def bsO (β : ai_M) (m : Nat) (mv : Bool) : Option (List Nat) := bst (wtP β mv (plM β m)) none (gvA β (mS m))
def flP (σ β : ai_M) (m : Nat) (mv : Bool) (r : Int32) (σ1 : ai_M) : Prop := FND σ1 β m 0 (bsO β m mv) ∧ r = anO (wtP β mv (plM β m)) (bsO β m mv) ∧ ∀ c, c ≠ 14 → (c < 15 ∨ 20 < c) → c ≠ 27 → c ≠ 28 → σ1 c = σ c
theorem fl_end {o : Option (List Nat)} {σ3 : ai_M} (hf : FND σ3 β m 0 o) (e15 : σ3 14 15 = nI (lst β mv m o)) : ev mX3_findLeast d 25 [some (.ref 14)] [] (LY L) σ3 0 0 (Rp (LY L) σ3 (anO (wtP β mv (plM β m)) o)) := by
  cases o with
  | none =>
    have e0 := hf rfl
    refine ev_aload_n dX3_findLeast_25 rfl ?_
    refine ev_getR dX3_findLeast_26 fX3_12 ⟨_, rfl, rfl⟩ ?_
    refine ev_getI dX3_findLeast_29 fX3_107 ⟨_, rfl, rfl⟩ ?_
    rw [e0]
    refine ev_if_eq 42 dX3_findLeast_32 (by decide) (fun c32 => ?_) (fun c32 => absurd rfl c32)
    refine ev_bipush (-6) dX3_findLeast_42 (by decide) ?_
    refine ev_ireturn dX3_findLeast_44 rfl rfl rfl ?_
    exact Rp.mk rfl
  | some x =>
    have e0 := hf.2.2.1
    refine ev_aload_n dX3_findLeast_25 rfl ?_
    refine ev_getR dX3_findLeast_26 fX3_12 ⟨_, rfl, rfl⟩ ?_
    refine ev_getI dX3_findLeast_29 fX3_107 ⟨_, rfl, rfl⟩ ?_
    rw [e0]
    refine ev_if_eq 42 dX3_findLeast_32 (by decide) (fun c32 => absurd c32 (by decide)) (fun c32 => ?_)
    refine ev_aload_n dX3_findLeast_35 rfl ?_
    refine ev_getI dX3_findLeast_36 fX3_110 ⟨_, rfl, rfl⟩ ?_
    rw [e15]
    refine ev_goto 44 dX3_findLeast_39 (by decide) ?_
    refine ev_ireturn dX3_findLeast_44 rfl rfl rfl ?_
    exact Rp.mk rfl
theorem t_findLeast (hw : WF β) (hs : SS σ β m) (hk : KP σ β mv) (e11 : σ 14 11 = lsN β m (4 * nW β)) (e12 : σ 14 12 = bI (enB β m (nW β) = true)) : ev mX3_findLeast (d + 28) 0 [some (.ref 14)] [] (LY L) σ 0 0 (Ri (LY L) (flP σ β m mv)) := by
  have h4 := hw.1.2.2.2.2.2.2.2.2
  refine ev_aload_n dX3_findLeast_0 rfl ?_
  refine ev_iconst 0 dX3_findLeast_1 (by decide) ?_
  refine cVv1 dX3_findLeast_2 VX3_99 ⟨_, rfl⟩ rfl rfl (t_cbegin (d := d + 24) hw hs hk 0) ?_
  intro σ1 hb
  refine ev_aload_n dX3_findLeast_5 rfl ?_
  refine ev_getR dX3_findLeast_6 fX3_12 ⟨_, rfl, rfl⟩ ?_
  refine cVv0 dX3_findLeast_9 VX3_64 ⟨_, rfl⟩ rfl (t_clear (g := 15) (u := 16) (f := 17) rfl rfl rfl (by decide) (by decide) (by decide) (by decide) (by decide)) ?_
  rintro σ2 ⟨c1, c2, c3, c4, c5⟩
  have hc : ∀ c, (c < 15 ∨ 17 < c) → σ2 c = σ1 c := fun c q => c5 c (by omega) (by omega) (by omega)
  have ha := bg_AM (l := 0) hw (by omega) hb e11 hc
  have hg := bg_GI hb hc (fun _ => c1)
  have e12' : σ2 14 12 = bI (enB β m (nW β) = true) := by rw [hc 14 (by omega), hb.2.2.2.2.2.2.2.2.2.1 12 (by decide)]; exact e12
  have fr : ∀ σ3 : ai_M, (∀ c, c ≠ 14 → (c < 15 ∨ 20 < c) → σ3 c = σ2 c) → ∀ c, c ≠ 14 → (c < 15 ∨ 20 < c) → c ≠ 27 → c ≠ 28 → σ3 c = σ c := fun σ3 h c q1 q2 q3 q4 => by
    rw [h c q1 q2, hc c (by omega)]; exact hb.2.2.2.2.2.2.2.2.2.2 c q1 (by omega) q3 q4
  refine ev_aload_n dX3_findLeast_12 rfl ?_
  refine ev_getI dX3_findLeast_13 fX3_60 ⟨_, rfl, rfl⟩ ?_
  rw [e12']
  cases hen : enB β m (nW β) with
  | false =>
    have hnil : bsO β m mv = none := by unfold bsO; rw [en_nil hen]; rfl
    refine ev_if_eq 25 dX3_findLeast_16 (by decide) (fun c16 => ?_) (fun c16 => absurd (bI_0.mpr (by decide)) c16)
    refine (fl_end (mv := mv) (o := none) hg.2.2.2.2.2.2 hg.2.2.2.1).mono ?_
    rintro _ _ σ3 ⟨rfl, x, rfl, rfl, rfl⟩
    refine Ri.mk ⟨by rw [hnil]; exact hg.2.2.2.2.2.2, by rw [hnil], fr _ (fun _ _ _ => rfl)⟩
  | true =>
    have hU := gU (L := L) hw ha (nW β) 0 (by omega) (d + 27) (by omega) [] rfl none 0 σ2 hg (fun z => absurd rfl z) (by omega) (fun _ => (by decide : 0 < 1000000))
    rw [show wtP β mv (plM β m) [] = 0 from rfl] at hU
    refine ev_if_eq 25 dX3_findLeast_16 (by decide) (fun c16 => absurd c16 (bI_n.mpr rfl)) (fun c16 => ?_)
    refine ev_aload_n dX3_findLeast_19 rfl ?_
    refine ev_iconst 0 dX3_findLeast_20 (by decide) ?_
    refine ev_iconst 0 dX3_findLeast_21 (by decide) ?_
    refine cVv2 dX3_findLeast_22 VX3_103 ⟨_, rfl⟩ rfl rfl rfl (hU) ?_
    rintro σ3 ⟨b', c', g1, g2⟩
    obtain ⟨e1, -⟩ := g1.1 rfl
    have e2 : b' = bsO β m mv := e1
    refine (fl_end (mv := mv) g2.2.2.2.2.2.2 g2.2.2.2.1).mono ?_
    rintro _ _ σ4 ⟨rfl, x, rfl, rfl, rfl⟩
    rw [e2] at g2
    refine Ri.mk ⟨g2.2.2.2.2.2.2, by rw [e2], fr _ (fun c q1 q2 => g2.1.1 c (by omega))⟩
def cuP (σ β : ai_M) (m l : Nat) (r : Int32) (σ1 : ai_M) : Prop := r = nI (min l (gvA β (mS m)).length) ∧ ∀ c, c ≠ 14 → (c < 15 ∨ 20 < c) → c ≠ 27 → c ≠ 28 → σ1 c = σ c
theorem t_countUpTo (hw : WF β) (hs : SS σ β m) (hk : KP σ β mv) (e11 : σ 14 11 = lsN β m (4 * nW β)) (e12 : σ 14 12 = bI (enB β m (nW β) = true)) {l : Nat} (hl : l ≤ 100000) (hl0 : l ≠ 0) : ev mX3_countUpTo (d + 28) 0 [some (.ref 14), some (.int (nI l))] [] (LY L) σ 0 0 (Ri (LY L) (cuP σ β m l)) := by
  have h4 := hw.1.2.2.2.2.2.2.2.2
  refine ev_aload_n dX3_countUpTo_0 rfl ?_
  refine ev_iload_n dX3_countUpTo_1 rfl ?_
  refine cVv1 dX3_countUpTo_2 VX3_99 ⟨_, rfl⟩ rfl rfl (t_cbegin (d := d + 24) hw hs hk l) ?_
  intro σ2 hb
  have ha := bg_AM (σ2 := σ2) hw hl hb e11 (fun _ _ => rfl)
  have hg := bg_GI (σ2 := σ2) hb (fun _ _ => rfl) (fun z => absurd z hl0)
  have e12' : σ2 14 12 = bI (enB β m (nW β) = true) := by rw [hb.2.2.2.2.2.2.2.2.2.1 12 (by decide)]; exact e12
  refine ev_aload_n dX3_countUpTo_5 rfl ?_
  refine ev_getI dX3_countUpTo_6 fX3_60 ⟨_, rfl, rfl⟩ ?_
  rw [e12']
  cases hen : enB β m (nW β) with
  | false =>
    have hnil := en_nil hen
    refine ev_if_eq 18 dX3_countUpTo_9 (by decide) (fun c9 => ?_) (fun c9 => absurd (bI_0.mpr (by decide)) c9)
    refine ev_aload_n dX3_countUpTo_18 rfl ?_
    refine ev_getI dX3_countUpTo_19 fX3_113 ⟨_, rfl, rfl⟩ ?_
    rw [hg.2.2.2.2.1]
    refine ev_iload_n dX3_countUpTo_22 rfl ?_
    refine ev_min dX3_countUpTo_23 maX3_116 (Nat.le_of_ble_eq_true rfl) ?_
    rw [min_nI (by omega) (by omega)]
    refine ev_ireturn dX3_countUpTo_26 rfl rfl rfl ?_
    exact Ri.mk ⟨by rw [hnil, List.length_nil, Nat.min_comm], fun c q1 q2 q3 q4 => hb.2.2.2.2.2.2.2.2.2.2 c q1 (by omega) q3 q4⟩
  | true =>
    have hU := gU (L := L) hw ha (nW β) 0 (by omega) (d + 27) (by omega) [] rfl none 0 σ2 hg (fun z => by omega) (by omega) (fun _ => (by decide : 0 < 1000000))
    rw [show wtP β mv (plM β m) [] = 0 from rfl] at hU
    refine ev_if_eq 18 dX3_countUpTo_9 (by decide) (fun c9 => absurd c9 (bI_n.mpr rfl)) (fun c9 => ?_)
    refine ev_aload_n dX3_countUpTo_12 rfl ?_
    refine ev_iconst 0 dX3_countUpTo_13 (by decide) ?_
    refine ev_iconst 0 dX3_countUpTo_14 (by decide) ?_
    refine cVv2 dX3_countUpTo_15 VX3_103 ⟨_, rfl⟩ rfl rfl rfl (hU) ?_
    rintro σ3 ⟨b', c', g1, g2⟩
    obtain ⟨-, q1, q2, q3, q4⟩ := g1.2 hl0
    refine ev_aload_n dX3_countUpTo_18 rfl ?_
    refine ev_getI dX3_countUpTo_19 fX3_113 ⟨_, rfl, rfl⟩ ?_
    rw [g2.2.2.2.2.1]
    refine ev_iload_n dX3_countUpTo_22 rfl ?_
    refine ev_min dX3_countUpTo_23 maX3_116 (Nat.le_of_ble_eq_true rfl) ?_
    rw [min_nI (by omega) (by omega)]
    refine ev_ireturn dX3_countUpTo_26 rfl rfl rfl ?_
    refine Ri.mk ⟨?_, fun c z1 z2 z3 z4 => by rw [g2.1.1 c (by omega)]; exact hb.2.2.2.2.2.2.2.2.2.2 c z1 (by omega) z3 z4⟩
    rw [show gon β (mS m) [] = gvA β (mS m) from rfl] at q2 q3
    congr 1
    by_cases z : c' < l
    · have := q3 z; omega
    · omega
end FL
