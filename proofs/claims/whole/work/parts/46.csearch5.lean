theorem cnt_le (p : Nat → Bool) : ∀ n, cnt p n ≤ n
  | 0 => Nat.le_refl _
  | n + 1 => by unfold cnt; have := cnt_le p n; split <;> omega
theorem cnt_cong {p q : Nat → Bool} : ∀ {n : Nat}, (∀ i, i < n → p i = q i) → cnt p n = cnt q n
  | 0, _ => rfl
  | n + 1, h => by unfold cnt; rw [h n (by omega), cnt_cong (fun i hi => h i (by omega))]
theorem cnt_cut (p : Nat → Bool) (k : Nat) : ∀ n, k ≤ n → cnt (fun i => decide (i < k) && p i) n = cnt p k
  | 0, h => by obtain rfl : k = 0 := by omega
               rfl
  | n + 1, h => by
    rcases Nat.lt_or_ge n k with q | q
    · obtain rfl : k = n + 1 := by omega
      exact cnt_cong (fun i hi => by simp [hi])
    · have e : (decide (n < k) && p n) = false := by simp; intro z; omega
      rw [cnt, e, cnt_cut p k n q]
      simp
theorem flat_cnt (p : Nat → Bool) (g : Nat → List Nat) : ∀ n, ((List.range n).flatMap (fun v => if p v then [g v] else [])).length = cnt p n
  | 0 => rfl
  | n + 1 => by
    rw [List.range_succ, List.flatMap_append, List.length_append, flat_cnt p g n, List.flatMap_singleton, cnt]
    by_cases h : p n
    · rw [if_pos h, if_pos h, List.length_singleton]; omega
    · rw [if_neg h, if_neg h, List.length_nil]; omega
section CS5
variable {σ0 β σ : ai_M} {d L m l c : Nat} {mv : Bool} {vs : List Nat} {b : Option (List Nat)}
theorem gon_last (h16 : nF β ≤ 16) (hl : vs.length + 1 = (plM β m).length) (hlim : lim β (plM β m) vs.length = nF β) : (gon β (mS m) vs).length = cnt (fun f => decide (f < nF β) && fit β (plM β m) vs f) 16 := by
  rw [cnt_cut _ _ _ h16]
  unfold gon
  rw [show (pls β (mS m)).length - vs.length = 0 + 1 by unfold plM at hl; omega, sub, hlim]
  exact flat_cnt _ (fun v => vs ++ [v]) _
theorem t_wishedFrom (hw : WF β) (hs : SS σ β m) {w r n : Nat} (hlt : w < nW β) (hm : m.testBit w = true) (hr : r + n = 4) : ev mX3_wishedFrom d 0 [some (.ref 14), some (.int (nI w)), some (.int (nI r)), none] [] (LY L) σ 0 0 (Rp (LY L) σ (nI (nxR (rol β w) r n))) := by
  have h4 := hw.1.2.2.2.2.2.2.2.2
  have e24 := hs.2.2.2.1 w hlt
  rw [if_pos hm] at e24
  obtain ⟨r1, r2, -⟩ := rolN hw hlt
  refine ev_iload_n dX3_wishedFrom_0 rfl ?_
  refine ev_istore_n dX3_wishedFrom_1 (by decide) ?_
  exact wf_loop (R := (β 42 w).toNatClampNeg) (by omega) (by omega) (e24.trans r1) n r hr
theorem t_over {l c : Nat} (e17 : σ 14 17 = nI l) (e16 : σ 14 16 = nI c) (hl : l < 2 ^ 31) (hc : c < 2 ^ 31) : ev mX3_isOver d 0 [some (.ref 14)] [] (LY L) σ 0 0 (Rp (LY L) σ (bI (l ≠ 0 ∧ l ≤ c))) := by
  have := t_isOver (σ := σ) (d := d) (L := L)
  rw [e17, e16, bI_congr (show (0 < nI l ∧ nI l ≤ nI c) ↔ (l ≠ 0 ∧ l ≤ c) by rw [show (0 : Int32) = nI 0 from rfl, nI_ltI (by decide) hl, nI_leI hl hc]; omega)] at this
  exact this
/-- what a piece of the search comes to -/
def Pst (σ0 β : ai_M) (m : Nat) (mv : Bool) (l : Nat) (vs : List Nat) (b : Option (List Nat)) (c : Nat) (X : List (List Nat)) (σ' : ai_M) : Prop := ∃ b' c', Gone (wtP β mv (plM β m)) l b c X b' c' ∧ GI σ0 β m mv l vs b' c' σ'
theorem t_reach (hw : WF β) (ha : AM σ0 β m mv l) (h : GI σ0 β m mv l vs b c σ) (hl : vs.length = (plM β m).length) (hb : wtP β mv (plM β m) vs < lst β mv m b) (hc : l ≠ 0 → c < l) :
    ev mX3_reach (d + 2) 0 [some (.ref 14), some (.int (nI (wtP β mv (plM β m) vs)))] [] (LY L) σ 0 0 (Rv (LY L) (Pst σ0 β m mv l vs b c [vs])) := by
  obtain ⟨h1, h2, h3, h4, h5, h6, h7⟩ := id h
  have ha' := h1.AM ha
  have e17 := ha'.2.2.2.2.1
  have hl' := ha'.2.2.2.2.2
  by_cases q : l = 0
  · subst q
    have hbst : bst (wtP β mv (plM β m)) b [vs] = some vs := by
      cases b with
      | none => rfl
      | some y => exact if_pos hb
    refine ev_aload_n dX3_reach_0 rfl ?_
    refine ev_getI dX3_reach_1 fX3_121 ⟨_, rfl, rfl⟩ ?_
    rw [e17]
    refine ev_if_le 20 dX3_reach_4 (by decide) (fun c4 => ?_) (fun c4 => absurd (Int32.le_refl (0 : Int32)) c4)
    refine ev_aload_n dX3_reach_20 rfl ?_
    refine ev_iload_n dX3_reach_21 rfl ?_
    refine ev_putI dX3_reach_22 fX3_110 ⟨_, rfl, rfl⟩ rfl rfl ?_
    refine ev_aload_n dX3_reach_25 rfl ?_
    refine ev_getR dX3_reach_26 fX3_12 ⟨_, rfl, rfl⟩ ?_
    refine ev_aload_n dX3_reach_29 rfl ?_
    refine ev_getR dX3_reach_30 fX3_18 ⟨_, rfl, rfl⟩ ?_
    refine cVv1 dX3_reach_33 VX3_95 ⟨_, rfl⟩ rfl rfl (t_copy (g := 15) (u := 16) (f := 17) (g2 := 18) (u2 := 19) (f2 := 20) rfl rfl rfl rfl rfl rfl (by decide) (by decide) (by decide) (by decide) (by decide) (by decide) (by decide) (by decide) (by decide) (by decide) (by decide) (Or.inr h6.1)) ?_
    rintro σ1 ⟨k1, k2, k3, k4, k5⟩
    refine ev_ret dX3_reach_36 rfl rfl ?_
    have k14 := k5 14 (by decide) (by decide) (by decide)
    refine Rv.mk ⟨some vs, c, ⟨fun _ => ⟨hbst.symm, rfl⟩, fun z => absurd rfl z⟩, ⟨fun j z => ?_, fun j z => ?_⟩, ?_, ?_, ?_, ?_, ?_, rfl, hl, ?_, ?_, fun w hw4 => ?_, fun k hk => ?_⟩
    · rw [k5 j (by omega) (by omega) (by omega), ai_up, if_neg (by omega)]; exact h1.1 j z
    · rw [k14, ai_up, if_pos rfl, upd, if_neg (by omega)]; exact h1.2 j z
    · rw [k14]; exact h2
    · rw [k14]; exact h3
    · rw [k14]; rfl
    · rw [k14]; exact h5
    · refine ⟨?_, ?_, ?_, ?_, ?_, ?_⟩
      · rw [k5 18 (by decide) (by decide) (by decide)]; exact h6.1
      · rw [k5 18 (by decide) (by decide) (by decide)]; exact h6.2.1
      · rw [k5 19 (by decide) (by decide) (by decide)]; exact h6.2.2.1
      · rw [k5 20 (by decide) (by decide) (by decide)]; exact h6.2.2.2.1
      · rw [k5 19 (by decide) (by decide) (by decide)]; exact h6.2.2.2.2.1
      · rw [k5 20 (by decide) (by decide) (by decide)]; exact h6.2.2.2.2.2
    · rw [k1]; exact h6.1
    · rw [k2]; exact h6.2.1
    · rw [k3 w hw4]; exact h6.u hl hw4
    · rw [k4 k hk]; exact h6.f hl hk
  · have hb0 := h7.none q
    have hcl := hc q
    refine ev_aload_n dX3_reach_0 rfl ?_
    refine ev_getI dX3_reach_1 fX3_121 ⟨_, rfl, rfl⟩ ?_
    rw [e17]
    refine ev_if_le 20 dX3_reach_4 (by decide) (fun c4 => absurd c4 (by rw [show (0 : Int32) = nI 0 from rfl, nI_leI (by omega) (by decide)]; omega)) (fun c4 => ?_)
    refine ev_aload_n dX3_reach_7 rfl ?_
    refine ev_dup dX3_reach_8 rfl ?_
    refine ev_getI dX3_reach_9 fX3_113 ⟨_, rfl, rfl⟩ ?_
    rw [h5]
    refine ev_iconst 1 dX3_reach_12 (by decide) ?_
    refine ev_iadd dX3_reach_13 ?_
    rw [show nI c + 1 = nI (c + 1) from nI_add c 1]
    refine ev_putI dX3_reach_14 fX3_113 ⟨_, rfl, rfl⟩ rfl rfl ?_
    refine ev_goto 36 dX3_reach_17 (by decide) ?_
    refine ev_ret dX3_reach_36 rfl rfl ?_
    refine Rv.mk ⟨b, c + 1, ⟨fun z => absurd z q, fun _ => ⟨rfl, by omega, Nat.le_refl _, fun _ => rfl, by omega⟩⟩, h1.up14 (by decide) (by decide), h2, h3, h4, rfl, h6, ?_⟩
    subst hb0
    exact h7
end CS5
