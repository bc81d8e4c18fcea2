/-! the class's search: what holds while it goes -/
abbrev mS (m : Nat) : Nat → Bool := fun i => m.testBit i
abbrev plM (β : ai_M) (m : Nat) : PLt := pls β (mS m)
def BD (σ β : ai_M) (m : Nat) (mv : Bool) : Prop := (∀ w, w ≤ nW β → σ 28 w = nI (wsB β mv (mS m) (nW β - w))) ∧ ∀ w u r, w < nW β → m.testBit w = true → u < nU β → r ≤ 4 → σ 27 (30 * w + 5 * u + r) = nI (rsB β mv w u (4 - r))
def LSl (σ β : ai_M) (m : Nat) : Prop := ∀ w r, w < nW β → r < 4 → m.testBit w = true → rol β w r = true → (σ 14 11 = nI (4 * w + r) ↔ lnR β (mS m) w r + 1 = (plM β m).length)
def AM (σ β : ai_M) (m : Nat) (mv : Bool) (l : Nat) : Prop := SS σ β m ∧ KP σ β mv ∧ BD σ β m mv ∧ LSl σ β m ∧ σ 14 17 = nI l ∧ l ≤ 100000
/-- what the search leaves alone -/
def GF (σ0 σ : ai_M) : Prop := (∀ c, (c < 14 ∨ 20 < c) → σ c = σ0 c) ∧ ∀ k, (k < 13 ∨ k = 17) → σ 14 k = σ0 14 k
theorem GF.rf {σ : ai_M} : GF σ σ := ⟨fun _ _ => rfl, fun _ _ => rfl⟩
theorem GF.tr {σ σ1 σ2 : ai_M} (h : GF σ σ1) (h2 : GF σ1 σ2) : GF σ σ2 := ⟨fun c q => (h2.1 c q).trans (h.1 c q), fun k q => (h2.2 k q).trans (h.2 k q)⟩
theorem GF.up {σ0 σ : ai_M} {c k : Nat} {x : Int32} (h : GF σ0 σ) (h1 : 15 ≤ c) (h2 : c ≤ 20) : GF σ0 (ai_up σ c k x) := ⟨fun j q => by rw [ai_up, if_neg (by omega)]; exact h.1 j q, fun j q => by rw [ai_up, if_neg (by omega)]; exact h.2 j q⟩
theorem GF.up14 {σ0 σ : ai_M} {k : Nat} {x : Int32} (h : GF σ0 σ) (h1 : 13 ≤ k) (h2 : k ≤ 16) : GF σ0 (ai_up σ 14 k x) := ⟨fun j q => by rw [ai_up, if_neg (by omega)]; exact h.1 j q, fun j q => by rw [ai_up, if_pos rfl, upd, if_neg (by omega)]; exact h.2 j q⟩
theorem GF.AM {σ0 σ β : ai_M} {m l : Nat} {mv : Bool} (h : GF σ0 σ) (ha : AM σ0 β m mv l) : AM σ β m mv l := by
  obtain ⟨⟨s1, s2, s3, s4, s5⟩, k, ⟨b1, b2⟩, ls, e17, hl⟩ := ha
  refine ⟨⟨by rw [h.2 3 (by omega)]; exact s1, by rw [h.2 4 (by omega)]; exact s2, by rw [h.2 5 (by omega)]; exact s3, by rw [h.1 24 (by omega)]; exact s4, by rw [h.1 25 (by omega), h.1 26 (by omega)]; exact s5⟩, ?_, ⟨by rw [h.1 28 (by omega)]; exact b1, by rw [h.1 27 (by omega)]; exact b2⟩, ?_, by rw [h.2 17 (by omega)]; exact e17, hl⟩
  · unfold KP; rw [h.1 21 (by omega), h.1 22 (by omega), h.1 23 (by omega)]; exact k
  · unfold LSl; rw [h.2 11 (by omega)]; exact ls
def lst (β : ai_M) (mv : Bool) (m : Nat) : Option (List Nat) → Nat
  | none => 1000000
  | some x => wtP β mv (plM β m) x
def MKV (σ β : ai_M) (m : Nat) (vs : List Nat) : Prop := σ 18 0 = 1 ∧ σ 18 1 = nI (nW β) ∧ (∀ (p w : Nat), (plM β m)[p]? = some (w, none) → p < vs.length → σ 19 w = nI (vs.getD p 0)) ∧ (∀ (p w r : Nat), (plM β m)[p]? = some (w, some r) → p < vs.length → σ 20 (4 * w + r) = nI (vs.getD p 0)) ∧ (∀ (w : Nat), w < 4 → (∀ (p : Nat), (plM β m)[p]? ≠ some (w, none)) → σ 19 w = -6) ∧ ∀ (k : Nat), k < 16 → (∀ (p w r : Nat), (plM β m)[p]? = some (w, some r) → k ≠ 4 * w + r) → σ 20 k = -6
def FND (σ β : ai_M) (m l : Nat) : Option (List Nat) → Prop
  | none => l = 0 → σ 15 0 = 0
  | some x => l = 0 ∧ x.length = (plM β m).length ∧ σ 15 0 = 1 ∧ σ 15 1 = nI (nW β) ∧ (∀ w, w < 4 → σ 16 w = uOf (plM β m) x w) ∧ ∀ k, k < 16 → σ 17 k = fOf (plM β m) x k
def GI (σ0 β : ai_M) (m : Nat) (mv : Bool) (l : Nat) (vs : List Nat) (b : Option (List Nat)) (c : Nat) (σ : ai_M) : Prop :=
  GF σ0 σ ∧ σ 14 13 = nI (mk (tkB (plM β m) vs true) 16) ∧ σ 14 14 = nI (mk (tkB (plM β m) vs false) 16) ∧ σ 14 15 = nI (lst β mv m b) ∧ σ 14 16 = nI c ∧ MKV σ β m vs ∧ FND σ β m l b
/-- the givings l have been gone through -/
def Gone (wt : List Nat → Nat) (l : Nat) (b : Option (List Nat)) (c : Nat) (X : List (List Nat)) (b' : Option (List Nat)) (c' : Nat) : Prop := (l = 0 → b' = bst wt b X ∧ c' = c) ∧ (l ≠ 0 → b' = b ∧ c ≤ c' ∧ c' ≤ c + X.length ∧ (c' < l → c' = c + X.length) ∧ c' ≤ l + 16)
theorem Gone.nil {wt : List Nat → Nat} {l : Nat} {b : Option (List Nat)} {c : Nat} (hc : c ≤ l + 16) : Gone wt l b c [] b c := ⟨fun _ => ⟨rfl, rfl⟩, fun _ => ⟨rfl, Nat.le_refl c, Nat.le_refl _, fun _ => rfl, hc⟩⟩
theorem Gone.app {wt : List Nat → Nat} {l : Nat} {b b1 b2 : Option (List Nat)} {c c1 c2 : Nat} {X Y : List (List Nat)} (h1 : Gone wt l b c X b1 c1) (h2 : Gone wt l b1 c1 Y b2 c2) : Gone wt l b c (X ++ Y) b2 c2 := by
  refine ⟨fun q => ?_, fun q => ?_⟩
  · obtain ⟨rfl, rfl⟩ := h1.1 q
    obtain ⟨rfl, rfl⟩ := h2.1 q
    exact ⟨(bst_app _ _ _ _).symm, rfl⟩
  · obtain ⟨rfl, a1, a2, a3, a4⟩ := h1.2 q
    obtain ⟨rfl, b1, b2, b3, b4⟩ := h2.2 q
    rw [List.length_append]
    exact ⟨rfl, by omega, by omega, fun z => by have := b3 z; have := a3 (by omega); omega, b4⟩
theorem Gone.over {wt : List Nat → Nat} {l : Nat} {b : Option (List Nat)} {c : Nat} {X : List (List Nat)} (h0 : l ≠ 0) (h1 : l ≤ c) (hc : c ≤ l + 16) : Gone wt l b c X b c := ⟨fun q => absurd q h0, fun _ => ⟨rfl, Nat.le_refl c, Nat.le_add_right _ _, fun z => by omega, hc⟩⟩
theorem Gone.no {β : ai_M} {mv : Bool} {m l : Nat} {b : Option (List Nat)} {c : Nat} {X : List (List Nat)} (hb : l ≠ 0 → b = none) (h : ∀ x ∈ X, lst β mv m b ≤ wtP β mv (plM β m) x) (ht : ∀ x ∈ X, wtP β mv (plM β m) x < 1000000) (hc : c ≤ l + 16) : Gone (wtP β mv (plM β m)) l b c X b c := by
  cases b with
  | none =>
    have : X = [] := by
      cases X with
      | nil => rfl
      | cons x X =>
        have h1 : 1000000 ≤ wtP β mv (plM β m) x := h x List.mem_cons_self
        have h2 := ht x List.mem_cons_self
        omega
    subst this
    exact Gone.nil hc
  | some y =>
    refine ⟨fun _ => ⟨(bst_no h).symm, rfl⟩, fun q => ?_⟩
    have := hb q
    cases this
theorem Gone.le {wt : List Nat → Nat} {l : Nat} {b b1 : Option (List Nat)} {c c1 : Nat} {X : List (List Nat)} (h1 : Gone wt l b c X b1 c1) (hc : c ≤ l + 16) : c1 ≤ l + 16 := by
  by_cases q : l = 0
  · obtain ⟨-, rfl⟩ := h1.1 q; exact hc
  · exact (h1.2 q).2.2.2.2
theorem lst_lt {σ β : ai_M} {m l : Nat} {mv : Bool} {b : Option (List Nat)} (hw : WF β) (h : FND σ β m l b) : lst β mv m b ≤ 1000000 := by
  cases b with
  | none => exact Nat.le_refl _
  | some x =>
    have h1 := wtP_top (β := β) hw.1.2.2.1 mv (plM β m) x
    have h2 : (plM β m).length ≤ 20 := (pls_ok hw (mS m)).1
    have h3 := h.2.1
    show wtP β mv (plM β m) x ≤ 1000000
    omega
theorem FND.none {σ β : ai_M} {m l : Nat} {b : Option (List Nat)} (h : FND σ β m l b) (hl : l ≠ 0) : b = none := by
  cases b with
  | none => rfl
  | some x => exact absurd h.1 hl
-- what becomes of them
section GIL
variable {σ0 β σ : ai_M} {m l c : Nat} {mv : Bool} {vs : List Nat} {b : Option (List Nat)}
theorem GI.wt (hw : WF β) (hl : vs.length ≤ (plM β m).length) : wtP β mv (plM β m) vs ≤ 20320 := by
  have h1 := wtP_top (β := β) hw.1.2.2.1 mv (plM β m) vs
  have h2 : (plM β m).length ≤ 20 := (pls_ok hw (mS m)).1
  omega
theorem tk_set (pl : PLt) (b : Bool) (u : Nat) (h : isU pl vs.length = b) : nI (mk (fun i => tkB pl vs b i || i == u) 16) = nI (mk (tkB pl (vs ++ [u]) b) 16) := mkI_cong (fun i _ => by rw [tkB_S, h, beq_self_eq_true, Bool.true_and]; congr 1; exact BEq.comm)
theorem tk_keep (pl : PLt) (b : Bool) (u : Nat) (h : isU pl vs.length = !b) : nI (mk (tkB pl vs b) 16) = nI (mk (tkB pl (vs ++ [u]) b) 16) := mkI_cong (fun i _ => by rw [tkB_S, h]; cases b <;> simp)
theorem tk_clear (pl : PLt) (b : Bool) (u : Nat) (h : isU pl vs.length = b) (hn : tkB pl vs b u = false) : nI (mk (fun i => tkB pl (vs ++ [u]) b i && !(i == u)) 16) = nI (mk (tkB pl vs b) 16) := mkI_cong (fun i _ => by
  rw [tkB_S, h, beq_self_eq_true, Bool.true_and]
  by_cases q : i = u
  · subst q; rw [hn]; simp
  · rw [show (u == i) = false from beq_eq_false_iff_ne.mpr (Ne.symm q), show (i == u) = false from beq_eq_false_iff_ne.mpr q]; simp)
theorem GI.unit {w u : Nat} (h : GI σ0 β m mv l vs b c σ) (hpl : (plM β m)[vs.length]? = some (w, none)) :
    GI σ0 β m mv l (vs ++ [u]) b c (ai_up (ai_up σ 19 w (nI u)) 14 13 (nI (mk (fun i => tkB (plM β m) vs true i || i == u) 16))) := by
  obtain ⟨h1, h2, h3, h4, h5, ⟨k1, k2, k3, k4, k5, k6⟩, h7⟩ := h
  have iu : isU (plM β m) vs.length = true := (isU_iff hpl).mpr rfl
  refine ⟨(h1.up (by decide) (by decide)).up14 (by decide) (by decide), ?_, ?_, h4, h5, ⟨k1, k2, fun p w' hp hl => ?_, fun p w' r hp hl => ?_, fun w' hw' hno => ?_, k6⟩, ?_⟩
  · rw [← tk_set _ _ _ iu]; rfl
  · rw [← tk_keep _ _ _ (by rw [iu]; rfl)]; exact h3
  · show upd (σ 19) w (nI u) w' = _
    rw [List.length_append, List.length_singleton] at hl
    rcases Nat.lt_or_ge p vs.length with q | q
    · have hne : w' ≠ w := fun e => by subst e; have := pl_nodup hp hpl; omega
      rw [upd_ne hne, getD_snoc q]; exact k3 p w' hp q
    · obtain rfl : p = vs.length := by omega
      rw [hpl] at hp
      cases hp
      rw [upd_at, getD_last]
  · show σ 20 (4 * w' + r) = _
    rw [List.length_append, List.length_singleton] at hl
    rcases Nat.lt_or_ge p vs.length with q | q
    · rw [getD_snoc q]; exact k4 p w' r hp q
    · obtain rfl : p = vs.length := by omega
      rw [hpl] at hp
      cases hp
  · show upd (σ 19) w (nI u) w' = _
    rw [upd_ne (fun e => hno vs.length (by rw [hpl, e]))]
    exact k5 w' hw' hno
  · cases b with
    | none => exact h7
    | some x => exact h7
theorem GI.unitBack {w u : Nat} (h : GI σ0 β m mv l (vs ++ [u]) b c σ) (hpl : (plM β m)[vs.length]? = some (w, none)) (hn : tkB (plM β m) vs true u = false) :
    GI σ0 β m mv l vs b c (ai_up σ 14 13 (nI (mk (fun i => tkB (plM β m) (vs ++ [u]) true i && !(i == u)) 16))) := by
  obtain ⟨h1, h2, h3, h4, h5, ⟨k1, k2, k3, k4, k5, k6⟩, h7⟩ := h
  have iu : isU (plM β m) vs.length = true := (isU_iff hpl).mpr rfl
  refine ⟨h1.up14 (by decide) (by decide), ?_, ?_, h4, h5, ⟨k1, k2, fun p w' hp hl => ?_, fun p w' r hp hl => ?_, k5, k6⟩, ?_⟩
  · rw [← tk_clear _ _ u iu hn]; rfl
  · rw [tk_keep _ _ u (by rw [iu]; rfl)]; exact h3
  · have := k3 p w' hp (by rw [List.length_append]; omega)
    rw [getD_snoc hl] at this; exact this
  · have := k4 p w' r hp (by rw [List.length_append]; omega)
    rw [getD_snoc hl] at this; exact this
  · cases b with
    | none => exact h7
    | some x => exact h7
theorem GI.foot {w r f : Nat} (h : GI σ0 β m mv l vs b c σ) (hpl : (plM β m)[vs.length]? = some (w, some r)) (hr : r < 4) :
    GI σ0 β m mv l (vs ++ [f]) b c (ai_up (ai_up σ 20 (4 * w + r) (nI f)) 14 14 (nI (mk (fun i => tkB (plM β m) vs false i || i == f) 16))) := by
  obtain ⟨h1, h2, h3, h4, h5, ⟨k1, k2, k3, k4, k5, k6⟩, h7⟩ := h
  have iu : isU (plM β m) vs.length = false := by
    cases hq : isU (plM β m) vs.length with
    | false => rfl
    | true => have := (isU_iff hpl).mp hq; cases this
  refine ⟨(h1.up (by decide) (by decide)).up14 (by decide) (by decide), ?_, ?_, h4, h5, ⟨k1, k2, fun p w' hp hl => ?_, fun p w' r' hp hl => ?_, k5, fun k hk hno => ?_⟩, ?_⟩
  · rw [← tk_keep _ _ _ (by rw [iu]; rfl)]; exact h2
  · rw [← tk_set _ _ _ iu]; rfl
  · show σ 19 w' = _
    rw [List.length_append, List.length_singleton] at hl
    rcases Nat.lt_or_ge p vs.length with q | q
    · rw [getD_snoc q]; exact k3 p w' hp q
    · obtain rfl : p = vs.length := by omega
      rw [hpl] at hp
      cases hp
  · show upd (σ 20) (4 * w + r) (nI f) (4 * w' + r') = _
    rw [List.length_append, List.length_singleton] at hl
    rcases Nat.lt_or_ge p vs.length with q | q
    · have hr' : r' < 4 := by
        obtain ⟨-, -, z⟩ := pl_inv hp
        rcases z with ⟨z, -⟩ | ⟨r2, z, z2, -⟩
        · cases z
        · cases z; exact z2
      have hne : 4 * w' + r' ≠ 4 * w + r := fun e => by
        obtain ⟨rfl, rfl⟩ : w' = w ∧ r' = r := by omega
        have := pl_nodup hp hpl; omega
      rw [upd_ne hne, getD_snoc q]; exact k4 p w' r' hp q
    · obtain rfl : p = vs.length := by omega
      rw [hpl] at hp
      cases hp
      rw [upd_at, getD_last]
  · show upd (σ 20) (4 * w + r) (nI f) k = _
    rw [upd_ne (hno vs.length w r hpl)]
    exact k6 k hk hno
  · cases b with
    | none => exact h7
    | some x => exact h7
theorem GI.footBack {w r f : Nat} (h : GI σ0 β m mv l (vs ++ [f]) b c σ) (hpl : (plM β m)[vs.length]? = some (w, some r)) (hn : tkB (plM β m) vs false f = false) :
    GI σ0 β m mv l vs b c (ai_up σ 14 14 (nI (mk (fun i => tkB (plM β m) (vs ++ [f]) false i && !(i == f)) 16))) := by
  obtain ⟨h1, h2, h3, h4, h5, ⟨k1, k2, k3, k4, k5, k6⟩, h7⟩ := h
  have iu : isU (plM β m) vs.length = false := by
    cases hq : isU (plM β m) vs.length with
    | false => rfl
    | true => have := (isU_iff hpl).mp hq; cases this
  refine ⟨h1.up14 (by decide) (by decide), ?_, ?_, h4, h5, ⟨k1, k2, fun p w' hp hl => ?_, fun p w' r hp hl => ?_, k5, k6⟩, ?_⟩
  · rw [tk_keep _ _ f (by rw [iu]; rfl)]; exact h2
  · rw [← tk_clear _ _ f iu hn]; rfl
  · have := k3 p w' hp (by rw [List.length_append]; omega)
    rw [getD_snoc hl] at this; exact this
  · have := k4 p w' r hp (by rw [List.length_append]; omega)
    rw [getD_snoc hl] at this; exact this
  · cases b with
    | none => exact h7
    | some x => exact h7
theorem uR_at {x : List Nat} {p w : Nat} (hp : (plM β m)[p]? = some (w, none)) : ∀ n, p < n → uR (plM β m) x n w = nI (x.getD p 0)
  | 0, h => by omega
  | n + 1, h => by
    unfold uR
    rcases Nat.lt_or_ge p n with q | q
    · have ih := uR_at (x := x) hp n q
      split
      · rename_i w' e
        have hne : ¬ w = w' := fun z => by subst z; have := pl_nodup hp e; omega
        rw [if_neg hne]; exact ih
      · exact ih
    · obtain rfl : p = n := by omega
      rw [hp]
      exact if_pos rfl
theorem uR_no {x : List Nat} {w : Nat} (hp : ∀ (p : Nat), (plM β m)[p]? ≠ some (w, none)) : ∀ n, uR (plM β m) x n w = -6
  | 0 => rfl
  | n + 1 => by
    have ih := uR_no (x := x) hp n
    unfold uR
    split
    · rename_i w' e
      have hne : ¬ w = w' := fun z => by subst z; exact hp n e
      rw [if_neg hne]; exact ih
    · exact ih
theorem fR_at {x : List Nat} {p w r : Nat} (hp : (plM β m)[p]? = some (w, some r)) (hr : r < 4) : ∀ n, p < n → fR (plM β m) x n (4 * w + r) = nI (x.getD p 0)
  | 0, h => by omega
  | n + 1, h => by
    unfold fR
    rcases Nat.lt_or_ge p n with q | q
    · have ih := fR_at (x := x) hp hr n q
      split
      · rename_i w' r' e
        have hr' : r' < 4 := by
          obtain ⟨-, -, z⟩ := pl_inv e
          rcases z with ⟨z, -⟩ | ⟨r2, z, z2, -⟩
          · cases z
          · cases z; exact z2
        have hne : ¬ 4 * w + r = 4 * w' + r' := fun z => by
          obtain ⟨rfl, rfl⟩ : w' = w ∧ r' = r := by omega
          have := pl_nodup hp e; omega
        rw [if_neg hne]; exact ih
      · exact ih
    · obtain rfl : p = n := by omega
      rw [hp]
      exact if_pos rfl
theorem fR_no {x : List Nat} {k : Nat} (hp : ∀ (p w r : Nat), (plM β m)[p]? = some (w, some r) → k ≠ 4 * w + r) : ∀ n, fR (plM β m) x n k = -6
  | 0 => rfl
  | n + 1 => by
    have ih := fR_no (x := x) hp n
    unfold fR
    split
    · rename_i w' r' e
      rw [if_neg (hp n w' r' e)]; exact ih
    · exact ih
theorem MKV.u (h : MKV σ β m vs) (hl : vs.length = (plM β m).length) {w : Nat} (hw : w < 4) : σ 19 w = uOf (plM β m) vs w := by
  unfold uOf
  by_cases q : ∃ (p : Nat), (plM β m)[p]? = some (w, none)
  · obtain ⟨p, hp⟩ := q
    have hlt := (List.getElem?_eq_some_iff.mp hp).1
    rw [uR_at hp _ (by omega)]
    exact h.2.2.1 p w hp (by omega)
  · rw [uR_no (fun p z => q ⟨p, z⟩)]
    exact h.2.2.2.2.1 w hw (fun p z => q ⟨p, z⟩)
theorem MKV.f (h : MKV σ β m vs) (hl : vs.length = (plM β m).length) {k : Nat} (hk : k < 16) : σ 20 k = fOf (plM β m) vs k := by
  unfold fOf
  by_cases q : ∃ (p w r : Nat), (plM β m)[p]? = some (w, some r) ∧ k = 4 * w + r
  · obtain ⟨p, w, r, hp, rfl⟩ := q
    have hlt := (List.getElem?_eq_some_iff.mp hp).1
    have hr : r < 4 := by
      obtain ⟨-, -, z⟩ := pl_inv hp
      rcases z with ⟨z, -⟩ | ⟨r2, z, z2, -⟩
      · cases z
      · cases z; exact z2
    rw [fR_at hp hr _ (by omega)]
    exact h.2.2.2.1 p w r hp (by omega)
  · rw [fR_no (fun p w r z e => q ⟨p, w, r, z, e⟩)]
    exact h.2.2.2.2.2 k hk (fun p w r z e => q ⟨p, w, r, z, e⟩)
end GIL
