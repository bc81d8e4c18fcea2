/-! The book β: a memory in the reference's own places (35: 0 feet, 2 units, 4 uses, 8 wishes, 14 isHeld; 36 volt, 37 kind, 38 useFoot, 39 useUnit, 40 useRole, 41 wKind, 42 wRoles, 43 wVolt, 44 wPlace, 45 fixed, 46 handUnit, 47 handFoot). WF: what always holds of it; RC: the class's cells hold it; RM: the reference's cells hold it. -/
theorem c1n : (1 : Int32).toInt = 1 := rfl
theorem c2n : (2 : Int32).toInt = 2 := rfl
theorem c3n : (3 : Int32).toInt = 3 := rfl
theorem c10n : (10 : Int32).toInt = 10 := rfl
theorem c13n : (13 : Int32).toInt = 13 := rfl
theorem c14n : (14 : Int32).toInt = 14 := rfl
theorem c15n : (15 : Int32).toInt = 15 := rfl
theorem c16n : (16 : Int32).toInt = 16 := rfl
theorem cm1n : (-1 : Int32).toInt = -1 := rfl
def nF (β : ai_M) : Nat := (β 35 0).toNatClampNeg
def nU (β : ai_M) : Nat := (β 35 2).toNatClampNeg
def nM (β : ai_M) : Nat := (β 35 4).toNatClampNeg
def nW (β : ai_M) : Nat := (β 35 8).toNatClampNeg
/-- -6 or a number below n -/
def opt (x : Int32) (n : Nat) : Prop := x = -6 ∨ ∃ f, f < n ∧ x = nI f
def canB (β : ai_M) (f u r : Nat) : Bool := (List.range (nM β)).any (fun i => β 38 i = nI f && β 39 i = nI u && β 40 i = nI r)
def wfN (β : ai_M) : Prop := β 35 0 = nI (nF β) ∧ 4 ≤ nF β ∧ nF β ≤ 16 ∧ β 35 2 = nI (nU β) ∧ nU β ≤ 6 ∧ β 35 4 = nI (nM β) ∧ nM β ≤ 30 ∧ β 35 8 = nI (nW β) ∧ nW β ≤ 4
def wfU (β : ai_M) : Prop := ∀ i, i < nM β → ∃ f u r, f < nF β ∧ u < nU β ∧ r < 4 ∧ β 38 i = nI f ∧ β 39 i = nI u ∧ β 40 i = nI r
def wfW (β : ai_M) : Prop := ∀ i, i < nW β → (∃ R, 1 ≤ R ∧ R ≤ 15 ∧ β 42 i = nI R) ∧ ∃ p, p < nF β ∧ β 44 i = nI p
def wfX (β : ai_M) : Prop := ∀ k, k < 4 * nW β → opt (β 45 k) (nF β)
/-- the hand gives h wishes -/
def wfH (β : ai_M) : Prop := ∃ h, h ≤ 4 ∧ (∀ w, w < h → ∃ u, u < nU β ∧ β 46 w = nI u) ∧ (∀ w, h ≤ w → w < 4 → β 46 w = -6) ∧ (∀ w v, w < h → v < h → β 46 w = β 46 v → w = v) ∧ (∀ k, k < 16 → opt (β 47 k) (nF β)) ∧ (∀ k, 4 * h ≤ k → k < 16 → β 47 k = -6) ∧ (∀ j k, j < 16 → k < 16 → β 47 j = β 47 k → β 47 j ≠ -6 → j = k) ∧ ((β 35 14 = 0 ∧ h = 0) ∨ β 35 14 = 1)
def WF (β : ai_M) : Prop := wfN β ∧ wfU β ∧ wfW β ∧ wfX β ∧ wfH β
/-- THE HAND's number of wishes -/
def hN (β : ai_M) : Nat := cnt (fun w => decide (β 46 w ≠ -6)) 4
def rcN (σ β : ai_M) : Prop := σ 3 0 = β 35 0 ∧ σ 3 1 = β 35 2 ∧ σ 3 2 = β 35 4 ∧ σ 8 0 = β 35 8
def rcV (σ β : ai_M) : Prop := ∀ i, i < 16 → σ 4 i = β 36 i
def rcK (σ β : ai_M) : Prop := ∀ i, i < nU β → σ 5 i = β 37 i
def rcU (σ β : ai_M) : Prop := ∀ i, i < nM β → σ 6 (3 * i) = β 38 i ∧ σ 6 (3 * i + 1) = β 39 i ∧ σ 6 (3 * i + 2) = β 40 i
def rcA (σ β : ai_M) : Prop := ∀ u r, u < 6 → r < 4 → σ 7 (4 * u + r) = nI (mk (fun f => canB β f u r) 16)
def rcW (σ β : ai_M) : Prop := ∀ i, i < nW β → σ 9 i = β 41 i ∧ σ 10 i = β 42 i ∧ σ 11 i = β 43 i ∧ σ 12 i = β 44 i
def rcX (σ β : ai_M) : Prop := ∀ k, k < 4 * nW β → σ 13 k = β 45 k
def rcH (σ β : ai_M) : Prop := σ 29 0 = β 35 14 ∧ σ 29 1 = nI (hN β) ∧ (∀ i, i < 4 → σ 30 i = β 46 i) ∧ ∀ k, k < 16 → σ 31 k = β 47 k
def RB (σ β : ai_M) : Prop := rcN σ β ∧ rcV σ β ∧ rcK σ β ∧ rcU σ β ∧ rcA σ β ∧ rcW σ β ∧ rcX σ β ∧ rcH σ β
/-- the cells that the class leaves alone -/
def FrC (σ σ' : ai_M) : Prop := ∀ c, (c < 2 ∨ 35 ≤ c) → σ' c = σ c
def FrM (σ σ' : ai_M) : Prop := ∀ c, c < 35 → σ' c = σ c
theorem FrC.rf {σ : ai_M} : FrC σ σ := fun _ _ => rfl
theorem FrM.rf {σ : ai_M} : FrM σ σ := fun _ _ => rfl
theorem FrC.up {σ σ' : ai_M} {c k : Nat} {x : Int32} (h : FrC σ σ') (h1 : 2 ≤ c) (h2 : c < 35) : FrC σ (ai_up σ' c k x) := fun j hj => by rw [ai_up, if_neg (by omega)]; exact h j hj
theorem FrC.st {σ σ' : ai_M} {c : Nat} {f : Nat → Int32} (h : FrC σ σ') (h1 : 2 ≤ c) (h2 : c < 35) : FrC σ (ai_set σ' c f) := fun j hj => by rw [ai_set, if_neg (by omega)]; exact h j hj
theorem FrC.tr {σ σ' σ'' : ai_M} (h : FrC σ σ') (h2 : FrC σ' σ'') : FrC σ σ'' := fun j hj => (h2 j hj).trans (h j hj)
theorem FrM.up {σ σ' : ai_M} {c k : Nat} {x : Int32} (h : FrM σ σ') (h1 : 35 ≤ c) : FrM σ (ai_up σ' c k x) := fun j hj => by rw [ai_up, if_neg (by omega)]; exact h j hj
theorem FrM.st {σ σ' : ai_M} {c : Nat} {f : Nat → Int32} (h : FrM σ σ') (h1 : 35 ≤ c) : FrM σ (ai_set σ' c f) := fun j hj => by rw [ai_set, if_neg (by omega)]; exact h j hj
theorem FrM.tr {σ σ' σ'' : ai_M} (h : FrM σ σ') (h2 : FrM σ' σ'') : FrM σ σ'' := fun j hj => (h2 j hj).trans (h j hj)
/-- the cache is cold, or holds what Bst says -/
def rcC (Bst : ai_M → Int32 → (Nat → Int32) → (Nat → Int32) → Prop) (σ β : ai_M) : Prop := σ 2 6 = 0 ∨ (σ 2 6 = 1 ∧ Bst β (σ 2 5) (σ 33) (σ 34) ∧ (σ 2 5 = -6 ∨ (σ 32 0 = 1 ∧ σ 32 1 = β 35 8)))
/-- the reference's cells hold β -/
def RM (σ β : ai_M) : Prop := σ 35 0 = β 35 0 ∧ σ 35 2 = β 35 2 ∧ σ 35 4 = β 35 4 ∧ σ 35 8 = β 35 8 ∧ σ 35 14 = β 35 14 ∧ (∀ i, i < 16 → σ 36 i = β 36 i) ∧ (∀ i, i < 6 → σ 37 i = β 37 i) ∧ (∀ i, i < 30 → σ 38 i = β 38 i ∧ σ 39 i = β 39 i ∧ σ 40 i = β 40 i) ∧ (∀ i, i < 4 → σ 41 i = β 41 i ∧ σ 42 i = β 42 i ∧ σ 43 i = β 43 i ∧ σ 44 i = β 44 i) ∧ (∀ k, k < 16 → σ 45 k = β 45 k) ∧ (∀ i, i < 4 → σ 46 i = β 46 i) ∧ ∀ k, k < 16 → σ 47 k = β 47 k
/-- what a call answers and what becomes of the book -/
def PC (Bst : ai_M → Int32 → (Nat → Int32) → (Nat → Int32) → Prop) (sp : Int32 × ai_M) (σ : ai_M) (r : Int32) (σ' : ai_M) : Prop := r = sp.1 ∧ RB σ' sp.2 ∧ rcC Bst σ' sp.2 ∧ FrC σ σ'
def PM (sp : Int32 × ai_M) (σ : ai_M) (r : Int32) (σ' : ai_M) : Prop := r = sp.1 ∧ RM σ' sp.2 ∧ FrM σ σ'
-- the book's own calls
abbrev inn (x a b : Int32) : Prop := a ≤ x ∧ x ≤ b
def sp_volt (β : ai_M) (f v : Int32) : Int32 × ai_M := if ¬ inR f (β 35 0).toInt then (-1, β) else if ¬ inn v 1 4 then (-2, β) else (β 36 f.toNatClampNeg, ai_up β 36 f.toNatClampNeg v)
def sp_unit (β : ai_M) (k : Int32) : Int32 × ai_M := if ¬ inR k 4 then (-2, β) else if nU β = 6 then (-4, β) else (nI (nU β), ai_up (ai_up β 37 (nU β) k) 35 2 (nI (nU β + 1)))
def sp_kind (β : ai_M) (u : Int32) : Int32 × ai_M := if ¬ inR u (β 35 2).toInt then (-1, β) else (β 37 u.toNatClampNeg, β)
def sp_use (β : ai_M) (f u r : Int32) : Int32 × ai_M := if ¬ (inR f (β 35 0).toInt ∧ inR u (β 35 2).toInt) then (-1, β) else if ¬ inR r 4 then (-2, β) else if nM β = 30 then (-4, β) else if canB β f.toNatClampNeg u.toNatClampNeg r.toNatClampNeg then (-5, β) else (nI (nM β), ai_up (ai_up (ai_up (ai_up β 38 (nM β) f) 39 (nM β) u) 40 (nM β) r) 35 4 (nI (nM β + 1)))
def sp_about (β : ai_M) (k w : Int32) : Int32 × ai_M := if ¬ inR k (β 35 4).toInt then (-1, β) else (if w = 0 then β 38 k.toNatClampNeg else if w = 1 then β 39 k.toNatClampNeg else if w = 2 then β 40 k.toNatClampNeg else -2, β)
def sp_wish (β : ai_M) (k R v p : Int32) : Int32 × ai_M := if ¬ inR p (β 35 0).toInt then (-1, β) else if ¬ (inR k 4 ∧ inn R 1 15 ∧ inn v 0 4) then (-2, β) else if nW β = 4 then (-4, β) else (nI (nW β), ai_up (ai_set (ai_up (ai_up (ai_up (ai_up β 41 (nW β) k) 42 (nW β) R) 43 (nW β) v) 44 (nW β) p) 45 (fun j => if 4 * nW β ≤ j ∧ j < 4 * nW β + 4 then -6 else β 45 j)) 35 8 (nI (nW β + 1)))
def rolB (β : ai_M) (w : Nat) (r : Int32) : Prop := inR r 4 ∧ ((β 42 w).toNatClampNeg.testBit r.toNatClampNeg) = true
def sp_wished (β : ai_M) (w q : Int32) : Int32 × ai_M := if ¬ inR w (β 35 8).toInt then (-1, β) else (if q = 0 then β 41 w.toNatClampNeg else if q = 1 then β 42 w.toNatClampNeg else if q = 2 then β 43 w.toNatClampNeg else if q = 3 then β 44 w.toNatClampNeg else if inn q 10 13 then β 45 (4 * w.toNatClampNeg + (q.toNatClampNeg - 10)) else -2, β)
def sp_fix (β : ai_M) (w r f : Int32) : Int32 × ai_M := if ¬ (inR w (β 35 8).toInt ∧ (f = -1 ∨ inR f (β 35 0).toInt)) then (-1, β) else if ¬ (inR r 4 ∧ (β 42 w.toNatClampNeg).toNatClampNeg.testBit r.toNatClampNeg = true) then (-2, β) else (β 45 (4 * w.toNatClampNeg + r.toNatClampNeg), ai_up β 45 (4 * w.toNatClampNeg + r.toNatClampNeg) (if f = -1 then -6 else f))
def sp_drop (β : ai_M) : Int32 × ai_M := if nW β = 0 then (-1, β) else (nI (nW β - 1), ai_up β 35 8 (nI (nW β - 1)))
def sp_held (β : ai_M) (w r : Int32) : Int32 × ai_M := if ¬ inR w 4 then (-1, β) else if ¬ inn r (-1) 3 then (-2, β) else (if r = -1 then β 46 w.toNatClampNeg else β 47 (4 * w.toNatClampNeg + r.toNatClampNeg), β)
def sp_told (β : ai_M) (q : Int32) : Int32 × ai_M := (if q = 0 then β 35 0 else if q = 1 then β 35 2 else if q = 2 then β 35 4 else if q = 3 then β 35 8 else if q = 4 then nI (hN β) else -2, β)
def emB (β : ai_M) : ai_M := ai_set (ai_set (ai_up β 35 14 0) 46 (fun _ => -6)) 47 (fun _ => -6)
def sp_feet (β : ai_M) (n : Int32) : Int32 × ai_M := if ¬ inn n 4 16 then (-2, β) else (β 35 0, emB (ai_up (ai_up (ai_up (ai_set (ai_up β 35 0 n) 36 (fun _ => 1)) 35 2 0) 35 4 0) 35 8 0))
theorem sw4 (x : Int32) : x = 0 ∨ x = 1 ∨ x = 2 ∨ x = 3 ∨ (x.toInt < 0 ∨ 3 < x.toInt) := by
  simp only [← Int32.toInt_inj, c0, c1n, c2n, c3n]; omega
theorem sw5 (x : Int32) : x = 0 ∨ x = 1 ∨ x = 2 ∨ x = 3 ∨ x = 4 ∨ (x.toInt < 0 ∨ 4 < x.toInt) := by
  simp only [← Int32.toInt_inj, c0, c1n, c2n, c3n, c4]; omega
