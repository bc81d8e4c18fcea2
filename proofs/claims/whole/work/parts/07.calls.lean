/-- an int comes back, the cells' kinds stay -/
def Ri (y : ai_L) (P : Int32 → ai_M → Prop) : Option Value → ai_L → ai_M → Prop := fun r y' σ' => y' = y ∧ ∃ x, r = some (.int x) ∧ P x σ'
def Rv (y : ai_L) (P : ai_M → Prop) : Option Value → ai_L → ai_M → Prop := fun r y' σ' => y' = y ∧ r = none ∧ P σ'
def Rp (y : ai_L) (σ : ai_M) (e : Int32) : Option Value → ai_L → ai_M → Prop := Ri y (fun x σ' => x = e ∧ σ' = σ)
theorem Ri.mk {y : ai_L} {P : Int32 → ai_M → Prop} {x : Int32} {σ' : ai_M} (h : P x σ') : Ri y P (some (.int x)) y σ' := ⟨rfl, x, rfl, h⟩
theorem Rv.mk {y : ai_L} {P : ai_M → Prop} {σ' : ai_M} (h : P σ') : Rv y P none y σ' := ⟨rfl, rfl, h⟩
theorem Rp.mk {y : ai_L} {σ : ai_M} {x e : Int32} (h : x = e) : Rp y σ e (some (.int x)) y σ := ⟨rfl, x, rfl, h, rfl⟩
def ai_LV (own : String) (idx : Nat) (μ' : ai_I) (n ci : Nat) : Prop := ai_Vi own idx μ' ∧ ai_ok μ' n ∧ (∃ T N, vwCl[ci]? = some (μ'.1.cls, T, N)) ∧ n + 1 ≤ μ'.2.2.1 ∧ μ'.2.2.2.2.1 = 0 ∧ μ'.2.2.2.2.2 = 0
def ai_LS (own : String) (idx : Nat) (μ' : ai_I) (n : Nat) : Prop := ai_Si own idx μ' ∧ ai_ok μ' n ∧ n ≤ μ'.2.2.1 ∧ μ'.2.2.2.2.1 = 0 ∧ μ'.2.2.2.2.2 = 0
def ai_LN (own : String) (idx : Nat) (μ' : ai_I) (n : Nat) : Prop := (∃ host, Cond.methodLinkNest own idx μ'.1 host ∈ ai_nest) ∧ Cond.static μ'.1 ∈ ai_W ∧ ai_ok μ' n ∧ n ≤ μ'.2.2.1 ∧ μ'.2.2.2.2.1 = 0 ∧ μ'.2.2.2.2.2 = 0
section CALLS
variable {μ μ' : ai_I} {d pc idx ci a : Nat} {ls : List (Option Value)} {st : List Value} {y : ai_L} {σ : ai_M} {nc ns : Nat} {Q : Option Value → ai_L → ai_M → Prop}
theorem cVi0 {P : Int32 → ai_M → Prop} (hd : decode μ.2.1 pc = .ok (.invokevirtual idx, 3)) (hl : ai_LV μ.1.cls idx μ' 0 ci) (hy : ∃ fs, y[a]? = some (.inr (ci, fs)))  (hr : Nat.ble (st.map fun v => v.category).sum 8 = true) (hcall : ev μ' d 0 (ai_en μ'.2.2.1 (.ref a :: [])) [] y σ 0 0 (Ri y P)) (kk : ∀ x σ', P x σ' → ev μ (d + 1) (pc + 3) ls (.int x :: st) y σ' nc ns Q) (hc1 : nc ≤ μ.2.2.2.2.1 := by first | exact Nat.le_refl _ | exact Nat.zero_le _ | decide) (hc2 : ns ≤ μ.2.2.2.2.2 := by first | exact Nat.le_refl _ | exact Nat.zero_le _ | decide) : ev μ (d + 1) pc ls (.ref a :: st) y σ nc ns Q := by
  obtain ⟨l1, l2, l3, l4, e1, e2⟩ := hl
  refine ev_callV (as := []) hd l2 l1 hy l3 rfl (fun v hv => absurd hv List.not_mem_nil) l4 (Nat.le_of_ble_eq_true hr) (by rw [e1]; exact hc1) (by rw [e2]; exact hc2) hcall ?_
  rintro r y' σ' ⟨rfl, x, rfl, hp⟩
  rw [e1, e2]
  exact kk x σ' hp
theorem cVv0 {P : ai_M → Prop} (hd : decode μ.2.1 pc = .ok (.invokevirtual idx, 3)) (hl : ai_LV μ.1.cls idx μ' 0 ci) (hy : ∃ fs, y[a]? = some (.inr (ci, fs)))  (hr : Nat.ble (st.map fun v => v.category).sum 8 = true) (hcall : ev μ' d 0 (ai_en μ'.2.2.1 (.ref a :: [])) [] y σ 0 0 (Rv y P)) (kk : ∀ σ', P σ' → ev μ (d + 1) (pc + 3) ls st y σ' nc ns Q) (hc1 : nc ≤ μ.2.2.2.2.1 := by first | exact Nat.le_refl _ | exact Nat.zero_le _ | decide) (hc2 : ns ≤ μ.2.2.2.2.2 := by first | exact Nat.le_refl _ | exact Nat.zero_le _ | decide) : ev μ (d + 1) pc ls (.ref a :: st) y σ nc ns Q := by
  obtain ⟨l1, l2, l3, l4, e1, e2⟩ := hl
  refine ev_callV (as := []) hd l2 l1 hy l3 rfl (fun v hv => absurd hv List.not_mem_nil) l4 (Nat.le_of_ble_eq_true hr) (by rw [e1]; exact hc1) (by rw [e2]; exact hc2) hcall ?_
  rintro r y' σ' ⟨rfl, rfl, hp⟩
  rw [e1, e2]
  exact kk σ' hp
theorem cVp0 {e : Int32} (hd : decode μ.2.1 pc = .ok (.invokevirtual idx, 3)) (hl : ai_LV μ.1.cls idx μ' 0 ci) (hy : ∃ fs, y[a]? = some (.inr (ci, fs)))  (hr : Nat.ble (st.map fun v => v.category).sum 8 = true) (hcall : ev μ' d 0 (ai_en μ'.2.2.1 (.ref a :: [])) [] y σ 0 0 (Rp y σ e)) (kk : ev μ (d + 1) (pc + 3) ls (.int e :: st) y σ nc ns Q) (hc1 : nc ≤ μ.2.2.2.2.1 := by first | exact Nat.le_refl _ | exact Nat.zero_le _ | decide) (hc2 : ns ≤ μ.2.2.2.2.2 := by first | exact Nat.le_refl _ | exact Nat.zero_le _ | decide) : ev μ (d + 1) pc ls (.ref a :: st) y σ nc ns Q := by
  obtain ⟨l1, l2, l3, l4, e1, e2⟩ := hl
  refine ev_callV (as := []) hd l2 l1 hy l3 rfl (fun v hv => absurd hv List.not_mem_nil) l4 (Nat.le_of_ble_eq_true hr) (by rw [e1]; exact hc1) (by rw [e2]; exact hc2) hcall ?_
  rintro r y' σ' ⟨rfl, x, rfl, rfl, rfl⟩
  rw [e1, e2]
  exact kk
theorem cVi1 {v1 : Value} {P : Int32 → ai_M → Prop} (hd : decode μ.2.1 pc = .ok (.invokevirtual idx, 3)) (hl : ai_LV μ.1.cls idx μ' 1 ci) (hy : ∃ fs, y[a]? = some (.inr (ci, fs))) (h1 : v1.category = 1) (hr : Nat.ble (st.map fun v => v.category).sum 8 = true) (hcall : ev μ' d 0 (ai_en μ'.2.2.1 (.ref a :: [v1])) [] y σ 0 0 (Ri y P)) (kk : ∀ x σ', P x σ' → ev μ (d + 1) (pc + 3) ls (.int x :: st) y σ' nc ns Q) (hc1 : nc ≤ μ.2.2.2.2.1 := by first | exact Nat.le_refl _ | exact Nat.zero_le _ | decide) (hc2 : ns ≤ μ.2.2.2.2.2 := by first | exact Nat.le_refl _ | exact Nat.zero_le _ | decide) : ev μ (d + 1) pc ls (v1 :: .ref a :: st) y σ nc ns Q := by
  obtain ⟨l1, l2, l3, l4, e1, e2⟩ := hl
  refine ev_callV (as := [v1]) hd l2 l1 hy l3 rfl (List.forall_mem_cons.mpr ⟨h1, fun v hv => absurd hv List.not_mem_nil⟩) l4 (Nat.le_of_ble_eq_true hr) (by rw [e1]; exact hc1) (by rw [e2]; exact hc2) hcall ?_
  rintro r y' σ' ⟨rfl, x, rfl, hp⟩
  rw [e1, e2]
  exact kk x σ' hp
theorem cVv1 {v1 : Value} {P : ai_M → Prop} (hd : decode μ.2.1 pc = .ok (.invokevirtual idx, 3)) (hl : ai_LV μ.1.cls idx μ' 1 ci) (hy : ∃ fs, y[a]? = some (.inr (ci, fs))) (h1 : v1.category = 1) (hr : Nat.ble (st.map fun v => v.category).sum 8 = true) (hcall : ev μ' d 0 (ai_en μ'.2.2.1 (.ref a :: [v1])) [] y σ 0 0 (Rv y P)) (kk : ∀ σ', P σ' → ev μ (d + 1) (pc + 3) ls st y σ' nc ns Q) (hc1 : nc ≤ μ.2.2.2.2.1 := by first | exact Nat.le_refl _ | exact Nat.zero_le _ | decide) (hc2 : ns ≤ μ.2.2.2.2.2 := by first | exact Nat.le_refl _ | exact Nat.zero_le _ | decide) : ev μ (d + 1) pc ls (v1 :: .ref a :: st) y σ nc ns Q := by
  obtain ⟨l1, l2, l3, l4, e1, e2⟩ := hl
  refine ev_callV (as := [v1]) hd l2 l1 hy l3 rfl (List.forall_mem_cons.mpr ⟨h1, fun v hv => absurd hv List.not_mem_nil⟩) l4 (Nat.le_of_ble_eq_true hr) (by rw [e1]; exact hc1) (by rw [e2]; exact hc2) hcall ?_
  rintro r y' σ' ⟨rfl, rfl, hp⟩
  rw [e1, e2]
  exact kk σ' hp
theorem cVp1 {v1 : Value} {e : Int32} (hd : decode μ.2.1 pc = .ok (.invokevirtual idx, 3)) (hl : ai_LV μ.1.cls idx μ' 1 ci) (hy : ∃ fs, y[a]? = some (.inr (ci, fs))) (h1 : v1.category = 1) (hr : Nat.ble (st.map fun v => v.category).sum 8 = true) (hcall : ev μ' d 0 (ai_en μ'.2.2.1 (.ref a :: [v1])) [] y σ 0 0 (Rp y σ e)) (kk : ev μ (d + 1) (pc + 3) ls (.int e :: st) y σ nc ns Q) (hc1 : nc ≤ μ.2.2.2.2.1 := by first | exact Nat.le_refl _ | exact Nat.zero_le _ | decide) (hc2 : ns ≤ μ.2.2.2.2.2 := by first | exact Nat.le_refl _ | exact Nat.zero_le _ | decide) : ev μ (d + 1) pc ls (v1 :: .ref a :: st) y σ nc ns Q := by
  obtain ⟨l1, l2, l3, l4, e1, e2⟩ := hl
  refine ev_callV (as := [v1]) hd l2 l1 hy l3 rfl (List.forall_mem_cons.mpr ⟨h1, fun v hv => absurd hv List.not_mem_nil⟩) l4 (Nat.le_of_ble_eq_true hr) (by rw [e1]; exact hc1) (by rw [e2]; exact hc2) hcall ?_
  rintro r y' σ' ⟨rfl, x, rfl, rfl, rfl⟩
  rw [e1, e2]
  exact kk
theorem cVi2 {v1 v2 : Value} {P : Int32 → ai_M → Prop} (hd : decode μ.2.1 pc = .ok (.invokevirtual idx, 3)) (hl : ai_LV μ.1.cls idx μ' 2 ci) (hy : ∃ fs, y[a]? = some (.inr (ci, fs))) (h1 : v1.category = 1) (h2 : v2.category = 1) (hr : Nat.ble (st.map fun v => v.category).sum 8 = true) (hcall : ev μ' d 0 (ai_en μ'.2.2.1 (.ref a :: [v1, v2])) [] y σ 0 0 (Ri y P)) (kk : ∀ x σ', P x σ' → ev μ (d + 1) (pc + 3) ls (.int x :: st) y σ' nc ns Q) (hc1 : nc ≤ μ.2.2.2.2.1 := by first | exact Nat.le_refl _ | exact Nat.zero_le _ | decide) (hc2 : ns ≤ μ.2.2.2.2.2 := by first | exact Nat.le_refl _ | exact Nat.zero_le _ | decide) : ev μ (d + 1) pc ls (v2 :: v1 :: .ref a :: st) y σ nc ns Q := by
  obtain ⟨l1, l2, l3, l4, e1, e2⟩ := hl
  refine ev_callV (as := [v1, v2]) hd l2 l1 hy l3 rfl (List.forall_mem_cons.mpr ⟨h1, List.forall_mem_cons.mpr ⟨h2, fun v hv => absurd hv List.not_mem_nil⟩⟩) l4 (Nat.le_of_ble_eq_true hr) (by rw [e1]; exact hc1) (by rw [e2]; exact hc2) hcall ?_
  rintro r y' σ' ⟨rfl, x, rfl, hp⟩
  rw [e1, e2]
  exact kk x σ' hp
theorem cVv2 {v1 v2 : Value} {P : ai_M → Prop} (hd : decode μ.2.1 pc = .ok (.invokevirtual idx, 3)) (hl : ai_LV μ.1.cls idx μ' 2 ci) (hy : ∃ fs, y[a]? = some (.inr (ci, fs))) (h1 : v1.category = 1) (h2 : v2.category = 1) (hr : Nat.ble (st.map fun v => v.category).sum 8 = true) (hcall : ev μ' d 0 (ai_en μ'.2.2.1 (.ref a :: [v1, v2])) [] y σ 0 0 (Rv y P)) (kk : ∀ σ', P σ' → ev μ (d + 1) (pc + 3) ls st y σ' nc ns Q) (hc1 : nc ≤ μ.2.2.2.2.1 := by first | exact Nat.le_refl _ | exact Nat.zero_le _ | decide) (hc2 : ns ≤ μ.2.2.2.2.2 := by first | exact Nat.le_refl _ | exact Nat.zero_le _ | decide) : ev μ (d + 1) pc ls (v2 :: v1 :: .ref a :: st) y σ nc ns Q := by
  obtain ⟨l1, l2, l3, l4, e1, e2⟩ := hl
  refine ev_callV (as := [v1, v2]) hd l2 l1 hy l3 rfl (List.forall_mem_cons.mpr ⟨h1, List.forall_mem_cons.mpr ⟨h2, fun v hv => absurd hv List.not_mem_nil⟩⟩) l4 (Nat.le_of_ble_eq_true hr) (by rw [e1]; exact hc1) (by rw [e2]; exact hc2) hcall ?_
  rintro r y' σ' ⟨rfl, rfl, hp⟩
  rw [e1, e2]
  exact kk σ' hp
theorem cVp2 {v1 v2 : Value} {e : Int32} (hd : decode μ.2.1 pc = .ok (.invokevirtual idx, 3)) (hl : ai_LV μ.1.cls idx μ' 2 ci) (hy : ∃ fs, y[a]? = some (.inr (ci, fs))) (h1 : v1.category = 1) (h2 : v2.category = 1) (hr : Nat.ble (st.map fun v => v.category).sum 8 = true) (hcall : ev μ' d 0 (ai_en μ'.2.2.1 (.ref a :: [v1, v2])) [] y σ 0 0 (Rp y σ e)) (kk : ev μ (d + 1) (pc + 3) ls (.int e :: st) y σ nc ns Q) (hc1 : nc ≤ μ.2.2.2.2.1 := by first | exact Nat.le_refl _ | exact Nat.zero_le _ | decide) (hc2 : ns ≤ μ.2.2.2.2.2 := by first | exact Nat.le_refl _ | exact Nat.zero_le _ | decide) : ev μ (d + 1) pc ls (v2 :: v1 :: .ref a :: st) y σ nc ns Q := by
  obtain ⟨l1, l2, l3, l4, e1, e2⟩ := hl
  refine ev_callV (as := [v1, v2]) hd l2 l1 hy l3 rfl (List.forall_mem_cons.mpr ⟨h1, List.forall_mem_cons.mpr ⟨h2, fun v hv => absurd hv List.not_mem_nil⟩⟩) l4 (Nat.le_of_ble_eq_true hr) (by rw [e1]; exact hc1) (by rw [e2]; exact hc2) hcall ?_
  rintro r y' σ' ⟨rfl, x, rfl, rfl, rfl⟩
  rw [e1, e2]
  exact kk
theorem cVi3 {v1 v2 v3 : Value} {P : Int32 → ai_M → Prop} (hd : decode μ.2.1 pc = .ok (.invokevirtual idx, 3)) (hl : ai_LV μ.1.cls idx μ' 3 ci) (hy : ∃ fs, y[a]? = some (.inr (ci, fs))) (h1 : v1.category = 1) (h2 : v2.category = 1) (h3 : v3.category = 1) (hr : Nat.ble (st.map fun v => v.category).sum 8 = true) (hcall : ev μ' d 0 (ai_en μ'.2.2.1 (.ref a :: [v1, v2, v3])) [] y σ 0 0 (Ri y P)) (kk : ∀ x σ', P x σ' → ev μ (d + 1) (pc + 3) ls (.int x :: st) y σ' nc ns Q) (hc1 : nc ≤ μ.2.2.2.2.1 := by first | exact Nat.le_refl _ | exact Nat.zero_le _ | decide) (hc2 : ns ≤ μ.2.2.2.2.2 := by first | exact Nat.le_refl _ | exact Nat.zero_le _ | decide) : ev μ (d + 1) pc ls (v3 :: v2 :: v1 :: .ref a :: st) y σ nc ns Q := by
  obtain ⟨l1, l2, l3, l4, e1, e2⟩ := hl
  refine ev_callV (as := [v1, v2, v3]) hd l2 l1 hy l3 rfl (List.forall_mem_cons.mpr ⟨h1, List.forall_mem_cons.mpr ⟨h2, List.forall_mem_cons.mpr ⟨h3, fun v hv => absurd hv List.not_mem_nil⟩⟩⟩) l4 (Nat.le_of_ble_eq_true hr) (by rw [e1]; exact hc1) (by rw [e2]; exact hc2) hcall ?_
  rintro r y' σ' ⟨rfl, x, rfl, hp⟩
  rw [e1, e2]
  exact kk x σ' hp
theorem cVv3 {v1 v2 v3 : Value} {P : ai_M → Prop} (hd : decode μ.2.1 pc = .ok (.invokevirtual idx, 3)) (hl : ai_LV μ.1.cls idx μ' 3 ci) (hy : ∃ fs, y[a]? = some (.inr (ci, fs))) (h1 : v1.category = 1) (h2 : v2.category = 1) (h3 : v3.category = 1) (hr : Nat.ble (st.map fun v => v.category).sum 8 = true) (hcall : ev μ' d 0 (ai_en μ'.2.2.1 (.ref a :: [v1, v2, v3])) [] y σ 0 0 (Rv y P)) (kk : ∀ σ', P σ' → ev μ (d + 1) (pc + 3) ls st y σ' nc ns Q) (hc1 : nc ≤ μ.2.2.2.2.1 := by first | exact Nat.le_refl _ | exact Nat.zero_le _ | decide) (hc2 : ns ≤ μ.2.2.2.2.2 := by first | exact Nat.le_refl _ | exact Nat.zero_le _ | decide) : ev μ (d + 1) pc ls (v3 :: v2 :: v1 :: .ref a :: st) y σ nc ns Q := by
  obtain ⟨l1, l2, l3, l4, e1, e2⟩ := hl
  refine ev_callV (as := [v1, v2, v3]) hd l2 l1 hy l3 rfl (List.forall_mem_cons.mpr ⟨h1, List.forall_mem_cons.mpr ⟨h2, List.forall_mem_cons.mpr ⟨h3, fun v hv => absurd hv List.not_mem_nil⟩⟩⟩) l4 (Nat.le_of_ble_eq_true hr) (by rw [e1]; exact hc1) (by rw [e2]; exact hc2) hcall ?_
  rintro r y' σ' ⟨rfl, rfl, hp⟩
  rw [e1, e2]
  exact kk σ' hp
theorem cVp3 {v1 v2 v3 : Value} {e : Int32} (hd : decode μ.2.1 pc = .ok (.invokevirtual idx, 3)) (hl : ai_LV μ.1.cls idx μ' 3 ci) (hy : ∃ fs, y[a]? = some (.inr (ci, fs))) (h1 : v1.category = 1) (h2 : v2.category = 1) (h3 : v3.category = 1) (hr : Nat.ble (st.map fun v => v.category).sum 8 = true) (hcall : ev μ' d 0 (ai_en μ'.2.2.1 (.ref a :: [v1, v2, v3])) [] y σ 0 0 (Rp y σ e)) (kk : ev μ (d + 1) (pc + 3) ls (.int e :: st) y σ nc ns Q) (hc1 : nc ≤ μ.2.2.2.2.1 := by first | exact Nat.le_refl _ | exact Nat.zero_le _ | decide) (hc2 : ns ≤ μ.2.2.2.2.2 := by first | exact Nat.le_refl _ | exact Nat.zero_le _ | decide) : ev μ (d + 1) pc ls (v3 :: v2 :: v1 :: .ref a :: st) y σ nc ns Q := by
  obtain ⟨l1, l2, l3, l4, e1, e2⟩ := hl
  refine ev_callV (as := [v1, v2, v3]) hd l2 l1 hy l3 rfl (List.forall_mem_cons.mpr ⟨h1, List.forall_mem_cons.mpr ⟨h2, List.forall_mem_cons.mpr ⟨h3, fun v hv => absurd hv List.not_mem_nil⟩⟩⟩) l4 (Nat.le_of_ble_eq_true hr) (by rw [e1]; exact hc1) (by rw [e2]; exact hc2) hcall ?_
  rintro r y' σ' ⟨rfl, x, rfl, rfl, rfl⟩
  rw [e1, e2]
  exact kk
theorem cVi4 {v1 v2 v3 v4 : Value} {P : Int32 → ai_M → Prop} (hd : decode μ.2.1 pc = .ok (.invokevirtual idx, 3)) (hl : ai_LV μ.1.cls idx μ' 4 ci) (hy : ∃ fs, y[a]? = some (.inr (ci, fs))) (h1 : v1.category = 1) (h2 : v2.category = 1) (h3 : v3.category = 1) (h4 : v4.category = 1) (hr : Nat.ble (st.map fun v => v.category).sum 8 = true) (hcall : ev μ' d 0 (ai_en μ'.2.2.1 (.ref a :: [v1, v2, v3, v4])) [] y σ 0 0 (Ri y P)) (kk : ∀ x σ', P x σ' → ev μ (d + 1) (pc + 3) ls (.int x :: st) y σ' nc ns Q) (hc1 : nc ≤ μ.2.2.2.2.1 := by first | exact Nat.le_refl _ | exact Nat.zero_le _ | decide) (hc2 : ns ≤ μ.2.2.2.2.2 := by first | exact Nat.le_refl _ | exact Nat.zero_le _ | decide) : ev μ (d + 1) pc ls (v4 :: v3 :: v2 :: v1 :: .ref a :: st) y σ nc ns Q := by
  obtain ⟨l1, l2, l3, l4, e1, e2⟩ := hl
  refine ev_callV (as := [v1, v2, v3, v4]) hd l2 l1 hy l3 rfl (List.forall_mem_cons.mpr ⟨h1, List.forall_mem_cons.mpr ⟨h2, List.forall_mem_cons.mpr ⟨h3, List.forall_mem_cons.mpr ⟨h4, fun v hv => absurd hv List.not_mem_nil⟩⟩⟩⟩) l4 (Nat.le_of_ble_eq_true hr) (by rw [e1]; exact hc1) (by rw [e2]; exact hc2) hcall ?_
  rintro r y' σ' ⟨rfl, x, rfl, hp⟩
  rw [e1, e2]
  exact kk x σ' hp
theorem cVv4 {v1 v2 v3 v4 : Value} {P : ai_M → Prop} (hd : decode μ.2.1 pc = .ok (.invokevirtual idx, 3)) (hl : ai_LV μ.1.cls idx μ' 4 ci) (hy : ∃ fs, y[a]? = some (.inr (ci, fs))) (h1 : v1.category = 1) (h2 : v2.category = 1) (h3 : v3.category = 1) (h4 : v4.category = 1) (hr : Nat.ble (st.map fun v => v.category).sum 8 = true) (hcall : ev μ' d 0 (ai_en μ'.2.2.1 (.ref a :: [v1, v2, v3, v4])) [] y σ 0 0 (Rv y P)) (kk : ∀ σ', P σ' → ev μ (d + 1) (pc + 3) ls st y σ' nc ns Q) (hc1 : nc ≤ μ.2.2.2.2.1 := by first | exact Nat.le_refl _ | exact Nat.zero_le _ | decide) (hc2 : ns ≤ μ.2.2.2.2.2 := by first | exact Nat.le_refl _ | exact Nat.zero_le _ | decide) : ev μ (d + 1) pc ls (v4 :: v3 :: v2 :: v1 :: .ref a :: st) y σ nc ns Q := by
  obtain ⟨l1, l2, l3, l4, e1, e2⟩ := hl
  refine ev_callV (as := [v1, v2, v3, v4]) hd l2 l1 hy l3 rfl (List.forall_mem_cons.mpr ⟨h1, List.forall_mem_cons.mpr ⟨h2, List.forall_mem_cons.mpr ⟨h3, List.forall_mem_cons.mpr ⟨h4, fun v hv => absurd hv List.not_mem_nil⟩⟩⟩⟩) l4 (Nat.le_of_ble_eq_true hr) (by rw [e1]; exact hc1) (by rw [e2]; exact hc2) hcall ?_
  rintro r y' σ' ⟨rfl, rfl, hp⟩
  rw [e1, e2]
  exact kk σ' hp
theorem cVp4 {v1 v2 v3 v4 : Value} {e : Int32} (hd : decode μ.2.1 pc = .ok (.invokevirtual idx, 3)) (hl : ai_LV μ.1.cls idx μ' 4 ci) (hy : ∃ fs, y[a]? = some (.inr (ci, fs))) (h1 : v1.category = 1) (h2 : v2.category = 1) (h3 : v3.category = 1) (h4 : v4.category = 1) (hr : Nat.ble (st.map fun v => v.category).sum 8 = true) (hcall : ev μ' d 0 (ai_en μ'.2.2.1 (.ref a :: [v1, v2, v3, v4])) [] y σ 0 0 (Rp y σ e)) (kk : ev μ (d + 1) (pc + 3) ls (.int e :: st) y σ nc ns Q) (hc1 : nc ≤ μ.2.2.2.2.1 := by first | exact Nat.le_refl _ | exact Nat.zero_le _ | decide) (hc2 : ns ≤ μ.2.2.2.2.2 := by first | exact Nat.le_refl _ | exact Nat.zero_le _ | decide) : ev μ (d + 1) pc ls (v4 :: v3 :: v2 :: v1 :: .ref a :: st) y σ nc ns Q := by
  obtain ⟨l1, l2, l3, l4, e1, e2⟩ := hl
  refine ev_callV (as := [v1, v2, v3, v4]) hd l2 l1 hy l3 rfl (List.forall_mem_cons.mpr ⟨h1, List.forall_mem_cons.mpr ⟨h2, List.forall_mem_cons.mpr ⟨h3, List.forall_mem_cons.mpr ⟨h4, fun v hv => absurd hv List.not_mem_nil⟩⟩⟩⟩) l4 (Nat.le_of_ble_eq_true hr) (by rw [e1]; exact hc1) (by rw [e2]; exact hc2) hcall ?_
  rintro r y' σ' ⟨rfl, x, rfl, rfl, rfl⟩
  rw [e1, e2]
  exact kk
theorem cSi1 {v1 : Value} {P : Int32 → ai_M → Prop} (hd : decode μ.2.1 pc = .ok (.invokestatic idx, 3)) (hl : ai_LS μ.1.cls idx μ' 1) (h1 : v1.category = 1) (hr : Nat.ble (st.map fun v => v.category).sum 8 = true) (hcall : ev μ' d 0 (ai_en μ'.2.2.1 [v1]) [] y σ 0 0 (Ri y P)) (kk : ∀ x σ', P x σ' → ev μ (d + 1) (pc + 3) ls (.int x :: st) y σ' nc ns Q) (hc1 : nc ≤ μ.2.2.2.2.1 := by first | exact Nat.le_refl _ | exact Nat.zero_le _ | decide) (hc2 : ns ≤ μ.2.2.2.2.2 := by first | exact Nat.le_refl _ | exact Nat.zero_le _ | decide) : ev μ (d + 1) pc ls (v1 :: st) y σ nc ns Q := by
  obtain ⟨l1, l2, l4, e1, e2⟩ := hl
  refine ev_callS (as := [v1]) hd l2 l1 rfl (List.forall_mem_cons.mpr ⟨h1, fun v hv => absurd hv List.not_mem_nil⟩) l4 (Nat.le_of_ble_eq_true hr) (by rw [e1]; exact hc1) (by rw [e2]; exact hc2) hcall ?_
  rintro r y' σ' ⟨rfl, x, rfl, hp⟩
  rw [e1, e2]
  exact kk x σ' hp
theorem cSv1 {v1 : Value} {P : ai_M → Prop} (hd : decode μ.2.1 pc = .ok (.invokestatic idx, 3)) (hl : ai_LS μ.1.cls idx μ' 1) (h1 : v1.category = 1) (hr : Nat.ble (st.map fun v => v.category).sum 8 = true) (hcall : ev μ' d 0 (ai_en μ'.2.2.1 [v1]) [] y σ 0 0 (Rv y P)) (kk : ∀ σ', P σ' → ev μ (d + 1) (pc + 3) ls st y σ' nc ns Q) (hc1 : nc ≤ μ.2.2.2.2.1 := by first | exact Nat.le_refl _ | exact Nat.zero_le _ | decide) (hc2 : ns ≤ μ.2.2.2.2.2 := by first | exact Nat.le_refl _ | exact Nat.zero_le _ | decide) : ev μ (d + 1) pc ls (v1 :: st) y σ nc ns Q := by
  obtain ⟨l1, l2, l4, e1, e2⟩ := hl
  refine ev_callS (as := [v1]) hd l2 l1 rfl (List.forall_mem_cons.mpr ⟨h1, fun v hv => absurd hv List.not_mem_nil⟩) l4 (Nat.le_of_ble_eq_true hr) (by rw [e1]; exact hc1) (by rw [e2]; exact hc2) hcall ?_
  rintro r y' σ' ⟨rfl, rfl, hp⟩
  rw [e1, e2]
  exact kk σ' hp
theorem cSp1 {v1 : Value} {e : Int32} (hd : decode μ.2.1 pc = .ok (.invokestatic idx, 3)) (hl : ai_LS μ.1.cls idx μ' 1) (h1 : v1.category = 1) (hr : Nat.ble (st.map fun v => v.category).sum 8 = true) (hcall : ev μ' d 0 (ai_en μ'.2.2.1 [v1]) [] y σ 0 0 (Rp y σ e)) (kk : ev μ (d + 1) (pc + 3) ls (.int e :: st) y σ nc ns Q) (hc1 : nc ≤ μ.2.2.2.2.1 := by first | exact Nat.le_refl _ | exact Nat.zero_le _ | decide) (hc2 : ns ≤ μ.2.2.2.2.2 := by first | exact Nat.le_refl _ | exact Nat.zero_le _ | decide) : ev μ (d + 1) pc ls (v1 :: st) y σ nc ns Q := by
  obtain ⟨l1, l2, l4, e1, e2⟩ := hl
  refine ev_callS (as := [v1]) hd l2 l1 rfl (List.forall_mem_cons.mpr ⟨h1, fun v hv => absurd hv List.not_mem_nil⟩) l4 (Nat.le_of_ble_eq_true hr) (by rw [e1]; exact hc1) (by rw [e2]; exact hc2) hcall ?_
  rintro r y' σ' ⟨rfl, x, rfl, rfl, rfl⟩
  rw [e1, e2]
  exact kk
theorem cSi2 {v1 v2 : Value} {P : Int32 → ai_M → Prop} (hd : decode μ.2.1 pc = .ok (.invokestatic idx, 3)) (hl : ai_LS μ.1.cls idx μ' 2) (h1 : v1.category = 1) (h2 : v2.category = 1) (hr : Nat.ble (st.map fun v => v.category).sum 8 = true) (hcall : ev μ' d 0 (ai_en μ'.2.2.1 [v1, v2]) [] y σ 0 0 (Ri y P)) (kk : ∀ x σ', P x σ' → ev μ (d + 1) (pc + 3) ls (.int x :: st) y σ' nc ns Q) (hc1 : nc ≤ μ.2.2.2.2.1 := by first | exact Nat.le_refl _ | exact Nat.zero_le _ | decide) (hc2 : ns ≤ μ.2.2.2.2.2 := by first | exact Nat.le_refl _ | exact Nat.zero_le _ | decide) : ev μ (d + 1) pc ls (v2 :: v1 :: st) y σ nc ns Q := by
  obtain ⟨l1, l2, l4, e1, e2⟩ := hl
  refine ev_callS (as := [v1, v2]) hd l2 l1 rfl (List.forall_mem_cons.mpr ⟨h1, List.forall_mem_cons.mpr ⟨h2, fun v hv => absurd hv List.not_mem_nil⟩⟩) l4 (Nat.le_of_ble_eq_true hr) (by rw [e1]; exact hc1) (by rw [e2]; exact hc2) hcall ?_
  rintro r y' σ' ⟨rfl, x, rfl, hp⟩
  rw [e1, e2]
  exact kk x σ' hp
theorem cSv2 {v1 v2 : Value} {P : ai_M → Prop} (hd : decode μ.2.1 pc = .ok (.invokestatic idx, 3)) (hl : ai_LS μ.1.cls idx μ' 2) (h1 : v1.category = 1) (h2 : v2.category = 1) (hr : Nat.ble (st.map fun v => v.category).sum 8 = true) (hcall : ev μ' d 0 (ai_en μ'.2.2.1 [v1, v2]) [] y σ 0 0 (Rv y P)) (kk : ∀ σ', P σ' → ev μ (d + 1) (pc + 3) ls st y σ' nc ns Q) (hc1 : nc ≤ μ.2.2.2.2.1 := by first | exact Nat.le_refl _ | exact Nat.zero_le _ | decide) (hc2 : ns ≤ μ.2.2.2.2.2 := by first | exact Nat.le_refl _ | exact Nat.zero_le _ | decide) : ev μ (d + 1) pc ls (v2 :: v1 :: st) y σ nc ns Q := by
  obtain ⟨l1, l2, l4, e1, e2⟩ := hl
  refine ev_callS (as := [v1, v2]) hd l2 l1 rfl (List.forall_mem_cons.mpr ⟨h1, List.forall_mem_cons.mpr ⟨h2, fun v hv => absurd hv List.not_mem_nil⟩⟩) l4 (Nat.le_of_ble_eq_true hr) (by rw [e1]; exact hc1) (by rw [e2]; exact hc2) hcall ?_
  rintro r y' σ' ⟨rfl, rfl, hp⟩
  rw [e1, e2]
  exact kk σ' hp
theorem cSp2 {v1 v2 : Value} {e : Int32} (hd : decode μ.2.1 pc = .ok (.invokestatic idx, 3)) (hl : ai_LS μ.1.cls idx μ' 2) (h1 : v1.category = 1) (h2 : v2.category = 1) (hr : Nat.ble (st.map fun v => v.category).sum 8 = true) (hcall : ev μ' d 0 (ai_en μ'.2.2.1 [v1, v2]) [] y σ 0 0 (Rp y σ e)) (kk : ev μ (d + 1) (pc + 3) ls (.int e :: st) y σ nc ns Q) (hc1 : nc ≤ μ.2.2.2.2.1 := by first | exact Nat.le_refl _ | exact Nat.zero_le _ | decide) (hc2 : ns ≤ μ.2.2.2.2.2 := by first | exact Nat.le_refl _ | exact Nat.zero_le _ | decide) : ev μ (d + 1) pc ls (v2 :: v1 :: st) y σ nc ns Q := by
  obtain ⟨l1, l2, l4, e1, e2⟩ := hl
  refine ev_callS (as := [v1, v2]) hd l2 l1 rfl (List.forall_mem_cons.mpr ⟨h1, List.forall_mem_cons.mpr ⟨h2, fun v hv => absurd hv List.not_mem_nil⟩⟩) l4 (Nat.le_of_ble_eq_true hr) (by rw [e1]; exact hc1) (by rw [e2]; exact hc2) hcall ?_
  rintro r y' σ' ⟨rfl, x, rfl, rfl, rfl⟩
  rw [e1, e2]
  exact kk
theorem cSi3 {v1 v2 v3 : Value} {P : Int32 → ai_M → Prop} (hd : decode μ.2.1 pc = .ok (.invokestatic idx, 3)) (hl : ai_LS μ.1.cls idx μ' 3) (h1 : v1.category = 1) (h2 : v2.category = 1) (h3 : v3.category = 1) (hr : Nat.ble (st.map fun v => v.category).sum 8 = true) (hcall : ev μ' d 0 (ai_en μ'.2.2.1 [v1, v2, v3]) [] y σ 0 0 (Ri y P)) (kk : ∀ x σ', P x σ' → ev μ (d + 1) (pc + 3) ls (.int x :: st) y σ' nc ns Q) (hc1 : nc ≤ μ.2.2.2.2.1 := by first | exact Nat.le_refl _ | exact Nat.zero_le _ | decide) (hc2 : ns ≤ μ.2.2.2.2.2 := by first | exact Nat.le_refl _ | exact Nat.zero_le _ | decide) : ev μ (d + 1) pc ls (v3 :: v2 :: v1 :: st) y σ nc ns Q := by
  obtain ⟨l1, l2, l4, e1, e2⟩ := hl
  refine ev_callS (as := [v1, v2, v3]) hd l2 l1 rfl (List.forall_mem_cons.mpr ⟨h1, List.forall_mem_cons.mpr ⟨h2, List.forall_mem_cons.mpr ⟨h3, fun v hv => absurd hv List.not_mem_nil⟩⟩⟩) l4 (Nat.le_of_ble_eq_true hr) (by rw [e1]; exact hc1) (by rw [e2]; exact hc2) hcall ?_
  rintro r y' σ' ⟨rfl, x, rfl, hp⟩
  rw [e1, e2]
  exact kk x σ' hp
theorem cSv3 {v1 v2 v3 : Value} {P : ai_M → Prop} (hd : decode μ.2.1 pc = .ok (.invokestatic idx, 3)) (hl : ai_LS μ.1.cls idx μ' 3) (h1 : v1.category = 1) (h2 : v2.category = 1) (h3 : v3.category = 1) (hr : Nat.ble (st.map fun v => v.category).sum 8 = true) (hcall : ev μ' d 0 (ai_en μ'.2.2.1 [v1, v2, v3]) [] y σ 0 0 (Rv y P)) (kk : ∀ σ', P σ' → ev μ (d + 1) (pc + 3) ls st y σ' nc ns Q) (hc1 : nc ≤ μ.2.2.2.2.1 := by first | exact Nat.le_refl _ | exact Nat.zero_le _ | decide) (hc2 : ns ≤ μ.2.2.2.2.2 := by first | exact Nat.le_refl _ | exact Nat.zero_le _ | decide) : ev μ (d + 1) pc ls (v3 :: v2 :: v1 :: st) y σ nc ns Q := by
  obtain ⟨l1, l2, l4, e1, e2⟩ := hl
  refine ev_callS (as := [v1, v2, v3]) hd l2 l1 rfl (List.forall_mem_cons.mpr ⟨h1, List.forall_mem_cons.mpr ⟨h2, List.forall_mem_cons.mpr ⟨h3, fun v hv => absurd hv List.not_mem_nil⟩⟩⟩) l4 (Nat.le_of_ble_eq_true hr) (by rw [e1]; exact hc1) (by rw [e2]; exact hc2) hcall ?_
  rintro r y' σ' ⟨rfl, rfl, hp⟩
  rw [e1, e2]
  exact kk σ' hp
theorem cSp3 {v1 v2 v3 : Value} {e : Int32} (hd : decode μ.2.1 pc = .ok (.invokestatic idx, 3)) (hl : ai_LS μ.1.cls idx μ' 3) (h1 : v1.category = 1) (h2 : v2.category = 1) (h3 : v3.category = 1) (hr : Nat.ble (st.map fun v => v.category).sum 8 = true) (hcall : ev μ' d 0 (ai_en μ'.2.2.1 [v1, v2, v3]) [] y σ 0 0 (Rp y σ e)) (kk : ev μ (d + 1) (pc + 3) ls (.int e :: st) y σ nc ns Q) (hc1 : nc ≤ μ.2.2.2.2.1 := by first | exact Nat.le_refl _ | exact Nat.zero_le _ | decide) (hc2 : ns ≤ μ.2.2.2.2.2 := by first | exact Nat.le_refl _ | exact Nat.zero_le _ | decide) : ev μ (d + 1) pc ls (v3 :: v2 :: v1 :: st) y σ nc ns Q := by
  obtain ⟨l1, l2, l4, e1, e2⟩ := hl
  refine ev_callS (as := [v1, v2, v3]) hd l2 l1 rfl (List.forall_mem_cons.mpr ⟨h1, List.forall_mem_cons.mpr ⟨h2, List.forall_mem_cons.mpr ⟨h3, fun v hv => absurd hv List.not_mem_nil⟩⟩⟩) l4 (Nat.le_of_ble_eq_true hr) (by rw [e1]; exact hc1) (by rw [e2]; exact hc2) hcall ?_
  rintro r y' σ' ⟨rfl, x, rfl, rfl, rfl⟩
  rw [e1, e2]
  exact kk
theorem cSi4 {v1 v2 v3 v4 : Value} {P : Int32 → ai_M → Prop} (hd : decode μ.2.1 pc = .ok (.invokestatic idx, 3)) (hl : ai_LS μ.1.cls idx μ' 4) (h1 : v1.category = 1) (h2 : v2.category = 1) (h3 : v3.category = 1) (h4 : v4.category = 1) (hr : Nat.ble (st.map fun v => v.category).sum 8 = true) (hcall : ev μ' d 0 (ai_en μ'.2.2.1 [v1, v2, v3, v4]) [] y σ 0 0 (Ri y P)) (kk : ∀ x σ', P x σ' → ev μ (d + 1) (pc + 3) ls (.int x :: st) y σ' nc ns Q) (hc1 : nc ≤ μ.2.2.2.2.1 := by first | exact Nat.le_refl _ | exact Nat.zero_le _ | decide) (hc2 : ns ≤ μ.2.2.2.2.2 := by first | exact Nat.le_refl _ | exact Nat.zero_le _ | decide) : ev μ (d + 1) pc ls (v4 :: v3 :: v2 :: v1 :: st) y σ nc ns Q := by
  obtain ⟨l1, l2, l4, e1, e2⟩ := hl
  refine ev_callS (as := [v1, v2, v3, v4]) hd l2 l1 rfl (List.forall_mem_cons.mpr ⟨h1, List.forall_mem_cons.mpr ⟨h2, List.forall_mem_cons.mpr ⟨h3, List.forall_mem_cons.mpr ⟨h4, fun v hv => absurd hv List.not_mem_nil⟩⟩⟩⟩) l4 (Nat.le_of_ble_eq_true hr) (by rw [e1]; exact hc1) (by rw [e2]; exact hc2) hcall ?_
  rintro r y' σ' ⟨rfl, x, rfl, hp⟩
  rw [e1, e2]
  exact kk x σ' hp
theorem cSv4 {v1 v2 v3 v4 : Value} {P : ai_M → Prop} (hd : decode μ.2.1 pc = .ok (.invokestatic idx, 3)) (hl : ai_LS μ.1.cls idx μ' 4) (h1 : v1.category = 1) (h2 : v2.category = 1) (h3 : v3.category = 1) (h4 : v4.category = 1) (hr : Nat.ble (st.map fun v => v.category).sum 8 = true) (hcall : ev μ' d 0 (ai_en μ'.2.2.1 [v1, v2, v3, v4]) [] y σ 0 0 (Rv y P)) (kk : ∀ σ', P σ' → ev μ (d + 1) (pc + 3) ls st y σ' nc ns Q) (hc1 : nc ≤ μ.2.2.2.2.1 := by first | exact Nat.le_refl _ | exact Nat.zero_le _ | decide) (hc2 : ns ≤ μ.2.2.2.2.2 := by first | exact Nat.le_refl _ | exact Nat.zero_le _ | decide) : ev μ (d + 1) pc ls (v4 :: v3 :: v2 :: v1 :: st) y σ nc ns Q := by
  obtain ⟨l1, l2, l4, e1, e2⟩ := hl
  refine ev_callS (as := [v1, v2, v3, v4]) hd l2 l1 rfl (List.forall_mem_cons.mpr ⟨h1, List.forall_mem_cons.mpr ⟨h2, List.forall_mem_cons.mpr ⟨h3, List.forall_mem_cons.mpr ⟨h4, fun v hv => absurd hv List.not_mem_nil⟩⟩⟩⟩) l4 (Nat.le_of_ble_eq_true hr) (by rw [e1]; exact hc1) (by rw [e2]; exact hc2) hcall ?_
  rintro r y' σ' ⟨rfl, rfl, hp⟩
  rw [e1, e2]
  exact kk σ' hp
theorem cSp4 {v1 v2 v3 v4 : Value} {e : Int32} (hd : decode μ.2.1 pc = .ok (.invokestatic idx, 3)) (hl : ai_LS μ.1.cls idx μ' 4) (h1 : v1.category = 1) (h2 : v2.category = 1) (h3 : v3.category = 1) (h4 : v4.category = 1) (hr : Nat.ble (st.map fun v => v.category).sum 8 = true) (hcall : ev μ' d 0 (ai_en μ'.2.2.1 [v1, v2, v3, v4]) [] y σ 0 0 (Rp y σ e)) (kk : ev μ (d + 1) (pc + 3) ls (.int e :: st) y σ nc ns Q) (hc1 : nc ≤ μ.2.2.2.2.1 := by first | exact Nat.le_refl _ | exact Nat.zero_le _ | decide) (hc2 : ns ≤ μ.2.2.2.2.2 := by first | exact Nat.le_refl _ | exact Nat.zero_le _ | decide) : ev μ (d + 1) pc ls (v4 :: v3 :: v2 :: v1 :: st) y σ nc ns Q := by
  obtain ⟨l1, l2, l4, e1, e2⟩ := hl
  refine ev_callS (as := [v1, v2, v3, v4]) hd l2 l1 rfl (List.forall_mem_cons.mpr ⟨h1, List.forall_mem_cons.mpr ⟨h2, List.forall_mem_cons.mpr ⟨h3, List.forall_mem_cons.mpr ⟨h4, fun v hv => absurd hv List.not_mem_nil⟩⟩⟩⟩) l4 (Nat.le_of_ble_eq_true hr) (by rw [e1]; exact hc1) (by rw [e2]; exact hc2) hcall ?_
  rintro r y' σ' ⟨rfl, x, rfl, rfl, rfl⟩
  rw [e1, e2]
  exact kk
theorem cNi1 {v1 : Value} {P : Int32 → ai_M → Prop} (hd : decode μ.2.1 pc = .ok (.invokestatic idx, 3)) (hl : ai_LN μ.1.cls idx μ' 1) (h1 : v1.category = 1) (hr : Nat.ble (st.map fun v => v.category).sum 8 = true) (hcall : ev μ' d 0 (ai_en μ'.2.2.1 [v1]) [] y σ 0 0 (Ri y P)) (kk : ∀ x σ', P x σ' → ev μ (d + 1) (pc + 3) ls (.int x :: st) y σ' nc ns Q) (hc1 : nc ≤ μ.2.2.2.2.1 := by first | exact Nat.le_refl _ | exact Nat.zero_le _ | decide) (hc2 : ns ≤ μ.2.2.2.2.2 := by first | exact Nat.le_refl _ | exact Nat.zero_le _ | decide) : ev μ (d + 1) pc ls (v1 :: st) y σ nc ns Q := by
  obtain ⟨⟨host, l1⟩, l3, l2, l4, e1, e2⟩ := hl
  refine ev_callSN (as := [v1]) hd l2 l1 l3 rfl (List.forall_mem_cons.mpr ⟨h1, fun v hv => absurd hv List.not_mem_nil⟩) l4 (Nat.le_of_ble_eq_true hr) (by rw [e1]; exact hc1) (by rw [e2]; exact hc2) hcall ?_
  rintro r y' σ' ⟨rfl, x, rfl, hp⟩
  rw [e1, e2]
  exact kk x σ' hp
theorem cNv1 {v1 : Value} {P : ai_M → Prop} (hd : decode μ.2.1 pc = .ok (.invokestatic idx, 3)) (hl : ai_LN μ.1.cls idx μ' 1) (h1 : v1.category = 1) (hr : Nat.ble (st.map fun v => v.category).sum 8 = true) (hcall : ev μ' d 0 (ai_en μ'.2.2.1 [v1]) [] y σ 0 0 (Rv y P)) (kk : ∀ σ', P σ' → ev μ (d + 1) (pc + 3) ls st y σ' nc ns Q) (hc1 : nc ≤ μ.2.2.2.2.1 := by first | exact Nat.le_refl _ | exact Nat.zero_le _ | decide) (hc2 : ns ≤ μ.2.2.2.2.2 := by first | exact Nat.le_refl _ | exact Nat.zero_le _ | decide) : ev μ (d + 1) pc ls (v1 :: st) y σ nc ns Q := by
  obtain ⟨⟨host, l1⟩, l3, l2, l4, e1, e2⟩ := hl
  refine ev_callSN (as := [v1]) hd l2 l1 l3 rfl (List.forall_mem_cons.mpr ⟨h1, fun v hv => absurd hv List.not_mem_nil⟩) l4 (Nat.le_of_ble_eq_true hr) (by rw [e1]; exact hc1) (by rw [e2]; exact hc2) hcall ?_
  rintro r y' σ' ⟨rfl, rfl, hp⟩
  rw [e1, e2]
  exact kk σ' hp
theorem cNp1 {v1 : Value} {e : Int32} (hd : decode μ.2.1 pc = .ok (.invokestatic idx, 3)) (hl : ai_LN μ.1.cls idx μ' 1) (h1 : v1.category = 1) (hr : Nat.ble (st.map fun v => v.category).sum 8 = true) (hcall : ev μ' d 0 (ai_en μ'.2.2.1 [v1]) [] y σ 0 0 (Rp y σ e)) (kk : ev μ (d + 1) (pc + 3) ls (.int e :: st) y σ nc ns Q) (hc1 : nc ≤ μ.2.2.2.2.1 := by first | exact Nat.le_refl _ | exact Nat.zero_le _ | decide) (hc2 : ns ≤ μ.2.2.2.2.2 := by first | exact Nat.le_refl _ | exact Nat.zero_le _ | decide) : ev μ (d + 1) pc ls (v1 :: st) y σ nc ns Q := by
  obtain ⟨⟨host, l1⟩, l3, l2, l4, e1, e2⟩ := hl
  refine ev_callSN (as := [v1]) hd l2 l1 l3 rfl (List.forall_mem_cons.mpr ⟨h1, fun v hv => absurd hv List.not_mem_nil⟩) l4 (Nat.le_of_ble_eq_true hr) (by rw [e1]; exact hc1) (by rw [e2]; exact hc2) hcall ?_
  rintro r y' σ' ⟨rfl, x, rfl, rfl, rfl⟩
  rw [e1, e2]
  exact kk
theorem cNi2 {v1 v2 : Value} {P : Int32 → ai_M → Prop} (hd : decode μ.2.1 pc = .ok (.invokestatic idx, 3)) (hl : ai_LN μ.1.cls idx μ' 2) (h1 : v1.category = 1) (h2 : v2.category = 1) (hr : Nat.ble (st.map fun v => v.category).sum 8 = true) (hcall : ev μ' d 0 (ai_en μ'.2.2.1 [v1, v2]) [] y σ 0 0 (Ri y P)) (kk : ∀ x σ', P x σ' → ev μ (d + 1) (pc + 3) ls (.int x :: st) y σ' nc ns Q) (hc1 : nc ≤ μ.2.2.2.2.1 := by first | exact Nat.le_refl _ | exact Nat.zero_le _ | decide) (hc2 : ns ≤ μ.2.2.2.2.2 := by first | exact Nat.le_refl _ | exact Nat.zero_le _ | decide) : ev μ (d + 1) pc ls (v2 :: v1 :: st) y σ nc ns Q := by
  obtain ⟨⟨host, l1⟩, l3, l2, l4, e1, e2⟩ := hl
  refine ev_callSN (as := [v1, v2]) hd l2 l1 l3 rfl (List.forall_mem_cons.mpr ⟨h1, List.forall_mem_cons.mpr ⟨h2, fun v hv => absurd hv List.not_mem_nil⟩⟩) l4 (Nat.le_of_ble_eq_true hr) (by rw [e1]; exact hc1) (by rw [e2]; exact hc2) hcall ?_
  rintro r y' σ' ⟨rfl, x, rfl, hp⟩
  rw [e1, e2]
  exact kk x σ' hp
theorem cNv2 {v1 v2 : Value} {P : ai_M → Prop} (hd : decode μ.2.1 pc = .ok (.invokestatic idx, 3)) (hl : ai_LN μ.1.cls idx μ' 2) (h1 : v1.category = 1) (h2 : v2.category = 1) (hr : Nat.ble (st.map fun v => v.category).sum 8 = true) (hcall : ev μ' d 0 (ai_en μ'.2.2.1 [v1, v2]) [] y σ 0 0 (Rv y P)) (kk : ∀ σ', P σ' → ev μ (d + 1) (pc + 3) ls st y σ' nc ns Q) (hc1 : nc ≤ μ.2.2.2.2.1 := by first | exact Nat.le_refl _ | exact Nat.zero_le _ | decide) (hc2 : ns ≤ μ.2.2.2.2.2 := by first | exact Nat.le_refl _ | exact Nat.zero_le _ | decide) : ev μ (d + 1) pc ls (v2 :: v1 :: st) y σ nc ns Q := by
  obtain ⟨⟨host, l1⟩, l3, l2, l4, e1, e2⟩ := hl
  refine ev_callSN (as := [v1, v2]) hd l2 l1 l3 rfl (List.forall_mem_cons.mpr ⟨h1, List.forall_mem_cons.mpr ⟨h2, fun v hv => absurd hv List.not_mem_nil⟩⟩) l4 (Nat.le_of_ble_eq_true hr) (by rw [e1]; exact hc1) (by rw [e2]; exact hc2) hcall ?_
  rintro r y' σ' ⟨rfl, rfl, hp⟩
  rw [e1, e2]
  exact kk σ' hp
theorem cNp2 {v1 v2 : Value} {e : Int32} (hd : decode μ.2.1 pc = .ok (.invokestatic idx, 3)) (hl : ai_LN μ.1.cls idx μ' 2) (h1 : v1.category = 1) (h2 : v2.category = 1) (hr : Nat.ble (st.map fun v => v.category).sum 8 = true) (hcall : ev μ' d 0 (ai_en μ'.2.2.1 [v1, v2]) [] y σ 0 0 (Rp y σ e)) (kk : ev μ (d + 1) (pc + 3) ls (.int e :: st) y σ nc ns Q) (hc1 : nc ≤ μ.2.2.2.2.1 := by first | exact Nat.le_refl _ | exact Nat.zero_le _ | decide) (hc2 : ns ≤ μ.2.2.2.2.2 := by first | exact Nat.le_refl _ | exact Nat.zero_le _ | decide) : ev μ (d + 1) pc ls (v2 :: v1 :: st) y σ nc ns Q := by
  obtain ⟨⟨host, l1⟩, l3, l2, l4, e1, e2⟩ := hl
  refine ev_callSN (as := [v1, v2]) hd l2 l1 l3 rfl (List.forall_mem_cons.mpr ⟨h1, List.forall_mem_cons.mpr ⟨h2, fun v hv => absurd hv List.not_mem_nil⟩⟩) l4 (Nat.le_of_ble_eq_true hr) (by rw [e1]; exact hc1) (by rw [e2]; exact hc2) hcall ?_
  rintro r y' σ' ⟨rfl, x, rfl, rfl, rfl⟩
  rw [e1, e2]
  exact kk
theorem cNi3 {v1 v2 v3 : Value} {P : Int32 → ai_M → Prop} (hd : decode μ.2.1 pc = .ok (.invokestatic idx, 3)) (hl : ai_LN μ.1.cls idx μ' 3) (h1 : v1.category = 1) (h2 : v2.category = 1) (h3 : v3.category = 1) (hr : Nat.ble (st.map fun v => v.category).sum 8 = true) (hcall : ev μ' d 0 (ai_en μ'.2.2.1 [v1, v2, v3]) [] y σ 0 0 (Ri y P)) (kk : ∀ x σ', P x σ' → ev μ (d + 1) (pc + 3) ls (.int x :: st) y σ' nc ns Q) (hc1 : nc ≤ μ.2.2.2.2.1 := by first | exact Nat.le_refl _ | exact Nat.zero_le _ | decide) (hc2 : ns ≤ μ.2.2.2.2.2 := by first | exact Nat.le_refl _ | exact Nat.zero_le _ | decide) : ev μ (d + 1) pc ls (v3 :: v2 :: v1 :: st) y σ nc ns Q := by
  obtain ⟨⟨host, l1⟩, l3, l2, l4, e1, e2⟩ := hl
  refine ev_callSN (as := [v1, v2, v3]) hd l2 l1 l3 rfl (List.forall_mem_cons.mpr ⟨h1, List.forall_mem_cons.mpr ⟨h2, List.forall_mem_cons.mpr ⟨h3, fun v hv => absurd hv List.not_mem_nil⟩⟩⟩) l4 (Nat.le_of_ble_eq_true hr) (by rw [e1]; exact hc1) (by rw [e2]; exact hc2) hcall ?_
  rintro r y' σ' ⟨rfl, x, rfl, hp⟩
  rw [e1, e2]
  exact kk x σ' hp
theorem cNv3 {v1 v2 v3 : Value} {P : ai_M → Prop} (hd : decode μ.2.1 pc = .ok (.invokestatic idx, 3)) (hl : ai_LN μ.1.cls idx μ' 3) (h1 : v1.category = 1) (h2 : v2.category = 1) (h3 : v3.category = 1) (hr : Nat.ble (st.map fun v => v.category).sum 8 = true) (hcall : ev μ' d 0 (ai_en μ'.2.2.1 [v1, v2, v3]) [] y σ 0 0 (Rv y P)) (kk : ∀ σ', P σ' → ev μ (d + 1) (pc + 3) ls st y σ' nc ns Q) (hc1 : nc ≤ μ.2.2.2.2.1 := by first | exact Nat.le_refl _ | exact Nat.zero_le _ | decide) (hc2 : ns ≤ μ.2.2.2.2.2 := by first | exact Nat.le_refl _ | exact Nat.zero_le _ | decide) : ev μ (d + 1) pc ls (v3 :: v2 :: v1 :: st) y σ nc ns Q := by
  obtain ⟨⟨host, l1⟩, l3, l2, l4, e1, e2⟩ := hl
  refine ev_callSN (as := [v1, v2, v3]) hd l2 l1 l3 rfl (List.forall_mem_cons.mpr ⟨h1, List.forall_mem_cons.mpr ⟨h2, List.forall_mem_cons.mpr ⟨h3, fun v hv => absurd hv List.not_mem_nil⟩⟩⟩) l4 (Nat.le_of_ble_eq_true hr) (by rw [e1]; exact hc1) (by rw [e2]; exact hc2) hcall ?_
  rintro r y' σ' ⟨rfl, rfl, hp⟩
  rw [e1, e2]
  exact kk σ' hp
theorem cNp3 {v1 v2 v3 : Value} {e : Int32} (hd : decode μ.2.1 pc = .ok (.invokestatic idx, 3)) (hl : ai_LN μ.1.cls idx μ' 3) (h1 : v1.category = 1) (h2 : v2.category = 1) (h3 : v3.category = 1) (hr : Nat.ble (st.map fun v => v.category).sum 8 = true) (hcall : ev μ' d 0 (ai_en μ'.2.2.1 [v1, v2, v3]) [] y σ 0 0 (Rp y σ e)) (kk : ev μ (d + 1) (pc + 3) ls (.int e :: st) y σ nc ns Q) (hc1 : nc ≤ μ.2.2.2.2.1 := by first | exact Nat.le_refl _ | exact Nat.zero_le _ | decide) (hc2 : ns ≤ μ.2.2.2.2.2 := by first | exact Nat.le_refl _ | exact Nat.zero_le _ | decide) : ev μ (d + 1) pc ls (v3 :: v2 :: v1 :: st) y σ nc ns Q := by
  obtain ⟨⟨host, l1⟩, l3, l2, l4, e1, e2⟩ := hl
  refine ev_callSN (as := [v1, v2, v3]) hd l2 l1 l3 rfl (List.forall_mem_cons.mpr ⟨h1, List.forall_mem_cons.mpr ⟨h2, List.forall_mem_cons.mpr ⟨h3, fun v hv => absurd hv List.not_mem_nil⟩⟩⟩) l4 (Nat.le_of_ble_eq_true hr) (by rw [e1]; exact hc1) (by rw [e2]; exact hc2) hcall ?_
  rintro r y' σ' ⟨rfl, x, rfl, rfl, rfl⟩
  rw [e1, e2]
  exact kk
theorem cNi4 {v1 v2 v3 v4 : Value} {P : Int32 → ai_M → Prop} (hd : decode μ.2.1 pc = .ok (.invokestatic idx, 3)) (hl : ai_LN μ.1.cls idx μ' 4) (h1 : v1.category = 1) (h2 : v2.category = 1) (h3 : v3.category = 1) (h4 : v4.category = 1) (hr : Nat.ble (st.map fun v => v.category).sum 8 = true) (hcall : ev μ' d 0 (ai_en μ'.2.2.1 [v1, v2, v3, v4]) [] y σ 0 0 (Ri y P)) (kk : ∀ x σ', P x σ' → ev μ (d + 1) (pc + 3) ls (.int x :: st) y σ' nc ns Q) (hc1 : nc ≤ μ.2.2.2.2.1 := by first | exact Nat.le_refl _ | exact Nat.zero_le _ | decide) (hc2 : ns ≤ μ.2.2.2.2.2 := by first | exact Nat.le_refl _ | exact Nat.zero_le _ | decide) : ev μ (d + 1) pc ls (v4 :: v3 :: v2 :: v1 :: st) y σ nc ns Q := by
  obtain ⟨⟨host, l1⟩, l3, l2, l4, e1, e2⟩ := hl
  refine ev_callSN (as := [v1, v2, v3, v4]) hd l2 l1 l3 rfl (List.forall_mem_cons.mpr ⟨h1, List.forall_mem_cons.mpr ⟨h2, List.forall_mem_cons.mpr ⟨h3, List.forall_mem_cons.mpr ⟨h4, fun v hv => absurd hv List.not_mem_nil⟩⟩⟩⟩) l4 (Nat.le_of_ble_eq_true hr) (by rw [e1]; exact hc1) (by rw [e2]; exact hc2) hcall ?_
  rintro r y' σ' ⟨rfl, x, rfl, hp⟩
  rw [e1, e2]
  exact kk x σ' hp
theorem cNv4 {v1 v2 v3 v4 : Value} {P : ai_M → Prop} (hd : decode μ.2.1 pc = .ok (.invokestatic idx, 3)) (hl : ai_LN μ.1.cls idx μ' 4) (h1 : v1.category = 1) (h2 : v2.category = 1) (h3 : v3.category = 1) (h4 : v4.category = 1) (hr : Nat.ble (st.map fun v => v.category).sum 8 = true) (hcall : ev μ' d 0 (ai_en μ'.2.2.1 [v1, v2, v3, v4]) [] y σ 0 0 (Rv y P)) (kk : ∀ σ', P σ' → ev μ (d + 1) (pc + 3) ls st y σ' nc ns Q) (hc1 : nc ≤ μ.2.2.2.2.1 := by first | exact Nat.le_refl _ | exact Nat.zero_le _ | decide) (hc2 : ns ≤ μ.2.2.2.2.2 := by first | exact Nat.le_refl _ | exact Nat.zero_le _ | decide) : ev μ (d + 1) pc ls (v4 :: v3 :: v2 :: v1 :: st) y σ nc ns Q := by
  obtain ⟨⟨host, l1⟩, l3, l2, l4, e1, e2⟩ := hl
  refine ev_callSN (as := [v1, v2, v3, v4]) hd l2 l1 l3 rfl (List.forall_mem_cons.mpr ⟨h1, List.forall_mem_cons.mpr ⟨h2, List.forall_mem_cons.mpr ⟨h3, List.forall_mem_cons.mpr ⟨h4, fun v hv => absurd hv List.not_mem_nil⟩⟩⟩⟩) l4 (Nat.le_of_ble_eq_true hr) (by rw [e1]; exact hc1) (by rw [e2]; exact hc2) hcall ?_
  rintro r y' σ' ⟨rfl, rfl, hp⟩
  rw [e1, e2]
  exact kk σ' hp
theorem cNp4 {v1 v2 v3 v4 : Value} {e : Int32} (hd : decode μ.2.1 pc = .ok (.invokestatic idx, 3)) (hl : ai_LN μ.1.cls idx μ' 4) (h1 : v1.category = 1) (h2 : v2.category = 1) (h3 : v3.category = 1) (h4 : v4.category = 1) (hr : Nat.ble (st.map fun v => v.category).sum 8 = true) (hcall : ev μ' d 0 (ai_en μ'.2.2.1 [v1, v2, v3, v4]) [] y σ 0 0 (Rp y σ e)) (kk : ev μ (d + 1) (pc + 3) ls (.int e :: st) y σ nc ns Q) (hc1 : nc ≤ μ.2.2.2.2.1 := by first | exact Nat.le_refl _ | exact Nat.zero_le _ | decide) (hc2 : ns ≤ μ.2.2.2.2.2 := by first | exact Nat.le_refl _ | exact Nat.zero_le _ | decide) : ev μ (d + 1) pc ls (v4 :: v3 :: v2 :: v1 :: st) y σ nc ns Q := by
  obtain ⟨⟨host, l1⟩, l3, l2, l4, e1, e2⟩ := hl
  refine ev_callSN (as := [v1, v2, v3, v4]) hd l2 l1 l3 rfl (List.forall_mem_cons.mpr ⟨h1, List.forall_mem_cons.mpr ⟨h2, List.forall_mem_cons.mpr ⟨h3, List.forall_mem_cons.mpr ⟨h4, fun v hv => absurd hv List.not_mem_nil⟩⟩⟩⟩) l4 (Nat.le_of_ble_eq_true hr) (by rw [e1]; exact hc1) (by rw [e2]; exact hc2) hcall ?_
  rintro r y' σ' ⟨rfl, x, rfl, rfl, rfl⟩
  rw [e1, e2]
  exact kk
end CALLS
theorem VX1_24 : ai_LV RX1 24 mX1_renew 1 1 := ⟨vX1_24, okX1_renew, clx1, by decide, rfl, rfl⟩
theorem VX2_18 : ai_LV RX2 18 mX2_clear 0 2 := ⟨vX2_18, okX2_clear, clx2, by decide, rfl, rfl⟩
theorem VL_13 : ai_LV RL 13 mX4_feet 1 4 := ⟨vL_13, okX4_feet, clx4, by decide, rfl, rfl⟩
theorem VX4_51 : ai_LV RX4 51 mX1_renew 1 1 := ⟨vX4_51, okX1_renew, clx1, by decide, rfl, rfl⟩
theorem VX4_58 : ai_LV RX4 58 mX2_clear 0 2 := ⟨vX4_58, okX2_clear, clx2, by decide, rfl, rfl⟩
theorem VL_18 : ai_LV RL 18 mX4_volt 2 4 := ⟨vL_18, okX4_volt, clx4, by decide, rfl, rfl⟩
theorem VX4_61 : ai_LV RX4 61 mX1_hasFoot 1 1 := ⟨vX4_61, okX1_hasFoot, clx1, by decide, rfl, rfl⟩
theorem VL_23 : ai_LV RL 23 mX4_unit 1 4 := ⟨vL_23, okX4_unit, clx4, by decide, rfl, rfl⟩
theorem SX4_69 : ai_LS RX4 69 mX4_isKind 1 := ⟨sX4_69, okX4_isKind, by decide, rfl, rfl⟩
theorem VX4_75 : ai_LV RX4 75 mX1_addUnit 1 1 := ⟨vX4_75, okX1_addUnit, clx1, by decide, rfl, rfl⟩
theorem VL_27 : ai_LV RL 27 mX4_kind 1 4 := ⟨vL_27, okX4_kind, clx4, by decide, rfl, rfl⟩
theorem VX4_79 : ai_LV RX4 79 mX1_hasUnit 1 1 := ⟨vX4_79, okX1_hasUnit, clx1, by decide, rfl, rfl⟩
theorem VL_31 : ai_LV RL 31 mX4_use 3 4 := ⟨vL_31, okX4_use, clx4, by decide, rfl, rfl⟩
theorem SX4_85 : ai_LS RX4 85 mX4_isRole 1 := ⟨sX4_85, okX4_isRole, by decide, rfl, rfl⟩
theorem VX4_91 : ai_LV RX4 91 mX1_isAble 3 1 := ⟨vX4_91, okX1_isAble, clx1, by decide, rfl, rfl⟩
theorem VX4_95 : ai_LV RX4 95 mX1_addUse 3 1 := ⟨vX4_95, okX1_addUse, clx1, by decide, rfl, rfl⟩
theorem VL_36 : ai_LV RL 36 mX4_about 2 4 := ⟨vL_36, okX4_about, clx4, by decide, rfl, rfl⟩
theorem VL_40 : ai_LV RL 40 mX4_wish 4 4 := ⟨vL_40, okX4_wish, clx4, by decide, rfl, rfl⟩
theorem VX4_102 : ai_LV RX4 102 mX4_refusalOfWish 4 4 := ⟨vX4_102, okX4_refusalOfWish, clx4, by decide, rfl, rfl⟩
theorem VX4_106 : ai_LV RX4 106 mX0_add 4 0 := ⟨vX4_106, okX0_add, clx0, by decide, rfl, rfl⟩
theorem VL_45 : ai_LV RL 45 mX4_wished 2 4 := ⟨vL_45, okX4_wished, clx4, by decide, rfl, rfl⟩
theorem VX4_109 : ai_LV RX4 109 mX0_hasWish 1 0 := ⟨vX4_109, okX0_hasWish, clx0, by decide, rfl, rfl⟩
theorem VL_49 : ai_LV RL 49 mX4_fix 3 4 := ⟨vL_49, okX4_fix, clx4, by decide, rfl, rfl⟩
theorem VX4_123 : ai_LV RX4 123 mX0_wants 2 0 := ⟨vX4_123, okX0_wants, clx0, by decide, rfl, rfl⟩
theorem VL_53 : ai_LV RL 53 mX4_drop 0 4 := ⟨vL_53, okX4_drop, clx4, by decide, rfl, rfl⟩
theorem VL_58 : ai_LV RL 58 mX4_best 0 4 := ⟨vL_58, okX4_best, clx4, by decide, rfl, rfl⟩
theorem VX4_127 : ai_LV RX4 127 mX4_learnCheapest 0 4 := ⟨vX4_127, okX4_learnCheapest, clx4, by decide, rfl, rfl⟩
theorem VX4_147 : ai_LV RX4 147 mX3_aim 3 3 := ⟨vX4_147, okX3_aim, clx3, by decide, rfl, rfl⟩
theorem VX3_64 : ai_LV RX3 64 mX2_clear 0 2 := ⟨vX3_64, okX2_clear, clx2, by decide, rfl, rfl⟩
theorem VX3_68 : ai_LV RX3 68 mX3_aimAt 3 3 := ⟨vX3_68, okX3_aimAt, clx3, by decide, rfl, rfl⟩
theorem VX3_85 : ai_LV RX3 85 mX1_steps 2 1 := ⟨vX3_85, okX1_steps, clx1, by decide, rfl, rfl⟩
theorem VX3_87 : ai_LV RX3 87 mX0_wants 2 0 := ⟨vX3_87, okX0_wants, clx0, by decide, rfl, rfl⟩
theorem VX3_91 : ai_LV RX3 91 mX0_openFeet 4 0 := ⟨vX3_91, okX0_openFeet, clx0, by decide, rfl, rfl⟩
theorem VX0_35 : ai_LV RX0 35 mX1_hasUnit 1 1 := ⟨vX0_35, okX1_hasUnit, clx1, by decide, rfl, rfl⟩
theorem VX0_44 : ai_LV RX0 44 mX1_feetOfVolt 1 1 := ⟨vX0_44, okX1_feetOfVolt, clx1, by decide, rfl, rfl⟩
theorem VX3_75 : ai_LV RX3 75 mX0_countOfKind 2 0 := ⟨vX3_75, okX0_countOfKind, clx0, by decide, rfl, rfl⟩
theorem VX3_79 : ai_LV RX3 79 mX1_countOfKind 1 1 := ⟨vX3_79, okX1_countOfKind, clx1, by decide, rfl, rfl⟩
theorem VX4_155 : ai_LV RX4 155 mX3_findLeast 0 3 := ⟨vX4_155, okX3_findLeast, clx3, by decide, rfl, rfl⟩
theorem VX3_99 : ai_LV RX3 99 mX3_begin 1 3 := ⟨vX3_99, okX3_begin, clx3, by decide, rfl, rfl⟩
theorem VX3_132 : ai_LV RX3 132 mX3_setBounds 0 3 := ⟨vX3_132, okX3_setBounds, clx3, by decide, rfl, rfl⟩
theorem VX3_135 : ai_LV RX3 135 mX3_lightestFoot 3 3 := ⟨vX3_135, okX3_lightestFoot, clx3, by decide, rfl, rfl⟩
theorem VX3_139 : ai_LV RX3 139 mX3_weigh 4 3 := ⟨vX3_139, okX3_weigh, clx3, by decide, rfl, rfl⟩
theorem VX3_103 : ai_LV RX3 103 mX3_giveUnit 2 3 := ⟨vX3_103, okX3_giveUnit, clx3, by decide, rfl, rfl⟩
theorem VX3_149 : ai_LV RX3 149 mX3_reach 1 3 := ⟨vX3_149, okX3_reach, clx3, by decide, rfl, rfl⟩
theorem VX3_95 : ai_LV RX3 95 mX2_copy 1 2 := ⟨vX3_95, okX2_copy, clx2, by decide, rfl, rfl⟩
theorem VX3_152 : ai_LV RX3 152 mX3_isOver 0 3 := ⟨vX3_152, okX3_isOver, clx3, by decide, rfl, rfl⟩
theorem VX3_156 : ai_LV RX3 156 mX3_giveFoot 3 3 := ⟨vX3_156, okX3_giveFoot, clx3, by decide, rfl, rfl⟩
theorem VX3_160 : ai_LV RX3 160 mX3_wishedFrom 2 3 := ⟨vX3_160, okX3_wishedFrom, clx3, by decide, rfl, rfl⟩
theorem SX3_163 : ai_LS RX3 163 mJ6_bitCount_0f7a4 1 := ⟨sX3_163, okJ6_bitCount_0f7a4, by decide, rfl, rfl⟩
theorem VX4_159 : ai_LV RX4 159 mX2_copy 1 2 := ⟨vX4_159, okX2_copy, clx2, by decide, rfl, rfl⟩
theorem VL_62 : ai_LV RL 62 mX4_given 2 4 := ⟨vL_62, okX4_given, clx4, by decide, rfl, rfl⟩
theorem VX4_130 : ai_LV RX4 130 mX2_unitOf 1 2 := ⟨vX4_130, okX2_unitOf, clx2, by decide, rfl, rfl⟩
theorem VX4_133 : ai_LV RX4 133 mX2_footOf 2 2 := ⟨vX4_133, okX2_footOf, clx2, by decide, rfl, rfl⟩
theorem VL_66 : ai_LV RL 66 mX4_crossings 0 4 := ⟨vL_66, okX4_crossings, clx4, by decide, rfl, rfl⟩
theorem VX4_137 : ai_LV RX4 137 mX4_countCrossings 1 4 := ⟨vX4_137, okX4_countCrossings, clx4, by decide, rfl, rfl⟩
theorem SX4_186 : ai_LS RX4 186 mX4_cross 4 := ⟨sX4_186, okX4_cross, by decide, rfl, rfl⟩
theorem VL_70 : ai_LV RL 70 mX4_blame 0 4 := ⟨vL_70, okX4_blame, clx4, by decide, rfl, rfl⟩
theorem VX4_144 : ai_LV RX4 144 mX4_isPossible 1 4 := ⟨vX4_144, okX4_isPossible, clx4, by decide, rfl, rfl⟩
theorem VX4_152 : ai_LV RX4 152 mX3_countUpTo 1 3 := ⟨vX4_152, okX3_countUpTo, clx3, by decide, rfl, rfl⟩
theorem VL_74 : ai_LV RL 74 mX4_many 0 4 := ⟨vL_74, okX4_many, clx4, by decide, rfl, rfl⟩
theorem VL_78 : ai_LV RL 78 mX4_trial 4 4 := ⟨vL_78, okX4_trial, clx4, by decide, rfl, rfl⟩
theorem VL_82 : ai_LV RL 82 mX4_hold 0 4 := ⟨vL_82, okX4_hold, clx4, by decide, rfl, rfl⟩
theorem VL_86 : ai_LV RL 86 mX4_change 0 4 := ⟨vL_86, okX4_change, clx4, by decide, rfl, rfl⟩
theorem VX4_166 : ai_LV RX4 166 mX3_compareWith 1 3 := ⟨vX4_166, okX3_compareWith, clx3, by decide, rfl, rfl⟩
theorem VL_90 : ai_LV RL 90 mX4_held 2 4 := ⟨vL_90, okX4_held, clx4, by decide, rfl, rfl⟩
theorem VL_94 : ai_LV RL 94 mX4_setting 1 4 := ⟨vL_94, okX4_setting, clx4, by decide, rfl, rfl⟩
theorem VX4_172 : ai_LV RX4 172 mX2_slotOn 1 2 := ⟨vX4_172, okX2_slotOn, clx2, by decide, rfl, rfl⟩
theorem VL_98 : ai_LV RL 98 mX4_stands 0 4 := ⟨vL_98, okX4_stands, clx4, by decide, rfl, rfl⟩
theorem VX4_178 : ai_LV RX4 178 mX4_isGivingNow 1 4 := ⟨vX4_178, okX4_isGivingNow, clx4, by decide, rfl, rfl⟩
theorem VX4_198 : ai_LV RX4 198 mX4_fits 3 4 := ⟨vX4_198, okX4_fits, clx4, by decide, rfl, rfl⟩
theorem VX4_202 : ai_LV RX4 202 mX0_openFeet 4 0 := ⟨vX4_202, okX0_openFeet, clx0, by decide, rfl, rfl⟩
theorem VL_102 : ai_LV RL 102 mX4_told 1 4 := ⟨vL_102, okX4_told, clx4, by decide, rfl, rfl⟩
theorem VX5_65 : ai_LV RX5 65 mX5_begin 0 5 := ⟨vX5_65, okX5_begin, clx5, by decide, rfl, rfl⟩
theorem VX5_77 : ai_LV RX5 77 mX5_empty 0 5 := ⟨vX5_77, okX5_empty, clx5, by decide, rfl, rfl⟩
theorem VL_17 : ai_LV RL 17 mX5_feet 1 5 := ⟨vL_17, okX5_feet, clx5, by decide, rfl, rfl⟩
theorem SX5_84 : ai_LS RX5 84 mX5_in 3 := ⟨sX5_84, okX5_in, by decide, rfl, rfl⟩
theorem VL_22 : ai_LV RL 22 mX5_volt 2 5 := ⟨vL_22, okX5_volt, clx5, by decide, rfl, rfl⟩
theorem VX5_88 : ai_LV RX5 88 mX5_isFoot 1 5 := ⟨vX5_88, okX5_isFoot, clx5, by decide, rfl, rfl⟩
theorem VL_26 : ai_LV RL 26 mX5_unit 1 5 := ⟨vL_26, okX5_unit, clx5, by decide, rfl, rfl⟩
theorem VL_30 : ai_LV RL 30 mX5_kind 1 5 := ⟨vL_30, okX5_kind, clx5, by decide, rfl, rfl⟩
theorem VL_35 : ai_LV RL 35 mX5_use 3 5 := ⟨vL_35, okX5_use, clx5, by decide, rfl, rfl⟩
theorem VX5_92 : ai_LV RX5 92 mX5_can 3 5 := ⟨vX5_92, okX5_can, clx5, by decide, rfl, rfl⟩
theorem VL_39 : ai_LV RL 39 mX5_about 2 5 := ⟨vL_39, okX5_about, clx5, by decide, rfl, rfl⟩
theorem VL_44 : ai_LV RL 44 mX5_wish 4 5 := ⟨vL_44, okX5_wish, clx5, by decide, rfl, rfl⟩
theorem VL_48 : ai_LV RL 48 mX5_wished 2 5 := ⟨vL_48, okX5_wished, clx5, by decide, rfl, rfl⟩
theorem VX5_95 : ai_LV RX5 95 mX5_isWish 1 5 := ⟨vX5_95, okX5_isWish, clx5, by decide, rfl, rfl⟩
theorem VL_52 : ai_LV RL 52 mX5_fix 3 5 := ⟨vL_52, okX5_fix, clx5, by decide, rfl, rfl⟩
theorem VX5_98 : ai_LV RX5 98 mX5_hasRole 2 5 := ⟨vX5_98, okX5_hasRole, clx5, by decide, rfl, rfl⟩
theorem VL_57 : ai_LV RL 57 mX5_drop 0 5 := ⟨vL_57, okX5_drop, clx5, by decide, rfl, rfl⟩
theorem VL_61 : ai_LV RL 61 mX5_best 0 5 := ⟨vL_61, okX5_best, clx5, by decide, rfl, rfl⟩
theorem VX5_155 : ai_LV RX5 155 mX5_find 1 5 := ⟨vX5_155, okX5_find, clx5, by decide, rfl, rfl⟩
theorem VX5_140 : ai_LV RX5 140 mX5_all 0 5 := ⟨vX5_140, okX5_all, clx5, by decide, rfl, rfl⟩
theorem VX5_144 : ai_LV RX5 144 mX5_start 2 5 := ⟨vX5_144, okX5_start, clx5, by decide, rfl, rfl⟩
theorem VX5_148 : ai_LV RX5 148 mX5_next 0 5 := ⟨vX5_148, okX5_next, clx5, by decide, rfl, rfl⟩
theorem VX5_131 : ai_LV RX5 131 mX5_fits 2 5 := ⟨vX5_131, okX5_fits, clx5, by decide, rfl, rfl⟩
theorem VX5_117 : ai_LV RX5 117 mX5_unitPlace 1 5 := ⟨vX5_117, okX5_unitPlace, clx5, by decide, rfl, rfl⟩
theorem VX5_134 : ai_LV RX5 134 mX5_isBetter 1 5 := ⟨vX5_134, okX5_isBetter, clx5, by decide, rfl, rfl⟩
theorem VX5_125 : ai_LV RX5 125 mX5_movesTo 1 5 := ⟨vX5_125, okX5_movesTo, clx5, by decide, rfl, rfl⟩
theorem VX5_128 : ai_LV RX5 128 mX5_costTo 1 5 := ⟨vX5_128, okX5_costTo, clx5, by decide, rfl, rfl⟩
theorem VX5_121 : ai_LV RX5 121 mX5_steps 2 5 := ⟨vX5_121, okX5_steps, clx5, by decide, rfl, rfl⟩
theorem VX5_152 : ai_LV RX5 152 mX5_keepBest 0 5 := ⟨vX5_152, okX5_keepBest, clx5, by decide, rfl, rfl⟩
theorem VX5_137 : ai_LV RX5 137 mX5_keepBound 0 5 := ⟨vX5_137, okX5_keepBound, clx5, by decide, rfl, rfl⟩
theorem VL_65 : ai_LV RL 65 mX5_given 2 5 := ⟨vL_65, okX5_given, clx5, by decide, rfl, rfl⟩
theorem VL_69 : ai_LV RL 69 mX5_crossings 0 5 := ⟨vL_69, okX5_crossings, clx5, by decide, rfl, rfl⟩
theorem SX5_159 : ai_LS RX5 159 mX5_isBetween 3 := ⟨sX5_159, okX5_isBetween, by decide, rfl, rfl⟩
theorem VL_73 : ai_LV RL 73 mX5_blame 0 5 := ⟨vL_73, okX5_blame, clx5, by decide, rfl, rfl⟩
theorem SX5_162 : ai_LS RX5 162 mX5_bits 1 := ⟨sX5_162, okX5_bits, by decide, rfl, rfl⟩
theorem VL_77 : ai_LV RL 77 mX5_many 0 5 := ⟨vL_77, okX5_many, clx5, by decide, rfl, rfl⟩
theorem VL_81 : ai_LV RL 81 mX5_trial 4 5 := ⟨vL_81, okX5_trial, clx5, by decide, rfl, rfl⟩
theorem VX5_166 : ai_LV RX5 166 mX5_wish 4 5 := ⟨vX5_166, okX5_wish, clx5, by decide, rfl, rfl⟩
theorem VX5_170 : ai_LV RX5 170 mX5_best 0 5 := ⟨vX5_170, okX5_best, clx5, by decide, rfl, rfl⟩
theorem VL_85 : ai_LV RL 85 mX5_hold 0 5 := ⟨vL_85, okX5_hold, clx5, by decide, rfl, rfl⟩
theorem VX5_173 : ai_LV RX5 173 mX5_take 0 5 := ⟨vX5_173, okX5_take, clx5, by decide, rfl, rfl⟩
theorem VL_89 : ai_LV RL 89 mX5_change 0 5 := ⟨vL_89, okX5_change, clx5, by decide, rfl, rfl⟩
theorem VL_93 : ai_LV RL 93 mX5_held 2 5 := ⟨vL_93, okX5_held, clx5, by decide, rfl, rfl⟩
theorem VL_97 : ai_LV RL 97 mX5_setting 1 5 := ⟨vL_97, okX5_setting, clx5, by decide, rfl, rfl⟩
theorem VL_101 : ai_LV RL 101 mX5_stands 0 5 := ⟨vL_101, okX5_stands, clx5, by decide, rfl, rfl⟩
theorem VL_105 : ai_LV RL 105 mX5_told 1 5 := ⟨vL_105, okX5_told, clx5, by decide, rfl, rfl⟩
theorem NX0_31 : ai_LN RX0 31 mX4_isRole 1 := ⟨⟨RX4, List.mem_cons_of_mem _ (List.mem_cons_of_mem _ List.mem_cons_self)⟩, stX4_isRole, okX4_isRole, by decide, rfl, rfl⟩
