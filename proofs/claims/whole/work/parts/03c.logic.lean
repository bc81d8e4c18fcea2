def ai_set (σ : ai_M) (c : Nat) (f : Nat → Int32) : ai_M := fun c' => if c' = c then f else σ c'
theorem ai_w_setA {cA : ClassId} {g : Nat → Nat} {base c n : Nat} {f : Nat → Int32} {yr : ai_L} {σ : ai_M} (h : yr[c]? = some (.inl n)) :
    (ai_w cA g base yr σ).set c (base + c, .inl (cA, n, .inl f)) = ai_w cA g base yr (ai_set σ (c + 2) f) := by
  have hl := (List.getElem?_eq_some_iff.mp h).1
  apply List.ext_getElem?
  intro j
  by_cases hj : c = j
  · subst hj
    rw [List.getElem?_set_self (by rw [ai_w_len]; exact hl), ai_w_get h]
    simp [ai_e, ai_set]
  · rw [List.getElem?_set_ne hj]
    cases hq : yr[j]? with
    | none => simp [ai_w, List.getElem?_mapIdx, hq]
    | some q => rw [ai_w_get hq, ai_w_get hq, ai_set, if_neg (by omega)]
theorem ai_X_set {b n : Nat} {σ : ai_M} {c : Nat} {f : Nat → Int32} {s : State} {H : Heap} (i : Nat) (hi : i < 2) (h : ai_X b n (σ i) s H) : ai_X b n (ai_set σ (c + 2) f i) s H := by
  rw [ai_set, if_neg (by omega)]; exact h
theorem ai_X_new {b n : Nat} {σ : ai_M} {c : Nat} {s : State} {H : Heap} (i : Nat) (hi : i < 2) (h : ai_X b n (σ i) s H) : ai_X b n (ai_new σ (c + 2) i) s H := by
  rw [ai_new, if_neg (by omega)]; exact h
/-- the heap is as long as the list of its cells -/
theorem ai_sz {p : Program} {l : Launch} {e : Env} {R : Room} {s : State} {m : MethodId} {args : Array Value} {below : List Frame} {meth : Method} {c : Code} {T : State} {locs : List Loc} {nc ns : Nat} {H : Heap} {D : va_G} {cA : ClassId} {base b sb n0 n1 : Nat} {y yr : ai_L} {σ : ai_M}
    (X : Stand p l e R s m args below meth c T locs nc ns) (hT : T.heap = H) (hb : base ≤ s.heap.size) (hS : va_S (fun q => base ≤ q) s.heap H locs) (h1 : s.heap.size + nc + 2 = base + y.length) (i1 : y = .inl n0 :: .inl n1 :: yr) (i3 : va_P D vwCl (ai_w cA (ai_ad base b sb) base yr σ) H) : H.size = base + yr.length := by
  have h2 := X.heapSize
  rw [hT] at h2
  rw [i1] at h1
  simp only [List.length_cons] at h1
  have h3 : base + yr.length ≤ H.size := by
    cases hn : yr.length with
    | zero => exact Nat.le_trans hb hS.1
    | succ k =>
      have hk : k < yr.length := by omega
      have := (i3 k _ (ai_w_get (List.getElem?_eq_getElem hk))).lt
      dsimp only at this
      omega
  omega
/-- a class that is made: its number, the fields of a new object -/
def ai_Cl (own : String) (idx ci : Nat) (fs : List (Option (Option Nat))) : Prop := ∃ (C : String) (T : u_T) (ty0 : Nat → FieldType), vwCl[ci]? = some (C, T, fs.length) ∧ (∀ w ∈ u_ws C T fs.length, w ∈ ai_W) ∧ (∀ k, k < fs.length → parseFieldDescriptor (T k).2.2.1 = some (ty0 k)) ∧ Cond.classLink own idx C ∈ ai_W ∧ Cond.instantiable C fs.length ∈ ai_W ∧ Cond.initialized C ∈ ai_W ∧ ∀ j, j < fs.length → (fs[j]? = some none ∧ defaultValue (ty0 j) = .int 0) ∨ (fs[j]? = some (some none) ∧ defaultValue (ty0 j) = .null)
section EV5
variable {μ : ai_I} {d pc : Nat} {ls : List (Option Value)} {st : List Value} {y : ai_L} {σ : ai_M} {nc ns : Nat} {Q : Option Value → ai_L → ai_M → Prop}
theorem ev_newa {n : Int32} (N : Nat) (hd : decode μ.2.1 pc = .ok (.newarray .int, 2)) (hw : Cond.arrayClass .int ∈ ai_W) (hn : ¬ n < 0) (hN : n.toNatClampNeg = N) (hb : N ≤ 1000) (hc : nc + 1 ≤ μ.2.2.2.2.1) (hs : ns + N ≤ μ.2.2.2.2.2) (kk : ev μ d (pc + 2) ls (.ref y.length :: st) (y ++ [.inl N]) (ai_new σ y.length) (nc + 1) (ns + N) Q) : ev μ d pc ls (.int n :: st) y σ nc ns Q := by
  intro p l e R s m args below meth c D cA base b sb H locs sl F hC hE hI hS hL h1 h2 hF
  obtain ⟨n0, n1, yr, i1, i3, i4, i5⟩ := id hI
  intro T hT X
  have hz := ai_sz X hT hE.1 hS h1.1 i1 i3
  have hyl : y.length = yr.length + 2 := by rw [i1]; rfl
  refine (?_ : W p l e R s m args below meth c H locs nc ns F (F0 m pc sl (.int n :: st.map (ai_v (ai_ad base b sb))))) T hT X
  refine va_newaK (atype := .int) hC.1 hC.2.1 (hC.2.2.2.2.1 _ hw) rfl hd rfl hn hN (by show N * 4 ≤ _; omega) (Nat.le_trans hc hC.2.2.2.2.2.2.2.2.1) (Nat.le_trans hs hC.2.2.2.2.2.2.2.2.2) rfl (fun H1 cA' e1 z1 o1 hAr hNm => ?_)
  have hcA : cA' = cA := by
    have h9 : s.vm.findClass ("[" ++ FieldType.int.toString) = some cA := (hE.2.2.2.1.2 0 _ rfl).2
    exact Option.some.inj (hNm.symm.trans h9)
  subst hcA
  have hS1 : va_S (fun q => base ≤ q) s.heap H1 locs := ⟨Nat.le_trans hS.1 (by omega), fun x q1 q2 => (o1 x (Nat.lt_of_lt_of_le q1 hS.1)).trans (hS.2.1 x q1 q2), hS.2.2⟩
  have K := kk p l e R s m args below meth c D cA' base b sb H1 locs sl F hC hE ⟨n0, n1, yr ++ [.inl N], by rw [i1]; rfl, ?_, ?_, ?_⟩ hS1 hL ⟨by rw [List.length_append]; simp only [List.length_cons, List.length_nil]; omega, hc⟩ hs hF
  · rw [hz]
    rw [hyl] at K
    simp only [List.map_cons] at K
    have e9 : ai_v (ai_ad base b sb) (.ref (yr.length + 2)) = .ref (base + yr.length) := by show Value.ref (ai_ad base b sb (yr.length + 2)) = _; rw [ai_ad2]
    rw [e9] at K
    exact K
  · rw [hyl, ai_w_push]
    refine (i3.kept (fun k x hx => o1 x.1 ((i3 k x hx).lt))).app (fun k x hx => ?_)
    have hk0 : k < 1 := (List.getElem?_eq_some_iff.mp hx).1
    rw [show k = 0 by omega] at hx
    cases hx
    show H1[base + yr.length]? = some (vp_cell _ _)
    rw [← hz, e1]
    rfl
  · rw [hyl]; exact ai_ext hE.2.1 hE.1 hS hS1 (ai_X_new 0 (by omega) i4)
  · rw [hyl]; exact ai_ext hE.2.2.1 hE.1 hS hS1 (ai_X_new 1 (by omega) i5)
theorem ev_new {idx ci : Nat} (fs : List (Option (Option Nat))) (hd : decode μ.2.1 pc = .ok (.new idx, 3)) (hcl : ai_Cl μ.1.cls idx ci fs) (hc : nc + 1 ≤ μ.2.2.2.2.1) (hs : ns + fs.length ≤ μ.2.2.2.2.2) (kk : ev μ d (pc + 3) ls (.ref y.length :: st) (y ++ [.inr (ci, fs)]) (ai_new σ y.length) (nc + 1) (ns + fs.length) Q) : ev μ d pc ls st y σ nc ns Q := by
  intro p l e R s m args below meth c D cA base b sb H locs sl F hC hE hI hS hL h1 h2 hF
  obtain ⟨n0, n1, yr, i1, i3, i4, i5⟩ := id hI
  obtain ⟨C, T0, ty0, f1, f2, f3, f4, f5, f6, f7⟩ := hcl
  intro T hT X
  have hz := ai_sz X hT hE.1 hS h1.1 i1 i3
  have hyl : y.length = yr.length + 2 := by rw [i1]; rfl
  have hts := hC.2.2.2.2.1
  have hKn := hE.2.2.2.1.1 ci _ f1
  refine (?_ : W p l e R s m args below meth c H locs nc ns F (F0 m pc sl (st.map (ai_v (ai_ad base b sb))))) T hT X
  refine W.newcK hC.1 hC.2.1 hC.2.2.2.1 (hts _ f4) (hts _ f5) (hts _ f6) rfl hd (Nat.le_trans hc hC.2.2.2.2.2.2.2.2.1) (Nat.le_trans hs hC.2.2.2.2.2.2.2.2.2) hKn.2.1 rfl (fun H1 kC hkC e1 z1 o1 => ?_)
  have hS1 : va_S (fun q => base ≤ q) s.heap H1 locs := ⟨Nat.le_trans hS.1 (by omega), fun x q1 q2 => (o1 x (Nat.lt_of_lt_of_le q1 hS.1)).trans (hS.2.1 x q1 q2), hS.2.2⟩
  have K := kk p l e R s m args below meth c D cA base b sb H1 locs sl F hC hE ⟨n0, n1, yr ++ [.inr (ci, fs)], by rw [i1]; rfl, ?_, ?_, ?_⟩ hS1 hL ⟨by rw [List.length_append]; simp only [List.length_cons, List.length_nil]; omega, hc⟩ hs hF
  · rw [hz]
    rw [hyl] at K
    simp only [List.map_cons] at K
    have e9 : ai_v (ai_ad base b sb) (.ref (yr.length + 2)) = .ref (base + yr.length) := by show Value.ref (ai_ad base b sb (yr.length + 2)) = _; rw [ai_ad2]
    rw [e9] at K
    exact K
  · rw [hyl, ai_w_push]
    refine (i3.kept (fun k x hx => o1 x.1 ((i3 k x hx).lt))).app (fun k x hx => ?_)
    have hk0 : k < 1 := (List.getElem?_eq_some_iff.mp hx).1
    rw [show k = 0 by omega] at hx
    cases hx
    refine ⟨_, f1, (hz ▸ u_born ty0 hts f2 hKn hkC e1 f3).to (fun j hj => ?_)⟩
    rcases f7 j hj with ⟨a1, a2⟩ | ⟨a1, a2⟩
    · rw [a2]
      unfold vp_V
      simp [List.getElem?_mapIdx, a1, ai_o]
    · rw [a2]
      unfold vp_V
      simp [List.getElem?_mapIdx, a1, ai_o]
  · rw [hyl]; exact ai_ext hE.2.1 hE.1 hS hS1 (ai_X_new 0 (by omega) i4)
  · rw [hyl]; exact ai_ext hE.2.2.1 hE.1 hS hS1 (ai_X_new 1 (by omega) i5)
def ai_Ob (own : String) (idx : Nat) : Prop := Cond.methodLink own idx objectInit ∈ ai_W ∧ Cond.instanceMethod objectInit ∈ ai_W ∧ Cond.code objectInit ⟨#[0xb1]⟩ 1 none ∈ ai_W
theorem ev_obj {idx a : Nat} (hd : decode μ.2.1 pc = .ok (.invokespecial idx, 3)) (hw : ai_Ob μ.1.cls idx) (hr : (st.map fun v => v.category).sum ≤ 8) (kk : ev μ (d + 1) (pc + 3) ls st y σ nc ns Q) : ev μ (d + 1) pc ls (.ref a :: st) y σ nc ns Q := by
  intro p l e R s m args below meth c D cA base b sb H locs sl F hC hE hI hS hL h1 h2 hF
  have hts := hC.2.2.2.2.1
  have hfr := hC.2.2.2.2.2.2.1
  have hlo := hC.2.2.2.2.2.2.2.1
  have hr' := ai_cats (ai_ad base b sb) st
  exact W.objInit hC.1 hC.2.1 hC.2.2.2.1 (hts _ hw.1) (hts _ hw.2.1) (hts _ hw.2.2) rfl (hL.1.trans hC.2.2.1.symm) rfl hd (by omega) (by show 2 * 0 + _ + 12 ≤ _; rw [hr']; omega) (kk p l e R s m args below meth c D cA base b sb H locs sl F hC hE hI hS hL h1 h2 hF)
def ai_Ma (own : String) (idx : Nat) (y : MethodName) (code : ByteArray) (n : Nat) : Prop := Cond.methodLink own idx y ∈ ai_W ∧ Cond.static y ∈ ai_W ∧ Cond.initialized "java/lang/Math" ∈ ai_W ∧ Cond.code y code n (some .int) ∈ ai_W
theorem ev_min {idx : Nat} {x z : Int32} (hd : decode μ.2.1 pc = .ok (.invokestatic idx, 3)) (hw : ai_Ma μ.1.cls idx Lib.Math.min.name Lib.Math.min.code 2) (hr : (st.map fun v => v.category).sum ≤ 8) (kk : ev μ (d + 1) (pc + 3) ls (.int (if z < x then z else x) :: st) y σ nc ns Q) : ev μ (d + 1) pc ls (.int z :: .int x :: st) y σ nc ns Q := by
  intro p l e R s m args below meth c D cA base b sb H locs sl F hC hE hI hS hL h1 h2 hF
  have hts := hC.2.2.2.2.1
  have hfr := hC.2.2.2.2.2.2.1
  have hlo := hC.2.2.2.2.2.2.2.1
  have hr' := ai_cats (ai_ad base b sb) st
  exact va_mmin hC.1 hC.2.1 (hC.2.2.1.trans hL.1.symm) hC.2.2.2.1 (hts _ hw.1) (hts _ hw.2.1) (hts _ hw.2.2.1) (hts _ hw.2.2.2) (by omega) (by rw [hr']; omega) (Nat.le_trans h1.2 hC.2.2.2.2.2.2.2.2.1) (Nat.le_trans h2 hC.2.2.2.2.2.2.2.2.2) hd (kk p l e R s m args below meth c D cA base b sb H locs sl F hC hE hI hS hL h1 h2 hF)
theorem ev_max {idx : Nat} {x z : Int32} (hd : decode μ.2.1 pc = .ok (.invokestatic idx, 3)) (hw : ai_Ma μ.1.cls idx Lib.Math.max.name Lib.Math.max.code 2) (hr : (st.map fun v => v.category).sum ≤ 8) (kk : ev μ (d + 1) (pc + 3) ls (.int (if x < z then z else x) :: st) y σ nc ns Q) : ev μ (d + 1) pc ls (.int z :: .int x :: st) y σ nc ns Q := by
  intro p l e R s m args below meth c D cA base b sb H locs sl F hC hE hI hS hL h1 h2 hF
  have hts := hC.2.2.2.2.1
  have hfr := hC.2.2.2.2.2.2.1
  have hlo := hC.2.2.2.2.2.2.2.1
  have hr' := ai_cats (ai_ad base b sb) st
  exact va_mmax hC.1 hC.2.1 (hC.2.2.1.trans hL.1.symm) hC.2.2.2.1 (hts _ hw.1) (hts _ hw.2.1) (hts _ hw.2.2.1) (hts _ hw.2.2.2) (by omega) (by rw [hr']; omega) (Nat.le_trans h1.2 hC.2.2.2.2.2.2.2.2.1) (Nat.le_trans h2 hC.2.2.2.2.2.2.2.2.2) hd (kk p l e R s m args below meth c D cA base b sb H locs sl F hC hE hI hS hL h1 h2 hF)
theorem ev_abs {idx : Nat} {x : Int32} (hd : decode μ.2.1 pc = .ok (.invokestatic idx, 3)) (hw : ai_Ma μ.1.cls idx Lib.Math.abs.name Lib.Math.abs.code 1) (hr : (st.map fun v => v.category).sum ≤ 8) (kk : ev μ (d + 1) (pc + 3) ls (.int (if 0 ≤ x then x else 0 - x) :: st) y σ nc ns Q) : ev μ (d + 1) pc ls (.int x :: st) y σ nc ns Q := by
  intro p l e R s m args below meth c D cA base b sb H locs sl F hC hE hI hS hL h1 h2 hF
  have hts := hC.2.2.2.2.1
  have hfr := hC.2.2.2.2.2.2.1
  have hlo := hC.2.2.2.2.2.2.2.1
  have hr' := ai_cats (ai_ad base b sb) st
  exact va_mabs hC.1 hC.2.1 (hC.2.2.1.trans hL.1.symm) hC.2.2.2.1 (hts _ hw.1) (hts _ hw.2.1) (hts _ hw.2.2.1) (hts _ hw.2.2.2) (by omega) (by rw [hr']; omega) (Nat.le_trans h1.2 hC.2.2.2.2.2.2.2.2.1) (Nat.le_trans h2 hC.2.2.2.2.2.2.2.2.2) hd (kk p l e R s m args below meth c D cA base b sb H locs sl F hC hE hI hS hL h1 h2 hF)
def ai_Ac (own : String) (idx : Nat) : Prop := Cond.methodLink own idx arraycopyName ∈ ai_W ∧ Cond.native arraycopyName ∈ ai_W ∧ Cond.static arraycopyName ∈ ai_W ∧ Cond.initialized "java/lang/System" ∈ ai_W
theorem ev_copy {idx a0 a1 n0' n1' : Nat} {sp dp n : Int32} (hd : decode μ.2.1 pc = .ok (.invokestatic idx, 3)) (hw : ai_Ac μ.1.cls idx) (hr : (st.map fun v => v.category).sum ≤ 8) (ha0 : 2 ≤ a0) (ha1 : 2 ≤ a1) (hy0 : y[a0]? = some (.inl n0')) (hy1 : y[a1]? = some (.inl n1')) (q1 : ¬ sp < 0) (q2 : ¬ dp < 0) (q3 : ¬ n < 0) (q4 : sp.toNatClampNeg + n.toNatClampNeg ≤ n0') (q5 : dp.toNatClampNeg + n.toNatClampNeg ≤ n1')
    (kk : ev μ (d + 1) (pc + 3) ls st y (ai_set σ a1 (va_cpy (σ a0) (σ a1) sp.toNatClampNeg dp.toNatClampNeg n.toNatClampNeg)) nc ns Q) : ev μ (d + 1) pc ls (.int n :: .int dp :: .ref a1 :: .int sp :: .ref a0 :: st) y σ nc ns Q := by
  intro p l e R s m args below meth c D cA base b sb H locs sl F hC hE hI hS hL h1 h2 hF
  have hts := hC.2.2.2.2.1
  have hfr := hC.2.2.2.2.2.2.1
  have hlo := hC.2.2.2.2.2.2.2.1
  have hr' := ai_cats (ai_ad base b sb) st
  obtain ⟨n0, n1, yr, i1, i3, i4, i5⟩ := id hI
  rcases ai_arr' i1 hy0 with ⟨rfl, rfl⟩ | ⟨rfl, rfl⟩ | ⟨c0, rfl, hc0⟩
  · omega
  · omega
  rcases ai_arr' i1 hy1 with ⟨rfl, rfl⟩ | ⟨rfl, rfl⟩ | ⟨c1, rfl, hc1⟩
  · omega
  · omega
  show W p l e R s m args below meth c H locs nc ns F (F0 m pc sl (.int n :: .int dp :: .ref (ai_ad base b sb (c1 + 2)) :: .int sp :: .ref (ai_ad base b sb (c0 + 2)) :: st.map (ai_v (ai_ad base b sb))))
  rw [ai_ad2, ai_ad2]
  have hnw : nativeFrameWords "java/lang/System" "arraycopy" 5 + 11 ≤ 32 := by decide +kernel
  have hnf : ((st.map (ai_v (ai_ad base b sb))).map fun v => v.category).sum + (nativeFrameWords "java/lang/System" "arraycopy" 5 + 11) ≤ R.locals := by rw [hr']; omega
  refine va_copyi hC.1 hC.2.1 (hC.2.2.1.trans hL.1.symm) hC.2.2.2.1 (hts _ hw.1) (hts _ hw.2.1) (hts _ hw.2.2.1) (hts _ hw.2.2.2) hE.2.2.2.1 i3 (ai_w_D _ _ _ _ _) hS c0 c1 0 0 (ty := .int) (ai_w_get hc0) (ai_w_get hc1) rfl rfl rfl q1 q2 q3 q4 q5 (fun i _ => rfl) (by omega) hnf hd (fun H1 locs1 hP1 hD1 hS1 => ?_)
  rw [ai_w_setA hc1] at hP1
  exact kk p l e R s m args below meth c D cA base b sb H1 locs1 sl F hC hE ⟨n0, n1, yr, i1, hP1, ai_ext hE.2.1 hE.1 hS hS1 (ai_X_set 0 (by omega) i4), ai_ext hE.2.2.1 hE.1 hS hS1 (ai_X_set 1 (by omega) i5)⟩ hS1 hL h1 h2 hF
end EV5
