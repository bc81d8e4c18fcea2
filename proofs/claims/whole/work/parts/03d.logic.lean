theorem ai_args_mem : ∀ (vs : List Value) (k i : Nat) (v : Value), (∀ w ∈ vs, w.category = 1) → vs[i]? = some v → (k + i, v) ∈ lv_args k vs
  | [], k, i, v, _, h => by simp at h
  | w :: vs, k, i, v, hc, h => by
    have hw : w.category = 1 := hc w List.mem_cons_self
    unfold lv_args
    rw [if_neg (by rw [hw]; decide)]
    cases i with
    | zero =>
      rw [List.getElem?_cons_zero] at h
      cases h
      exact List.mem_cons_self
    | succ i =>
      rw [List.getElem?_cons_succ] at h
      have := ai_args_mem vs (k + 1) i v (fun w hw => hc w (List.mem_cons_of_mem _ hw)) h
      rw [show k + (i + 1) = k + 1 + i by omega]
      exact List.mem_cons_of_mem _ this
theorem ai_sl_len : ∀ (vs : List Value), (∀ w ∈ vs, w.category = 1) → (lg_sl vs).length = vs.length
  | [], _ => rfl
  | w :: vs, hc => by
    have hw : w.category = 1 := hc w List.mem_cons_self
    have ih := ai_sl_len vs (fun w hw => hc w (List.mem_cons_of_mem _ hw))
    unfold lg_sl at ih ⊢
    rw [List.flatMap_cons, if_neg (by rw [hw]; decide), List.length_append, ih]
    simp only [List.length_cons, List.length_nil]
    omega
/-- the locals at a method's entry -/
def ai_en (n : Nat) (as : List Value) : List (Option Value) := as.map some ++ List.replicate (n - as.length) none
theorem ai_entry (g : Nat → Nat) (as : List Value) (n : Nat) (hc : ∀ w ∈ as, w.category = 1) (hn : as.length ≤ n) : ai_lv g ((lg_sl (as.map (ai_v g)) ++ List.replicate (n - (lg_sl (as.map (ai_v g))).length) Slot.unset).toArray) n (ai_en n as) := by
  have hc' : ∀ w ∈ as.map (ai_v g), w.category = 1 := by
    intro w hw
    obtain ⟨v, hv, rfl⟩ := List.mem_map.mp hw
    rw [ai_cat]; exact hc v hv
  have h := lv_entry (as.map (ai_v g)) (n := n) (by rw [ai_sl_len _ hc', List.length_map]; exact hn)
  refine ⟨h.1, h.2.1, fun i v hv => ?_⟩
  have hv' : as[i]? = some v := by
    unfold ai_en at hv
    by_cases hi : i < (as.map some).length
    · rw [List.getElem?_append_left hi, List.getElem?_map] at hv
      cases ha : as[i]? with
      | none => rw [ha] at hv; cases hv
      | some w => rw [ha] at hv; cases hv; rfl
    · rw [List.getElem?_append_right (by omega)] at hv
      obtain ⟨_, h9⟩ := List.getElem?_eq_some_iff.mp hv
      rw [List.getElem_replicate] at h9
      cases h9
  refine ⟨hc v (List.mem_of_getElem? hv'), ?_⟩
  have := h.2.2 (0 + i, ai_v g v) (ai_args_mem _ 0 i _ hc' (by rw [List.getElem?_map, hv']; rfl))
  rw [Nat.zero_add] at this
  exact this
def ai_Pre (D : va_G) (cA : ClassId) (base b sb : Nat) (as : List Value) (y : ai_L) (σ : ai_M) : Array Value → State → Prop :=
  va_Pc (as.map (ai_v (ai_ad base b sb))) (fun U => ai_Env D cA base b sb U ∧ ai_Inv D cA base b sb y σ U U.heap ∧ U.heap.size + 2 = base + y.length)
def ai_Post (D : va_G) (cA : ClassId) (base b sb mc : Nat) (Q : Option Value → ai_L → ai_M → Prop) : Array Value → State → Outcome → State → Prop := fun _ st oc t =>
  (∃ (r : Option Value) (y' : ai_L) (σ' : ai_M), oc = .returned (r.map (ai_v (ai_ad base b sb))) ∧ Q r y' σ' ∧ st.heap.size + mc + 2 = base + y'.length ∧ ai_Inv D cA base b sb y' σ' t t.heap) ∧ va_F (fun q => base ≤ q) st t
theorem ai_Inv.moved {D : va_G} {cA : ClassId} {base b sb : Nat} {y : ai_L} {σ : ai_M} {u U : State} {H : Heap} (hvm : u.vm.Alike U.vm) (h : ai_Inv D cA base b sb y σ u H) : ai_Inv D cA base b sb y σ U H := by
  obtain ⟨n0, n1, yr, i1, i3, i4, i5⟩ := h
  exact ⟨n0, n1, yr, i1, i3, i4.moved hvm, i5.moved hvm⟩
theorem ai_nest_w {s U : State} (hW : s.WarmedH U.vm) (h : ∀ w ∈ ai_nest, va_Nw w s) : ∀ w ∈ ai_nest, va_Nw w U := by
  intro w hw
  have h0 := h w hw
  simp only [ai_nest, List.mem_cons, List.mem_nil_iff, or_false] at hw
  rcases hw with rfl | rfl | rfl
  · exact va_Nw.warmM hW h0
  · exact va_Nw.warmM hW h0
  · exact va_Nw.warmM hW h0
theorem ai_nest_s {u U : State} (hv : u.vm = U.vm) (h : ∀ w ∈ ai_nest, va_Nw w u) : ∀ w ∈ ai_nest, va_Nw w U := by
  intro w hw
  have h0 := h w hw
  simp only [ai_nest, List.mem_cons, List.mem_nil_iff, or_false] at hw
  rcases hw with rfl | rfl | rfl
  · exact va_Nw.same rfl hv h0
  · exact va_Nw.same rfl hv h0
  · exact va_Nw.same rfl hv h0
/-- the environment at a call's start -/
theorem ai_Env.at {D : va_G} {cA : ClassId} {base b sb : Nat} {s U : State} {H : Heap} {locs : List Loc} (h : ai_Env D cA base b sb s) (hS : va_S (fun q => base ≤ q) s.heap H locs) (hU : U.heap = H) (hW : s.WarmedH U.vm) : ai_Env D cA base b sb U := by
  obtain ⟨e1, e2, e3, e4, e5, e6⟩ := h
  refine ⟨by rw [hU]; exact Nat.le_trans e1 hS.1, e2, e3, va_K.moved hW.alike e4, ai_nest_w hW e5, ?_⟩
  rw [hU]
  exact va_Z.moved hW.alike (e6.kept (fun a h1 h2 => hS.2.1 a h1 h2))
theorem ai_blind (D : va_G) (cA : ClassId) (base b sb : Nat) (as : List Value) (y : ai_L) (σ : ai_M) : FrameBlind (ai_Pre D cA base b sb as y σ) := by
  intro a U g mk h
  obtain ⟨h0, ⟨e1, e2, e3, e4, e5, e6⟩, h2, h3⟩ := h
  refine ⟨h0, ⟨e1, e2, e3, va_K.moved (u := U) (U := U.calling g mk a) (Vm.Alike.refl U.vm) e4, ai_nest_s (u := U) (U := U.calling g mk a) rfl e5, ?_⟩, ?_, h3⟩
  · exact va_Z.moved (u := U) (U := U.calling g mk a) (Vm.Alike.refl U.vm) e6
  · exact ai_Inv.moved (u := U) (U := U.calling g mk a) (Vm.Alike.refl U.vm) h2
set_option maxHeartbeats 4000000 in
/-- a method's contract out of its walk -/
theorem ai_met {μ : ai_I} {d : Nat} {as : List Value} {y : ai_L} {σ : ai_M} {Q : Option Value → ai_L → ai_M → Prop} (hpl : plainName μ.1.cls = true) (hcat : ∀ v ∈ as, v.category = 1) (hlen : as.length ≤ μ.2.2.1) (h : ev μ d 0 (ai_en μ.2.2.1 as) [] y σ 0 0 Q) (l : Launch) (D : va_G) (cA : ClassId) (base b sb : Nat) :
    Met l μ.1 (.code μ.1 μ.2.1 μ.2.2.1 μ.2.2.2.1 :: ai_W) ({ frames := d, cells := μ.2.2.2.2.1, slots := μ.2.2.2.2.2, locals := 40 * d }) (ai_Pre D cA base b sb as y σ) (ai_Post D cA base b sb μ.2.2.2.2.1 Q) μ.2.2.2.2.1 μ.2.2.2.2.2 (fun q => base ≤ q) := by
  refine Met.ofW (cc := μ.2.1) (maxL := μ.2.2.1) (ret := μ.2.2.2.1) hpl rfl ?_
  intro p e s m args below meth c s₁ B hml hv
  obtain ⟨rfl, hE, hI, hz⟩ := hv
  have hx := B.exec
  have hb := B.bytes
  have hr := B.returns
  have hts := atoms_spec (ws := .code μ.1 μ.2.1 μ.2.2.1 μ.2.2.2.1 :: ai_W) B.pre
  have hown : s.vm.findClass μ.1.cls = some m.cls := findClass_of_methodNamed B.named
  have hlocks := B.notSynchronized
  have hnm : meth.name = μ.1.name := (name_of_methodNamed B.named B.method).1
  rw [lg_entry_eq]
  have hL := ai_entry (ai_ad base b sb) as μ.2.2.1 hcat hlen
  generalize (lg_sl (as.map (ai_v (ai_ad base b sb))) ++ List.replicate (μ.2.2.1 - (lg_sl (as.map (ai_v (ai_ad base b sb)))).length) Slot.unset).toArray = sl at hL ⊢
  refine h p l e _ s m _ below meth c D cA base b sb s.heap [] sl _ ⟨hx, hb, hml, hown, fun w hw => hts w (List.mem_cons_of_mem _ hw), fun h9 => hnm.trans h9, Nat.le_refl d, Nat.le_refl _, Nat.le_refl _, Nat.le_refl _⟩ hE hI va_S.rf hL ⟨by omega, Nat.zero_le _⟩ (Nat.zero_le _) ?_
  intro r y' σ' H' locs' pc' sl' hQ hz' hI' hS' hret
  cases r with
  | none =>
    obtain ⟨q1, q2⟩ := hret
    refine W.vret hx hb (by rw [hr]; exact q2) (fun t ht hW => ⟨⟨none, y', σ', rfl, hQ, hz', ?_⟩, hS'.F ht⟩) hS'.2.2 q1 hlocks
    rw [ht]; exact hI'.moved hW.alike
  | some v =>
    obtain ⟨x, ty, rfl, q1, q2, q3⟩ := hret
    refine W.zret (v := x) (ty := ty) hx hb (by rw [hr]; exact q2) q3 (fun t ht hW => ⟨⟨some (.int x), y', σ', rfl, hQ, hz', ?_⟩, hS'.F ht⟩) hS'.2.2 q1 hlocks
    rw [ht]; exact hI'.moved hW.alike
section GO
variable {p : Program} {l : Launch} {e : Env} {R : Room} {s : State} {m : MethodId} {args : Array Value} {below : List Frame} {meth : Method} {c : Code} {H : Heap} {locs : List Loc} {cells slots : Nat} {F : State → Prop}
theorem ai_go {pc mc ms : Nat} {sl : Array Slot} {st0 rest : List Value} {a : Array Value} {D : va_G} {cA : ClassId} {base b sb : Nat} {Q' : Option Value → ai_L → ai_M → Prop} (hr : va_Run p l e R s m args below meth c H locs cells slots mc ms (F0 m pc sl st0) rest (ai_Post D cA base b sb mc Q' a) (fun q => base ≤ q)) (hS : va_S (fun q => base ≤ q) s.heap H locs)
    (kk : ∀ (r : Option Value) (y' : ai_L) (σ' : ai_M) (H1 : Heap) (locs1 : List Loc), Q' r y' σ' → H.size + mc + 2 = base + y'.length → ai_Inv D cA base b sb y' σ' s H1 → va_S (fun q => base ≤ q) s.heap H1 locs1 → W p l e R s m args below meth c H1 locs1 (cells + mc) (slots + ms) F (F0 m (pc + 3) sl ((r.map (ai_v (ai_ad base b sb))).toList ++ rest))) : W p l e R s m args below meth c H locs cells slots F (F0 m pc sl st0) := by
  intro T hT X
  obtain ⟨v, st₀, t, T', L, h0, X', hL, e1, e2, ⟨⟨r, y', σ', hv, hq, hz, hi⟩, hsz, hk⟩, st⟩ := hr T hT X
  cases hv
  rw [h0] at hz hsz hk
  have hal : t.vm.Alike s.vm := by rw [← e2]; exact X'.warmed.alike.symm
  obtain ⟨t2, a1, b1⟩ := kk r y' σ' T'.heap (locs ++ L) hq hz (by rw [e1]; exact hi.moved hal)
    ⟨Nat.le_trans hS.1 (by rw [e1]; exact hsz), fun q g1 g2 => by rw [e1, hk q (Nat.lt_of_lt_of_le g1 hS.1) g2]; exact hS.2.1 q g1 g2, fun q hq => by
      rcases List.mem_append.mp hq with h | h
      · exact hS.2.2 q h
      · exact hL q h⟩ T' rfl X'
  exact ⟨t2, st t2 a1, b1⟩
end GO
/-- what a call needs of its method -/
def ai_ok (μ : ai_I) (n : Nat) : Prop := Cond.code μ.1 μ.2.1 μ.2.2.1 μ.2.2.2.1 ∈ ai_W ∧ Cond.initialized μ.1.cls ∈ ai_W ∧ plainName μ.1.cls = true ∧ μ.1.cls ≠ "java/lang/invoke/MethodHandle" ∧ μ.1.cls ≠ "java/lang/invoke/VarHandle" ∧ (parseMethodDescriptor μ.1.desc).map (fun d => d.parameters.length) = some n ∧ μ.2.2.1 ≤ 21
theorem ai_gd {μ : ai_I} {n : Nat} (h : ai_ok μ n) : GoodIn ai_W (Cond.code μ.1 μ.2.1 μ.2.2.1 μ.2.2.2.1 :: ai_W) := by
  intro w hw
  rcases List.mem_cons.mp hw with rfl | hw
  · exact ai_good _ h.1
  · exact ai_good _ hw
theorem ai_catc {a : Nat} {as : List Value} (h : ∀ v ∈ as, v.category = 1) : ∀ v ∈ (Value.ref a :: as), v.category = 1 := by
  intro v hv
  rcases List.mem_cons.mp hv with rfl | hv
  · rfl
  · exact h v hv
section EV6
variable {μ : ai_I} {d pc : Nat} {ls : List (Option Value)} {st : List Value} {y : ai_L} {σ : ai_M} {nc ns : Nat} {Q : Option Value → ai_L → ai_M → Prop}
def ai_Vi (own : String) (idx : Nat) (μ' : ai_I) : Prop := Cond.methodLink own idx μ'.1 ∈ ai_W ∧ Cond.instanceMethod μ'.1 ∈ ai_W ∧ Cond.selects μ'.1.cls μ'.1 μ'.1 ∈ ai_W
theorem ev_callV {μ' : ai_I} {n idx ci a : Nat} {as : List Value} {Q' : Option Value → ai_L → ai_M → Prop} (hd : decode μ.2.1 pc = .ok (.invokevirtual idx, 3)) (ho : ai_ok μ' n) (hv : ai_Vi μ.1.cls idx μ') (hy : ∃ fs, y[a]? = some (.inr (ci, fs))) (hcl : ∃ T N, vwCl[ci]? = some (μ'.1.cls, T, N)) (hn : as.length = n) (hcat : ∀ v ∈ as, v.category = 1) (hn' : n + 1 ≤ μ'.2.2.1) (hr : (st.map fun v => v.category).sum ≤ 8)
    (hmc : nc + μ'.2.2.2.2.1 ≤ μ.2.2.2.2.1) (hms : ns + μ'.2.2.2.2.2 ≤ μ.2.2.2.2.2) (hcall : ev μ' d 0 (ai_en μ'.2.2.1 (.ref a :: as)) [] y σ 0 0 Q') (kk : ∀ r y' σ', Q' r y' σ' → ev μ (d + 1) (pc + 3) ls (r.toList ++ st) y' σ' (nc + μ'.2.2.2.2.1) (ns + μ'.2.2.2.2.2) Q) : ev μ (d + 1) pc ls (as.reverse ++ .ref a :: st) y σ nc ns Q := by
  intro p l e R s m args below meth c D cA base b sb H locs sl F hC hE hI hS hL h1 h2 hF
  have hts := hC.2.2.2.2.1
  have hfr := hC.2.2.2.2.2.2.1
  have hlo := hC.2.2.2.2.2.2.2.1
  have hRc := hC.2.2.2.2.2.2.2.2.1
  have hRs := hC.2.2.2.2.2.2.2.2.2
  have hr' := ai_cats (ai_ad base b sb) st
  obtain ⟨n0, n1, yr, i1, i3, i4, i5⟩ := id hI
  obtain ⟨fs, hy⟩ := hy
  obtain ⟨T0, N0, hcl⟩ := hcl
  obtain ⟨c', rfl, hc'⟩ := ai_obj i1 hy
  intro T hT X
  have hz := ai_sz X hT hE.1 hS h1.1 i1 i3
  have hyl : y.length = yr.length + 2 := by rw [i1]; rfl
  have hM := ai_met ho.2.2.1 (as := .ref (c' + 2) :: as) (ai_catc hcat) (by simp only [List.length_cons]; omega) hcall l D cA base b sb
  refine (?_ : W p l e R s m args below meth c H locs nc ns F (F0 m pc sl ((as.reverse ++ .ref (c' + 2) :: st).map (ai_v (ai_ad base b sb))))) T hT X
  have hst : (as.reverse ++ .ref (c' + 2) :: st).map (ai_v (ai_ad base b sb)) = (as.map (ai_v (ai_ad base b sb))).reverse ++ .ref (base + c') :: st.map (ai_v (ai_ad base b sb)) := by
    rw [List.map_append, List.map_reverse, List.map_cons]
    show _ ++ Value.ref (ai_ad base b sb (c' + 2)) :: _ = _
    rw [ai_ad2]
  have hav : ai_v (ai_ad base b sb) (.ref (c' + 2)) = .ref (base + c') := by show Value.ref (ai_ad base b sb (c' + 2)) = _; rw [ai_ad2]
  refine ai_go (va_runV (As := as.map (ai_v (ai_ad base b sb))) (rest := st.map (ai_v (ai_ad base b sb))) (b := base + c') (Ts := ai_W) (own := μ.1.cls) ⟨hC.1, hC.2.1, hC.2.2.1, hC.2.2.2.1, hts⟩ hM
    (cwV n hts (C := μ'.1.cls) (fun w hw => ?_) rfl rfl rfl ⟨rfl, ho.2.2.2.1, ho.2.2.2.2.1, ho.2.2.2.2.2.1⟩ ⟨by show d + 1 ≤ R.frames; exact hfr, by show 8 + (μ'.2.2.1 + 11) + 40 * d ≤ R.locals; have := ho.2.2.2.2.2.2; omega⟩)
    ⟨ai_blind D cA base b sb _ y σ, va_recv hE.2.2.2.1 i3 hcl (ai_w_get hc'), fun U hU hW => ⟨?_, hE.at hS hU hW, ?_, ?_⟩⟩ rfl (by rw [List.length_map]; exact hn) (hL.1) hst (by show 2 * 0 + _ ≤ 8; rw [hr']; omega) hd ⟨Nat.le_trans hmc hRc, Nat.le_trans hms hRs⟩) hS (fun r y' σ' H1 locs1 hq hz1 hI1 hS1 => ?_)
  · unfold wsV at hw
    rcases List.mem_append.mp hw with hw | hw
    · simp only [List.mem_cons, List.mem_nil_iff, or_false] at hw
      rcases hw with rfl | rfl | rfl | rfl
      · exact ai_good _ hv.1
      · exact ai_good _ hv.2.1
      · exact ai_good _ hv.2.2
      · exact ai_good _ ho.2.1
    · exact ai_gd ho _ hw
  · rw [List.map_cons, hav]
  · rw [hU]; exact hI.moved hW.alike
  · rw [hU, hz, hyl]; omega
  · have K := kk r y' σ' hq p l e R s m args below meth c D cA base b sb H1 locs1 sl F hC hE hI1 hS1 hL ⟨by omega, hmc⟩ hms hF
    rw [List.map_append] at K
    cases r with
    | none => exact K
    | some v => exact K
def ai_Si (own : String) (idx : Nat) (μ' : ai_I) : Prop := Cond.methodLink own idx μ'.1 ∈ ai_W ∧ Cond.static μ'.1 ∈ ai_W
theorem ev_callS {μ' : ai_I} {n idx : Nat} {as : List Value} {Q' : Option Value → ai_L → ai_M → Prop} (hd : decode μ.2.1 pc = .ok (.invokestatic idx, 3)) (ho : ai_ok μ' n) (hv : ai_Si μ.1.cls idx μ') (hn : as.length = n) (hcat : ∀ v ∈ as, v.category = 1) (hn' : n ≤ μ'.2.2.1) (hr : (st.map fun v => v.category).sum ≤ 8)
    (hmc : nc + μ'.2.2.2.2.1 ≤ μ.2.2.2.2.1) (hms : ns + μ'.2.2.2.2.2 ≤ μ.2.2.2.2.2) (hcall : ev μ' d 0 (ai_en μ'.2.2.1 as) [] y σ 0 0 Q') (kk : ∀ r y' σ', Q' r y' σ' → ev μ (d + 1) (pc + 3) ls (r.toList ++ st) y' σ' (nc + μ'.2.2.2.2.1) (ns + μ'.2.2.2.2.2) Q) : ev μ (d + 1) pc ls (as.reverse ++ st) y σ nc ns Q := by
  intro p l e R s m args below meth c D cA base b sb H locs sl F hC hE hI hS hL h1 h2 hF
  have hts := hC.2.2.2.2.1
  have hfr := hC.2.2.2.2.2.2.1
  have hlo := hC.2.2.2.2.2.2.2.1
  have hRc := hC.2.2.2.2.2.2.2.2.1
  have hRs := hC.2.2.2.2.2.2.2.2.2
  have hr' := ai_cats (ai_ad base b sb) st
  obtain ⟨n0, n1, yr, i1, i3, i4, i5⟩ := id hI
  intro T hT X
  have hz := ai_sz X hT hE.1 hS h1.1 i1 i3
  have hyl : y.length = yr.length + 2 := by rw [i1]; rfl
  have hM := ai_met ho.2.2.1 (as := as) hcat (by omega) hcall l D cA base b sb
  refine (?_ : W p l e R s m args below meth c H locs nc ns F (F0 m pc sl ((as.reverse ++ st).map (ai_v (ai_ad base b sb))))) T hT X
  have hst : (as.reverse ++ st).map (ai_v (ai_ad base b sb)) = (as.map (ai_v (ai_ad base b sb))).reverse ++ st.map (ai_v (ai_ad base b sb)) := by
    rw [List.map_append, List.map_reverse]
  refine ai_go (va_runS (As := as.map (ai_v (ai_ad base b sb))) (rest := st.map (ai_v (ai_ad base b sb))) (Ts := ai_W) (own := μ.1.cls) ⟨hC.1, hC.2.1, hC.2.2.1, hC.2.2.2.1, hts⟩ hM
    (va_cwS n hts (fun w hw => ?_) rfl rfl rfl ⟨ho.2.2.2.1, ho.2.2.2.2.1, ho.2.2.2.2.2.1⟩ ⟨by show d + 1 ≤ R.frames; exact hfr, by show 8 + (μ'.2.2.1 + 11) + 40 * d ≤ R.locals; have := ho.2.2.2.2.2.2; omega⟩)
    ⟨ai_blind D cA base b sb _ y σ, fun U hU hW => ⟨rfl, hE.at hS hU hW, ?_, ?_⟩⟩ rfl (by rw [List.length_map]; exact hn) (hL.1) hst (by show 2 * 0 + _ ≤ 8; rw [hr']; omega) hd ⟨Nat.le_trans hmc hRc, Nat.le_trans hms hRs⟩) hS (fun r y' σ' H1 locs1 hq hz1 hI1 hS1 => ?_)
  · unfold va_wsS at hw
    rcases List.mem_append.mp hw with hw | hw
    · simp only [List.mem_cons, List.mem_nil_iff, or_false] at hw
      rcases hw with rfl | rfl | rfl
      · exact ai_good _ hv.1
      · exact ai_good _ hv.2
      · exact ai_good _ ho.2.1
    · exact ai_gd ho _ hw
  · rw [hU]; exact hI.moved hW.alike
  · rw [hU, hz, hyl]; omega
  · have K := kk r y' σ' hq p l e R s m args below meth c D cA base b sb H1 locs1 sl F hC hE hI1 hS1 hL ⟨by omega, hmc⟩ hms hF
    rw [List.map_append] at K
    cases r with
    | none => exact K
    | some v => exact K
/-- a nest mate's static method -/
theorem ev_callSN {μ' : ai_I} {n idx : Nat} {host : String} {as : List Value} {Q' : Option Value → ai_L → ai_M → Prop} (hd : decode μ.2.1 pc = .ok (.invokestatic idx, 3)) (ho : ai_ok μ' n) (hv : Cond.methodLinkNest μ.1.cls idx μ'.1 host ∈ ai_nest) (hv2 : Cond.static μ'.1 ∈ ai_W) (hn : as.length = n) (hcat : ∀ v ∈ as, v.category = 1) (hn' : n ≤ μ'.2.2.1) (hr : (st.map fun v => v.category).sum ≤ 8)
    (hmc : nc + μ'.2.2.2.2.1 ≤ μ.2.2.2.2.1) (hms : ns + μ'.2.2.2.2.2 ≤ μ.2.2.2.2.2) (hcall : ev μ' d 0 (ai_en μ'.2.2.1 as) [] y σ 0 0 Q') (kk : ∀ r y' σ', Q' r y' σ' → ev μ (d + 1) (pc + 3) ls (r.toList ++ st) y' σ' (nc + μ'.2.2.2.2.1) (ns + μ'.2.2.2.2.2) Q) : ev μ (d + 1) pc ls (as.reverse ++ st) y σ nc ns Q := by
  intro p l e R s m args below meth c D cA base b sb H locs sl F hC hE hI hS hL h1 h2 hF
  have hts := hC.2.2.2.2.1
  have hfr := hC.2.2.2.2.2.2.1
  have hlo := hC.2.2.2.2.2.2.2.1
  have hRc := hC.2.2.2.2.2.2.2.2.1
  have hRs := hC.2.2.2.2.2.2.2.2.2
  have hr' := ai_cats (ai_ad base b sb) st
  obtain ⟨n0, n1, yr, i1, i3, i4, i5⟩ := id hI
  intro T hT X
  have hz := ai_sz X hT hE.1 hS h1.1 i1 i3
  have hyl : y.length = yr.length + 2 := by rw [i1]; rfl
  have hM := ai_met ho.2.2.1 (as := as) hcat (by omega) hcall l D cA base b sb
  refine (?_ : W p l e R s m args below meth c H locs nc ns F (F0 m pc sl ((as.reverse ++ st).map (ai_v (ai_ad base b sb))))) T hT X
  have hst : (as.reverse ++ st).map (ai_v (ai_ad base b sb)) = (as.map (ai_v (ai_ad base b sb))).reverse ++ st.map (ai_v (ai_ad base b sb)) := by
    rw [List.map_append, List.map_reverse]
  refine ai_go (va_runSN (host := host) (As := as.map (ai_v (ai_ad base b sb))) (rest := st.map (ai_v (ai_ad base b sb))) (Ts := ai_W) (own := μ.1.cls) ⟨hC.1, hC.2.1, hC.2.2.1, hC.2.2.2.1, hts⟩ hM
    ⟨va_cnB n hts (ai_gd ho) rfl rfl rfl (hE.2.2.2.2.1 _ hv) (hts _ ho.2.1) ⟨ho.2.2.2.1, ho.2.2.2.2.1, ho.2.2.2.2.2.1⟩ ⟨by show d + 1 ≤ R.frames; exact hfr, by show 8 + (μ'.2.2.1 + 11) + 40 * d ≤ R.locals; have := ho.2.2.2.2.2.2; omega⟩, hts _ hv2, trivial⟩
    ⟨ai_blind D cA base b sb _ y σ, fun U hU hW => ⟨rfl, hE.at hS hU hW, ?_, ?_⟩⟩ rfl (by rw [List.length_map]; exact hn) (hL.1) hst (by show 2 * 0 + _ ≤ 8; rw [hr']; omega) hd ⟨Nat.le_trans hmc hRc, Nat.le_trans hms hRs⟩) hS (fun r y' σ' H1 locs1 hq hz1 hI1 hS1 => ?_)
  · rw [hU]; exact hI.moved hW.alike
  · rw [hU, hz, hyl]; omega
  · have K := kk r y' σ' hq p l e R s m args below meth c D cA base b sb H1 locs1 sl F hC hE hI1 hS1 hL ⟨by omega, hmc⟩ hms hF
    rw [List.map_append] at K
    cases r with
    | none => exact K
    | some v => exact K
theorem ev_callI {yy : MethodName} {bb : ByteArray} {mL mcc mss idx a : Nat} {Q' : Option Value → ai_L → ai_M → Prop} (ha : 2 ≤ a) (hd : decode μ.2.1 pc = .ok (.invokespecial idx, 3)) (ho : ai_ok (yy, bb, mL, none, mcc, mss) 0) (hv : Cond.methodLink μ.1.cls idx yy ∈ ai_W) (hv2 : Cond.instanceMethod yy ∈ ai_W) (hin : yy.name = "<init>") (hn' : 1 ≤ mL) (hr : (st.map fun v => v.category).sum ≤ 8)
    (hmc : nc + mcc ≤ μ.2.2.2.2.1) (hms : ns + mss ≤ μ.2.2.2.2.2) (hcall : ev (yy, bb, mL, none, mcc, mss) d 0 (ai_en mL [.ref a]) [] y σ 0 0 Q') (kk : ∀ r y' σ', Q' r y' σ' → ev μ (d + 1) (pc + 3) ls (r.toList ++ st) y' σ' (nc + mcc) (ns + mss) Q) : ev μ (d + 1) pc ls (.ref a :: st) y σ nc ns Q := by
  intro p l e R s m args below meth c D cA base b sb H locs sl F hC hE hI hS hL h1 h2 hF
  have hts := hC.2.2.2.2.1
  have hfr := hC.2.2.2.2.2.2.1
  have hlo := hC.2.2.2.2.2.2.2.1
  have hRc := hC.2.2.2.2.2.2.2.2.1
  have hRs := hC.2.2.2.2.2.2.2.2.2
  have hr' := ai_cats (ai_ad base b sb) st
  obtain ⟨n0, n1, yr, i1, i3, i4, i5⟩ := id hI
  intro T hT X
  have hz := ai_sz X hT hE.1 hS h1.1 i1 i3
  have hyl : y.length = yr.length + 2 := by rw [i1]; rfl
  obtain ⟨c', rfl⟩ : ∃ c', a = c' + 2 := ⟨a - 2, by omega⟩
  have hM := ai_met (μ := (yy, bb, mL, none, mcc, mss)) ho.2.2.1 (as := [.ref (c' + 2)]) (ai_catc (fun v h => absurd h List.not_mem_nil)) hn' hcall l D cA base b sb
  have hav : ai_v (ai_ad base b sb) (.ref (c' + 2)) = .ref (base + c') := by show Value.ref (ai_ad base b sb (c' + 2)) = _; rw [ai_ad2]
  refine (?_ : W p l e R s m args below meth c H locs nc ns F (F0 m pc sl ((.ref (c' + 2) :: st).map (ai_v (ai_ad base b sb))))) T hT X
  have hst : (.ref (c' + 2) :: st).map (ai_v (ai_ad base b sb)) = ([] : List Value).reverse ++ .ref (base + c') :: st.map (ai_v (ai_ad base b sb)) := by
    rw [List.map_cons, hav]; rfl
  refine ai_go (va_runI (As := []) (b := base + c') (rest := st.map (ai_v (ai_ad base b sb))) (Ts := ai_W) (own := μ.1.cls) ⟨hC.1, hC.2.1, hC.2.2.1, hC.2.2.2.1, hts⟩ hM
    (cwI 0 hts (ai_gd ho) rfl rfl rfl (hts _ ho.2.1) (hts _ hv) (hts _ hv2) hin ⟨ho.2.2.2.1, ho.2.2.2.2.1, ho.2.2.2.2.2.1⟩ ⟨by show d + 1 ≤ R.frames; exact hfr, by show 8 + (mL + 11) + 40 * d ≤ R.locals; have h21 : mL ≤ 21 := ho.2.2.2.2.2.2; omega⟩)
    ⟨ai_blind D cA base b sb _ y σ, fun U hU hW => ⟨?_, hE.at hS hU hW, ?_, ?_⟩⟩ rfl rfl (hL.1) hst (by show 2 * 0 + _ ≤ 8; rw [hr']; omega) hd ⟨Nat.le_trans hmc hRc, Nat.le_trans hms hRs⟩) hS (fun r y' σ' H1 locs1 hq hz1 hI1 hS1 => ?_)
  · rw [List.map_cons, hav]; rfl
  · rw [hU]; exact hI.moved hW.alike
  · rw [hU, hz, hyl]; omega
  · have hz1 : H.size + mcc + 2 = base + y'.length := hz1
    have K := kk r y' σ' hq p l e R s m args below meth c D cA base b sb H1 locs1 sl F hC hE hI1 hS1 hL ⟨by omega, hmc⟩ hms hF
    rw [List.map_append] at K
    cases r with
    | none => exact K
    | some v => exact K
theorem ev_callIN {yy : MethodName} {bb : ByteArray} {mL mcc mss idx a : Nat} {host : String} {Q' : Option Value → ai_L → ai_M → Prop} (ha : 2 ≤ a) (hd : decode μ.2.1 pc = .ok (.invokespecial idx, 3)) (ho : ai_ok (yy, bb, mL, none, mcc, mss) 0) (hv : Cond.methodLinkNest μ.1.cls idx yy host ∈ ai_nest) (hv2 : Cond.instanceMethod yy ∈ ai_W) (hin : yy.name = "<init>") (hn' : 1 ≤ mL) (hr : (st.map fun v => v.category).sum ≤ 8)
    (hmc : nc + mcc ≤ μ.2.2.2.2.1) (hms : ns + mss ≤ μ.2.2.2.2.2) (hcall : ev (yy, bb, mL, none, mcc, mss) d 0 (ai_en mL [.ref a]) [] y σ 0 0 Q') (kk : ∀ r y' σ', Q' r y' σ' → ev μ (d + 1) (pc + 3) ls (r.toList ++ st) y' σ' (nc + mcc) (ns + mss) Q) : ev μ (d + 1) pc ls (.ref a :: st) y σ nc ns Q := by
  intro p l e R s m args below meth c D cA base b sb H locs sl F hC hE hI hS hL h1 h2 hF
  have hts := hC.2.2.2.2.1
  have hfr := hC.2.2.2.2.2.2.1
  have hlo := hC.2.2.2.2.2.2.2.1
  have hRc := hC.2.2.2.2.2.2.2.2.1
  have hRs := hC.2.2.2.2.2.2.2.2.2
  have hr' := ai_cats (ai_ad base b sb) st
  obtain ⟨n0, n1, yr, i1, i3, i4, i5⟩ := id hI
  intro T hT X
  have hz := ai_sz X hT hE.1 hS h1.1 i1 i3
  have hyl : y.length = yr.length + 2 := by rw [i1]; rfl
  obtain ⟨c', rfl⟩ : ∃ c', a = c' + 2 := ⟨a - 2, by omega⟩
  have hM := ai_met (μ := (yy, bb, mL, none, mcc, mss)) ho.2.2.1 (as := [.ref (c' + 2)]) (ai_catc (fun v h => absurd h List.not_mem_nil)) hn' hcall l D cA base b sb
  have hav : ai_v (ai_ad base b sb) (.ref (c' + 2)) = .ref (base + c') := by show Value.ref (ai_ad base b sb (c' + 2)) = _; rw [ai_ad2]
  refine (?_ : W p l e R s m args below meth c H locs nc ns F (F0 m pc sl ((.ref (c' + 2) :: st).map (ai_v (ai_ad base b sb))))) T hT X
  have hst : (.ref (c' + 2) :: st).map (ai_v (ai_ad base b sb)) = ([] : List Value).reverse ++ .ref (base + c') :: st.map (ai_v (ai_ad base b sb)) := by
    rw [List.map_cons, hav]; rfl
  refine ai_go (va_runIN (host := host) (As := []) (b := base + c') (rest := st.map (ai_v (ai_ad base b sb))) (Ts := ai_W) (own := μ.1.cls) ⟨hC.1, hC.2.1, hC.2.2.1, hC.2.2.2.1, hts⟩ hM
    ⟨va_cnB 0 hts (ai_gd ho) rfl rfl rfl (hE.2.2.2.2.1 _ hv) (hts _ ho.2.1) ⟨ho.2.2.2.1, ho.2.2.2.2.1, ho.2.2.2.2.2.1⟩ ⟨by show d + 1 ≤ R.frames; exact hfr, by show 8 + (mL + 11) + 40 * d ≤ R.locals; have h21 : mL ≤ 21 := ho.2.2.2.2.2.2; omega⟩, hin, hts _ hv2⟩
    ⟨ai_blind D cA base b sb _ y σ, fun U hU hW => ⟨?_, hE.at hS hU hW, ?_, ?_⟩⟩ rfl rfl (hL.1) hst (by show 2 * 0 + _ ≤ 8; rw [hr']; omega) hd ⟨Nat.le_trans hmc hRc, Nat.le_trans hms hRs⟩) hS (fun r y' σ' H1 locs1 hq hz1 hI1 hS1 => ?_)
  · rw [List.map_cons, hav]; rfl
  · rw [hU]; exact hI.moved hW.alike
  · rw [hU, hz, hyl]; omega
  · have hz1 : H.size + mcc + 2 = base + y'.length := hz1
    have K := kk r y' σ' hq p l e R s m args below meth c D cA base b sb H1 locs1 sl F hC hE hI1 hS1 hL ⟨by omega, hmc⟩ hms hF
    rw [List.map_append] at K
    cases r with
    | none => exact K
    | some v => exact K
end EV6
