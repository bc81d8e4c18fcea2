/-! A light machine over the kit's rows: a heap is a list of cells by number (0 the law's script, 1 the table SETS, the others made since), and what the cells hold is a function of two numbers. 'ev' is W of every context that holds it; each row below is one row of the kit. -/
abbrev ai_Q : Type := Nat ⊕ (Nat × List (Option (Option Nat)))
abbrev ai_L : Type := List ai_Q
abbrev ai_M : Type := Nat → Nat → Int32
def ai_W : List Cond := lw_tbl.filter goodWord
theorem ai_in {w : Cond} (i : Nat) (h : lw_tbl[i]? = some w) (g : goodWord w = true) : w ∈ ai_W := List.mem_filter.mpr ⟨List.mem_of_getElem? h, g⟩
theorem ai_good : GoodIn ai_W ai_W := fun w h => ⟨h, good_of_word (List.mem_filter.mp h).2⟩
def ai_nest : List Cond := [.methodLinkNest RX4 18 yX0_init RX4, .methodLinkNest RX4 25 yX3_init RX4, .methodLinkNest RX0 31 yX4_isRole RX4]
def ai_ad (base b sb : Nat) (k : Nat) : Nat := if k = 0 then b else if k = 1 then sb else base + (k - 2)
theorem ai_ad0 (base b sb : Nat) : ai_ad base b sb 0 = b := rfl
theorem ai_ad1 (base b sb : Nat) : ai_ad base b sb 1 = sb := rfl
theorem ai_ad2 (base b sb k : Nat) : ai_ad base b sb (k + 2) = base + k := by simp [ai_ad]
def ai_v (g : Nat → Nat) : Value → Value
  | .ref a => .ref (g a)
  | v => v
theorem ai_cat (g : Nat → Nat) (v : Value) : (ai_v g v).category = v.category := by cases v <;> rfl
theorem ai_cats (g : Nat → Nat) (l : List Value) : ((l.map (ai_v g)).map fun v => v.category).sum = (l.map fun v => v.category).sum := by
  rw [List.map_map]
  congr 1
  apply List.map_congr_left
  intro v _
  exact ai_cat g v
def ai_o (g : Nat → Nat) (x : Int32) : Option (Option Nat) → Value
  | none => .int x
  | some none => .null
  | some (some r) => .ref (g r)
def ai_e (cA : ClassId) (g : Nat → Nat) (f : Nat → Int32) : ai_Q → va_E
  | .inl n => .inl (cA, n, .inl f)
  | .inr q => .inr (q.1, q.2.mapIdx (fun k o => ai_o g (f k) o))
def ai_w (cA : ClassId) (g : Nat → Nat) (base : Nat) (yr : ai_L) (σ : ai_M) : va_W := yr.mapIdx (fun c q => (base + c, ai_e cA g (σ (c + 2)) q))
def ai_up (σ : ai_M) (c k : Nat) (x : Int32) : ai_M := fun c' => if c' = c then upd (σ c) k x else σ c'
def ai_new (σ : ai_M) (c : Nat) : ai_M := fun c' => if c' = c then fun _ => 0 else σ c'
theorem ai_w_get {cA : ClassId} {g : Nat → Nat} {base c : Nat} {yr : ai_L} {σ : ai_M} {q : ai_Q} (h : yr[c]? = some q) : (ai_w cA g base yr σ)[c]? = some (base + c, ai_e cA g (σ (c + 2)) q) := by
  simp [ai_w, List.getElem?_mapIdx, h]
theorem ai_w_inv {cA : ClassId} {g : Nat → Nat} {base c : Nat} {yr : ai_L} {σ : ai_M} {x : Nat × va_E} (h : (ai_w cA g base yr σ)[c]? = some x) : ∃ q, yr[c]? = some q ∧ x = (base + c, ai_e cA g (σ (c + 2)) q) := by
  unfold ai_w at h
  rw [List.getElem?_mapIdx] at h
  cases hq : yr[c]? with
  | none => rw [hq] at h; cases h
  | some q => rw [hq] at h; exact ⟨q, rfl, (Option.some.inj h).symm⟩
theorem ai_w_D (cA : ClassId) (g : Nat → Nat) (base : Nat) (yr : ai_L) (σ : ai_M) : va_D (fun q => base ≤ q) (ai_w cA g base yr σ) := by
  refine ⟨fun i j p q hi hj h => ?_, fun k q hk => ?_⟩
  · obtain ⟨_, _, rfl⟩ := ai_w_inv hi
    obtain ⟨_, _, rfl⟩ := ai_w_inv hj
    dsimp only at h
    omega
  · obtain ⟨_, _, rfl⟩ := ai_w_inv hk
    dsimp only
    omega
theorem ai_w_len (cA : ClassId) (g : Nat → Nat) (base : Nat) (yr : ai_L) (σ : ai_M) : (ai_w cA g base yr σ).length = yr.length := by simp [ai_w]
theorem ai_w_store {cA : ClassId} {g : Nat → Nat} {base c n k : Nat} {x : Int32} {yr : ai_L} {σ : ai_M} (h : yr[c]? = some (.inl n)) :
    (ai_w cA g base yr σ).set c (base + c, .inl (cA, n, .inl (upd (σ (c + 2)) k x))) = ai_w cA g base yr (ai_up σ (c + 2) k x) := by
  have hl := (List.getElem?_eq_some_iff.mp h).1
  apply List.ext_getElem?
  intro j
  by_cases hj : c = j
  · subst hj
    rw [List.getElem?_set_self (by rw [ai_w_len]; exact hl), ai_w_get h]
    simp [ai_e, ai_up]
  · rw [List.getElem?_set_ne hj]
    cases hq : yr[j]? with
    | none => simp [ai_w, List.getElem?_mapIdx, hq]
    | some q => rw [ai_w_get hq, ai_w_get hq, ai_up, if_neg (by omega)]
theorem ai_w_put {cA : ClassId} {g : Nat → Nat} {base c ci k : Nat} {x : Int32} {fs : List (Option (Option Nat))} {yr : ai_L} {σ : ai_M} (h : yr[c]? = some (.inr (ci, fs))) (hk : fs[k]? = some none) :
    (ai_w cA g base yr σ).set c (base + c, .inr (ci, (fs.mapIdx (fun k o => ai_o g (σ (c + 2) k) o)).set k (.int x))) = ai_w cA g base yr (ai_up σ (c + 2) k x) := by
  have hl := (List.getElem?_eq_some_iff.mp h).1
  have hkl := (List.getElem?_eq_some_iff.mp hk).1
  apply List.ext_getElem?
  intro j
  by_cases hj : c = j
  · subst hj
    rw [List.getElem?_set_self (by rw [ai_w_len]; exact hl), ai_w_get h]
    have e : (fs.mapIdx (fun k o => ai_o g (σ (c + 2) k) o)).set k (.int x) = fs.mapIdx (fun k' o => ai_o g (ai_up σ (c + 2) k x (c + 2) k') o) := by
      apply List.ext_getElem?
      intro i
      by_cases hi : k = i
      · subst hi
        rw [List.getElem?_set_self (by rw [List.length_mapIdx]; exact hkl), List.getElem?_mapIdx, hk]
        simp [ai_o, ai_up, upd]
      · rw [List.getElem?_set_ne hi, List.getElem?_mapIdx, List.getElem?_mapIdx]
        cases fs[i]? with
        | none => rfl
        | some o => simp [ai_up, upd, Ne.symm hi]
    rw [e]
    rfl
  · rw [List.getElem?_set_ne hj]
    cases hq : yr[j]? with
    | none => simp [ai_w, List.getElem?_mapIdx, hq]
    | some q => rw [ai_w_get hq, ai_w_get hq, ai_up, if_neg (by omega)]
theorem ai_w_putR {cA : ClassId} {g : Nat → Nat} {base c ci k r : Nat} {o0 : Option Nat} {fs : List (Option (Option Nat))} {yr : ai_L} {σ : ai_M} (h : yr[c]? = some (.inr (ci, fs))) (hk : fs[k]? = some (some o0)) :
    (ai_w cA g base yr σ).set c (base + c, .inr (ci, (fs.mapIdx (fun k o => ai_o g (σ (c + 2) k) o)).set k (.ref (g r)))) = ai_w cA g base (yr.set c (.inr (ci, fs.set k (some (some r))))) σ := by
  have hl := (List.getElem?_eq_some_iff.mp h).1
  have hkl := (List.getElem?_eq_some_iff.mp hk).1
  apply List.ext_getElem?
  intro j
  by_cases hj : c = j
  · subst hj
    rw [List.getElem?_set_self (by rw [ai_w_len]; exact hl), ai_w_get (List.getElem?_set_self hl)]
    have e : (fs.mapIdx (fun k o => ai_o g (σ (c + 2) k) o)).set k (.ref (g r)) = (fs.set k (some (some r))).mapIdx (fun k' o => ai_o g (σ (c + 2) k') o) := by
      apply List.ext_getElem?
      intro i
      by_cases hi : k = i
      · subst hi
        rw [List.getElem?_set_self (by rw [List.length_mapIdx]; exact hkl), List.getElem?_mapIdx, List.getElem?_set_self hkl]
        rfl
      · rw [List.getElem?_set_ne hi, List.getElem?_mapIdx, List.getElem?_mapIdx, List.getElem?_set_ne hi]
    rw [e]
    rfl
  · rw [List.getElem?_set_ne hj]
    cases hq : yr[j]? with
    | none => simp [ai_w, List.getElem?_mapIdx, hq, List.getElem?_set_ne hj]
    | some q => rw [ai_w_get hq, ai_w_get (by rw [List.getElem?_set_ne hj]; exact hq)]
theorem ai_w_push (cA : ClassId) (g : Nat → Nat) (base : Nat) (yr : ai_L) (σ : ai_M) (q : ai_Q) :
    ai_w cA g base (yr ++ [q]) (ai_new σ (yr.length + 2)) = ai_w cA g base yr σ ++ [(base + yr.length, ai_e cA g (fun _ => 0) q)] := by
  unfold ai_w
  rw [List.mapIdx_append]
  congr 1
  · apply List.ext_getElem?
    intro j
    rw [List.getElem?_mapIdx, List.getElem?_mapIdx]
    cases hq : yr[j]? with
    | none => rfl
    | some z =>
      have hl := (List.getElem?_eq_some_iff.mp hq).1
      simp only [Option.map_some, ai_new]
      rw [if_neg (by omega)]
  · simp [ai_new]
/-- an int array that nobody writes -/
def ai_X (b n : Nat) (f : Nat → Int32) (s : State) (H : Heap) : Prop := ∃ cell : Cell, H[b]? = some cell ∧ s.isArrayOf cell .int ∧ cell.vm ≠ .unknown ∧ n ≤ cell.slots.size ∧ cell.slots.size.toInt32 = Int32.ofNat n ∧ ∀ j : Nat, j < n → cell.slots[j]? = some (.int (f j))
theorem ai_X.kept {b n : Nat} {f : Nat → Int32} {U : State} {H H1 : Heap} (h : ai_X b n f U H) (hq : H1[b]? = H[b]?) : ai_X b n f U H1 := by
  obtain ⟨cell, h1, h2⟩ := h
  exact ⟨cell, by rw [hq]; exact h1, h2⟩
theorem ai_X.moved {b n : Nat} {f : Nat → Int32} {u U : State} {H : Heap} (hvm : u.vm.Alike U.vm) (h : ai_X b n f u H) : ai_X b n f U H := by
  obtain ⟨cell, h1, h2, h3⟩ := h
  exact ⟨cell, h1, State.isArrayOf_alike hvm h2, h3⟩
/-- the heap is y with σ; base: where the law's own cells begin -/
def ai_Inv (D : va_G) (cA : ClassId) (base b sb : Nat) (y : ai_L) (σ : ai_M) (s : State) (H : Heap) : Prop :=
  ∃ (n0 n1 : Nat) (yr : ai_L), y = .inl n0 :: .inl n1 :: yr ∧ va_P D vwCl (ai_w cA (ai_ad base b sb) base yr σ) H ∧ ai_X b n0 (σ 0) s H ∧ ai_X sb n1 (σ 1) s H
def ai_Env (D : va_G) (cA : ClassId) (base b sb : Nat) (s : State) : Prop :=
  base ≤ s.heap.size ∧ b < base ∧ sb < base ∧ va_K D vwCl [(cA, .int)] s ∧ (∀ w ∈ ai_nest, va_Nw w s) ∧ va_Z RX4 "SETS" "[I" (.ref sb) (fun q => base ≤ q) s s.heap
def ai_lv (g : Nat → Nat) (sl : Array Slot) (n : Nat) (ls : List (Option Value)) : Prop := sl.size = n ∧ lv_wf sl ∧ ∀ (i : Nat) (v : Value), ls[i]? = some (some v) → v.category = 1 ∧ sl[i]? = some (.val (ai_v g v))
/-- what stands at a method's end -/
def ai_ret (μ : ai_I) (pc : Nat) : Option Value → Prop
  | none => decode μ.2.1 pc = .ok (.return_, 1) ∧ μ.2.2.2.1 = none
  | some v => ∃ (x : Int32) (ty : FieldType), v = .int x ∧ decode μ.2.1 pc = .ok (.ireturn, 1) ∧ μ.2.2.2.1 = some ty ∧ narrow ty (.int x) = .int x
def ai_Cx (μ : ai_I) (d : Nat) (p : Program) (R : Room) (s : State) (m : MethodId) (args : Array Value) (meth : Method) (c : Code) : Prop :=
  p.tables.exec = Jvm.exec ∧ c.code = μ.2.1 ∧ c.maxLocals = μ.2.2.1 ∧ s.vm.findClass μ.1.cls = some m.cls ∧ (∀ w ∈ ai_W, w.before args s = true) ∧ (μ.1.name = "<init>" → meth.name = "<init>") ∧ d ≤ R.frames ∧ 40 * d ≤ R.locals ∧ μ.2.2.2.2.1 ≤ R.cells ∧ μ.2.2.2.2.2 ≤ R.slots
/-- from here the method comes to its end with Q -/
def ev (μ : ai_I) (d pc : Nat) (ls : List (Option Value)) (st : List Value) (y : ai_L) (σ : ai_M) (nc ns : Nat) (Q : Option Value → ai_L → ai_M → Prop) : Prop :=
  ∀ (p : Program) (l : Launch) (e : Env) (R : Room) (s : State) (m : MethodId) (args : Array Value) (below : List Frame) (meth : Method) (c : Code) (D : va_G) (cA : ClassId) (base b sb : Nat) (H : Heap) (locs : List Loc) (sl : Array Slot) (F : State → Prop),
  ai_Cx μ d p R s m args meth c → ai_Env D cA base b sb s → ai_Inv D cA base b sb y σ s H → va_S (fun q => base ≤ q) s.heap H locs → ai_lv (ai_ad base b sb) sl μ.2.2.1 ls → (s.heap.size + nc + 2 = base + y.length ∧ nc ≤ μ.2.2.2.2.1) → ns ≤ μ.2.2.2.2.2 →
  (∀ (r : Option Value) (y' : ai_L) (σ' : ai_M) (H' : Heap) (locs' : List Loc) (pc' : Nat) (sl' : Array Slot), Q r y' σ' → s.heap.size + μ.2.2.2.2.1 + 2 = base + y'.length → ai_Inv D cA base b sb y' σ' s H' → va_S (fun q => base ≤ q) s.heap H' locs' → ai_ret μ pc' r → W p l e R s m args below meth c H' locs' μ.2.2.2.2.1 μ.2.2.2.2.2 F (F0 m pc' sl' (r.toList.map (ai_v (ai_ad base b sb))))) →
  W p l e R s m args below meth c H locs nc ns F (F0 m pc sl (st.map (ai_v (ai_ad base b sb))))
section EV
variable {μ : ai_I} {d pc : Nat} {ls : List (Option Value)} {st : List Value} {y : ai_L} {σ : ai_M} {nc ns : Nat} {Q : Option Value → ai_L → ai_M → Prop}
theorem ev.mono {Q' : Option Value → ai_L → ai_M → Prop} (h : ev μ d pc ls st y σ nc ns Q') (hq : ∀ r y' σ', Q' r y' σ' → Q r y' σ') : ev μ d pc ls st y σ nc ns Q := by
  intro p l e R s m args below meth c D cA base b sb H locs sl F hC hE hI hS hL h1 h2 hF
  exact h p l e R s m args below meth c D cA base b sb H locs sl F hC hE hI hS hL h1 h2 (fun r y' σ' H' locs' pc' sl' hQ => hF r y' σ' H' locs' pc' sl' (hq r y' σ' hQ))
theorem ev.deeper {d' : Nat} (h : ev μ d' pc ls st y σ nc ns Q) (hd : d' ≤ d) : ev μ d pc ls st y σ nc ns Q := by
  intro p l e R s m args below meth c D cA base b sb H locs sl F hC hE hI hS hL h1 h2 hF
  obtain ⟨c1, c2, c3, c4, c5, c6, c7, c8, c9⟩ := hC
  exact h p l e R s m args below meth c D cA base b sb H locs sl F ⟨c1, c2, c3, c4, c5, c6, by omega, by omega, c9⟩ hE hI hS hL h1 h2 hF
theorem ev.eq {ls' : List (Option Value)} {st' : List Value} {y' : ai_L} {σ' : ai_M} (h : ev μ d pc ls' st' y' σ' nc ns Q) (h1 : ls = ls') (h2 : st = st') (h3 : y = y') (h4 : σ = σ') : ev μ d pc ls st y σ nc ns Q := by
  subst h1; subst h2; subst h3; subst h4; exact h
-- ends
theorem ev_ret (hd : decode μ.2.1 pc = .ok (.return_, 1)) (hr : μ.2.2.2.1 = none) (hc : μ.2.2.2.2.1 = nc) (hQ : Q none y σ) : ev μ d pc ls [] y σ nc ns Q := by
  intro p l e R s m args below meth c D cA base b sb H locs sl F hC hE hI hS hL h1 h2 hF
  exact W.widen h1.2 h2 (hF none y σ H locs pc sl hQ (by rw [hc]; exact h1.1) hI hS ⟨hd, hr⟩)
theorem ev_ireturn {ty : FieldType} {x : Int32} (hd : decode μ.2.1 pc = .ok (.ireturn, 1)) (hr : μ.2.2.2.1 = some ty) (hc : μ.2.2.2.2.1 = nc) (hn : narrow ty (.int x) = .int x) (hQ : Q (some (.int x)) y σ) : ev μ d pc ls [.int x] y σ nc ns Q := by
  intro p l e R s m args below meth c D cA base b sb H locs sl F hC hE hI hS hL h1 h2 hF
  exact W.widen h1.2 h2 (hF (some (.int x)) y σ H locs pc sl hQ (by rw [hc]; exact h1.1) hI hS ⟨x, ty, rfl, hd, hr, hn⟩)
-- constants
theorem ev_iconst {n : Int} (v : Int32) (hd : decode μ.2.1 pc = .ok (.iconst n, 1)) (hv : Int32.ofInt n = v) (k : ev μ d (pc + 1) ls (.int v :: st) y σ nc ns Q) : ev μ d pc ls st y σ nc ns Q := by
  intro p l e R s m args below meth c D cA base b sb H locs sl F hC hE hI hS hL h1 h2 hF
  exact lv_iconst hC.1 hC.2.1 hd hv (k p l e R s m args below meth c D cA base b sb H locs sl F hC hE hI hS hL h1 h2 hF)
theorem ev_bipush {n : Int} (v : Int32) (hd : decode μ.2.1 pc = .ok (.bipush n, 2)) (hv : (Int8.ofInt n).toInt32 = v) (k : ev μ d (pc + 2) ls (.int v :: st) y σ nc ns Q) : ev μ d pc ls st y σ nc ns Q := by
  intro p l e R s m args below meth c D cA base b sb H locs sl F hC hE hI hS hL h1 h2 hF
  exact lv_bipush hC.1 hC.2.1 hd hv (k p l e R s m args below meth c D cA base b sb H locs sl F hC hE hI hS hL h1 h2 hF)
theorem ev_sipush {n : Int} (v : Int32) (hd : decode μ.2.1 pc = .ok (.sipush n, 3)) (hv : (Int16.ofInt n).toInt32 = v) (k : ev μ d (pc + 3) ls (.int v :: st) y σ nc ns Q) : ev μ d pc ls st y σ nc ns Q := by
  intro p l e R s m args below meth c D cA base b sb H locs sl F hC hE hI hS hL h1 h2 hF
  exact lv_sipush hC.1 hC.2.1 hd hv (k p l e R s m args below meth c D cA base b sb H locs sl F hC hE hI hS hL h1 h2 hF)
theorem ev_ldc {i : Nat} (v : Int32) (hd : decode μ.2.1 pc = .ok (.ldc i, 2)) (hw : Cond.constant μ.1.cls i v ∈ ai_W) (k : ev μ d (pc + 2) ls (.int v :: st) y σ nc ns Q) : ev μ d pc ls st y σ nc ns Q := by
  intro p l e R s m args below meth c D cA base b sb H locs sl F hC hE hI hS hL h1 h2 hF
  exact lv_ldc hC.1 hC.2.1 hC.2.2.2.1 (hC.2.2.2.2.1 _ hw) hd (k p l e R s m args below meth c D cA base b sb H locs sl F hC hE hI hS hL h1 h2 hF)
theorem ev_ldcw {i : Nat} (v : Int32) (hd : decode μ.2.1 pc = .ok (.ldc_w i, 3)) (hw : Cond.constant μ.1.cls i v ∈ ai_W) (k : ev μ d (pc + 3) ls (.int v :: st) y σ nc ns Q) : ev μ d pc ls st y σ nc ns Q := by
  intro p l e R s m args below meth c D cA base b sb H locs sl F hC hE hI hS hL h1 h2 hF
  exact lv_ldcw hC.1 hC.2.1 hC.2.2.2.1 (hC.2.2.2.2.1 _ hw) hd (k p l e R s m args below meth c D cA base b sb H locs sl F hC hE hI hS hL h1 h2 hF)
-- locals
theorem ev_iload_n {k : Fin 4} {x : Int32} (hd : decode μ.2.1 pc = .ok (.iload_n k, 1)) (hl : ls[(k : Nat)]? = some (some (.int x))) (kk : ev μ d (pc + 1) ls (.int x :: st) y σ nc ns Q) : ev μ d pc ls st y σ nc ns Q := by
  intro p l e R s m args below meth c D cA base b sb H locs sl F hC hE hI hS hL h1 h2 hF
  exact lv_iload_n hC.1 hC.2.1 hd rfl (hL.2.2 _ _ hl).2 (kk p l e R s m args below meth c D cA base b sb H locs sl F hC hE hI hS hL h1 h2 hF)
theorem ev_iload {i : Nat} {x : Int32} (hd : decode μ.2.1 pc = .ok (.iload i, 2)) (hl : ls[i]? = some (some (.int x))) (kk : ev μ d (pc + 2) ls (.int x :: st) y σ nc ns Q) : ev μ d pc ls st y σ nc ns Q := by
  intro p l e R s m args below meth c D cA base b sb H locs sl F hC hE hI hS hL h1 h2 hF
  exact lv_iload hC.1 hC.2.1 hd (hL.2.2 _ _ hl).2 (kk p l e R s m args below meth c D cA base b sb H locs sl F hC hE hI hS hL h1 h2 hF)
theorem ev_aload_n {k : Fin 4} {x : Nat} (hd : decode μ.2.1 pc = .ok (.aload_n k, 1)) (hl : ls[(k : Nat)]? = some (some (.ref x))) (kk : ev μ d (pc + 1) ls (.ref x :: st) y σ nc ns Q) : ev μ d pc ls st y σ nc ns Q := by
  intro p l e R s m args below meth c D cA base b sb H locs sl F hC hE hI hS hL h1 h2 hF
  exact lv_aload_n hC.1 hC.2.1 hd rfl (hL.2.2 _ _ hl).2 (kk p l e R s m args below meth c D cA base b sb H locs sl F hC hE hI hS hL h1 h2 hF)
end EV
def ai_lo (g : Nat → Nat) (ls : List (Option Value)) : List (Nat × Value) := ls.zipIdx.filterMap (fun q => q.1.map (fun v => (q.2, ai_v g v)))
theorem ai_lo_mem {g : Nat → Nat} {ls : List (Option Value)} {i : Nat} {v : Value} (h : ls[i]? = some (some v)) : (i, ai_v g v) ∈ ai_lo g ls := by
  unfold ai_lo
  refine List.mem_filterMap.mpr ⟨(some v, i), ?_, rfl⟩
  exact List.mem_zipIdx_iff_getElem?.mpr h
theorem ai_lo_of {g : Nat → Nat} {ls : List (Option Value)} {q : Nat × Value} (h : q ∈ ai_lo g ls) : ∃ v, ls[q.1]? = some (some v) ∧ q.2 = ai_v g v := by
  obtain ⟨⟨o, i⟩, h1, h2⟩ := List.mem_filterMap.mp h
  have h3 := List.mem_zipIdx_iff_getElem?.mp h1
  cases o with
  | none => cases h2
  | some v =>
    cases h2
    exact ⟨v, h3, rfl⟩
theorem ai_lv.has {g : Nat → Nat} {sl : Array Slot} {n : Nat} {ls : List (Option Value)} (h : ai_lv g sl n ls) : lv_has sl n (ai_lo g ls) := by
  refine ⟨h.1, h.2.1, fun q hq => ?_⟩
  obtain ⟨v, h1, h2⟩ := ai_lo_of hq
  rw [h2]
  exact (h.2.2 _ _ h1).2
theorem ai_lv.set {g : Nat → Nat} {sl sl' : Array Slot} {n i : Nat} {ls : List (Option Value)} {v : Value} (h : ai_lv g sl n ls) (hv : v.category = 1)
    (h' : lv_has sl' n ((i, ai_v g v) :: (ai_lo g ls).filter (fun q => !(q.1 == i) && !(q.1 + 1 == i && q.2.category == 2)))) : ai_lv g sl' n (ls.set i (some v)) := by
  refine ⟨h'.1, h'.2.1, fun j w hw => ?_⟩
  by_cases hj : i = j
  · subst hj
    by_cases hl : i < ls.length
    · rw [List.getElem?_set_self hl] at hw
      cases hw
      exact ⟨hv, h'.2.2 _ List.mem_cons_self⟩
    · rw [List.getElem?_eq_none (by rw [List.length_set]; omega)] at hw
      cases hw
  · rw [List.getElem?_set_ne hj] at hw
    have hc := (h.2.2 _ _ hw).1
    refine ⟨hc, h'.2.2 (j, ai_v g w) (List.mem_cons_of_mem _ (List.mem_filter.mpr ⟨ai_lo_mem hw, ?_⟩))⟩
    have e : ((j, ai_v g w) : Nat × Value).2.category = 1 := by rw [← hc]; exact ai_cat g w
    simp [e, Ne.symm hj]
section EV2
variable {μ : ai_I} {d pc : Nat} {ls : List (Option Value)} {st : List Value} {y : ai_L} {σ : ai_M} {nc ns : Nat} {Q : Option Value → ai_L → ai_M → Prop}
theorem ev_istore_n {k : Fin 4} {x : Int32} (hd : decode μ.2.1 pc = .ok (.istore_n k, 1)) (hn : (k : Nat) < μ.2.2.1) (kk : ev μ d (pc + 1) (ls.set (k : Nat) (some (.int x))) st y σ nc ns Q) : ev μ d pc ls (.int x :: st) y σ nc ns Q := by
  intro p l e R s m args below meth c D cA base b sb H locs sl F hC hE hI hS hL h1 h2 hF
  exact lv_istore_n hC.1 hC.2.1 hd rfl hL.has hn rfl (fun sl' hl' => kk p l e R s m args below meth c D cA base b sb H locs sl' F hC hE hI hS (hL.set (v := .int x) rfl hl') h1 h2 hF)
theorem ev_istore {i : Nat} {x : Int32} (hd : decode μ.2.1 pc = .ok (.istore i, 2)) (hn : i < μ.2.2.1) (kk : ev μ d (pc + 2) (ls.set i (some (.int x))) st y σ nc ns Q) : ev μ d pc ls (.int x :: st) y σ nc ns Q := by
  intro p l e R s m args below meth c D cA base b sb H locs sl F hC hE hI hS hL h1 h2 hF
  exact lv_istore hC.1 hC.2.1 hd hL.has hn rfl (fun sl' hl' => kk p l e R s m args below meth c D cA base b sb H locs sl' F hC hE hI hS (hL.set (v := .int x) rfl hl') h1 h2 hF)
theorem ev_astore_n {k : Fin 4} {x : Nat} (hd : decode μ.2.1 pc = .ok (.astore_n k, 1)) (hn : (k : Nat) < μ.2.2.1) (kk : ev μ d (pc + 1) (ls.set (k : Nat) (some (.ref x))) st y σ nc ns Q) : ev μ d pc ls (.ref x :: st) y σ nc ns Q := by
  intro p l e R s m args below meth c D cA base b sb H locs sl F hC hE hI hS hL h1 h2 hF
  exact lv_astore_n hC.1 hC.2.1 hd rfl hL.has hn rfl (fun sl' hl' => kk p l e R s m args below meth c D cA base b sb H locs sl' F hC hE hI hS (hL.set (v := .ref x) rfl hl') h1 h2 hF)
theorem ev_iinc {i : Nat} {n : Int} {x : Int32} (v : Int32) (hd : decode μ.2.1 pc = .ok (.iinc i n, 3)) (hl : ls[i]? = some (some (.int x))) (hv : x + Int32.ofInt n = v) (hn : i < μ.2.2.1) (kk : ev μ d (pc + 3) (ls.set i (some (.int v))) st y σ nc ns Q) : ev μ d pc ls st y σ nc ns Q := by
  intro p l e R s m args below meth c D cA base b sb H locs sl F hC hE hI hS hL h1 h2 hF
  obtain ⟨k, hk⟩ := List.getElem?_of_mem (ai_lo_mem (g := ai_ad base b sb) hl)
  exact lv_iinc hC.1 hC.2.1 hd hL.has (k := k) hk hv hn rfl (fun sl' hl' => kk p l e R s m args below meth c D cA base b sb H locs sl' F hC hE hI hS (hL.set (v := .int v) rfl hl') h1 h2 hF)
-- arithmetic
theorem ev_iadd {x z : Int32} (hd : decode μ.2.1 pc = .ok (.iadd, 1)) (k : ev μ d (pc + 1) ls (.int (x + z) :: st) y σ nc ns Q) : ev μ d pc ls (.int z :: .int x :: st) y σ nc ns Q := by
  intro p l e R s m args below meth c D cA base b sb H locs sl F hC hE hI hS hL h1 h2 hF
  exact lv_iadd hC.1 hC.2.1 hd (k p l e R s m args below meth c D cA base b sb H locs sl F hC hE hI hS hL h1 h2 hF)
theorem ev_isub {x z : Int32} (hd : decode μ.2.1 pc = .ok (.isub, 1)) (k : ev μ d (pc + 1) ls (.int (x - z) :: st) y σ nc ns Q) : ev μ d pc ls (.int z :: .int x :: st) y σ nc ns Q := by
  intro p l e R s m args below meth c D cA base b sb H locs sl F hC hE hI hS hL h1 h2 hF
  exact lv_isub hC.1 hC.2.1 hd (k p l e R s m args below meth c D cA base b sb H locs sl F hC hE hI hS hL h1 h2 hF)
theorem ev_imul {x z : Int32} (hd : decode μ.2.1 pc = .ok (.imul, 1)) (k : ev μ d (pc + 1) ls (.int (x * z) :: st) y σ nc ns Q) : ev μ d pc ls (.int z :: .int x :: st) y σ nc ns Q := by
  intro p l e R s m args below meth c D cA base b sb H locs sl F hC hE hI hS hL h1 h2 hF
  exact lv_imul hC.1 hC.2.1 hd (k p l e R s m args below meth c D cA base b sb H locs sl F hC hE hI hS hL h1 h2 hF)
theorem ev_iand {x z : Int32} (hd : decode μ.2.1 pc = .ok (.iand, 1)) (k : ev μ d (pc + 1) ls (.int (x &&& z) :: st) y σ nc ns Q) : ev μ d pc ls (.int z :: .int x :: st) y σ nc ns Q := by
  intro p l e R s m args below meth c D cA base b sb H locs sl F hC hE hI hS hL h1 h2 hF
  exact lv_iand hC.1 hC.2.1 hd (k p l e R s m args below meth c D cA base b sb H locs sl F hC hE hI hS hL h1 h2 hF)
theorem ev_ior {x z : Int32} (hd : decode μ.2.1 pc = .ok (.ior, 1)) (k : ev μ d (pc + 1) ls (.int (x ||| z) :: st) y σ nc ns Q) : ev μ d pc ls (.int z :: .int x :: st) y σ nc ns Q := by
  intro p l e R s m args below meth c D cA base b sb H locs sl F hC hE hI hS hL h1 h2 hF
  exact lv_ior hC.1 hC.2.1 hd (k p l e R s m args below meth c D cA base b sb H locs sl F hC hE hI hS hL h1 h2 hF)
theorem ev_ixor {x z : Int32} (hd : decode μ.2.1 pc = .ok (.ixor, 1)) (k : ev μ d (pc + 1) ls (.int (x ^^^ z) :: st) y σ nc ns Q) : ev μ d pc ls (.int z :: .int x :: st) y σ nc ns Q := by
  intro p l e R s m args below meth c D cA base b sb H locs sl F hC hE hI hS hL h1 h2 hF
  exact lv_ixor hC.1 hC.2.1 hd (k p l e R s m args below meth c D cA base b sb H locs sl F hC hE hI hS hL h1 h2 hF)
theorem ev_idiv {x z : Int32} (hd : decode μ.2.1 pc = .ok (.idiv, 1)) (hz : ¬ z = 0) (k : ev μ d (pc + 1) ls (.int (x / z) :: st) y σ nc ns Q) : ev μ d pc ls (.int z :: .int x :: st) y σ nc ns Q := by
  intro p l e R s m args below meth c D cA base b sb H locs sl F hC hE hI hS hL h1 h2 hF
  exact lv_idiv hC.1 hC.2.1 hd hz (k p l e R s m args below meth c D cA base b sb H locs sl F hC hE hI hS hL h1 h2 hF)
theorem ev_irem {x z : Int32} (hd : decode μ.2.1 pc = .ok (.irem, 1)) (hz : ¬ z = 0) (k : ev μ d (pc + 1) ls (.int (x - x / z * z) :: st) y σ nc ns Q) : ev μ d pc ls (.int z :: .int x :: st) y σ nc ns Q := by
  intro p l e R s m args below meth c D cA base b sb H locs sl F hC hE hI hS hL h1 h2 hF
  exact lv_irem hC.1 hC.2.1 hd hz (k p l e R s m args below meth c D cA base b sb H locs sl F hC hE hI hS hL h1 h2 hF)
theorem ev_ineg {x : Int32} (hd : decode μ.2.1 pc = .ok (.ineg, 1)) (k : ev μ d (pc + 1) ls (.int (-x) :: st) y σ nc ns Q) : ev μ d pc ls (.int x :: st) y σ nc ns Q := by
  intro p l e R s m args below meth c D cA base b sb H locs sl F hC hE hI hS hL h1 h2 hF
  exact lv_ineg hC.1 hC.2.1 hd (k p l e R s m args below meth c D cA base b sb H locs sl F hC hE hI hS hL h1 h2 hF)
theorem ev_ishl {x z : Int32} (hd : decode μ.2.1 pc = .ok (.ishl, 1)) (k : ev μ d (pc + 1) ls (.int (x <<< (z &&& 31)) :: st) y σ nc ns Q) : ev μ d pc ls (.int z :: .int x :: st) y σ nc ns Q := by
  intro p l e R s m args below meth c D cA base b sb H locs sl F hC hE hI hS hL h1 h2 hF
  exact lv_ishl hC.1 hC.2.1 hd (k p l e R s m args below meth c D cA base b sb H locs sl F hC hE hI hS hL h1 h2 hF)
theorem ev_ishr {x z : Int32} (hd : decode μ.2.1 pc = .ok (.ishr, 1)) (k : ev μ d (pc + 1) ls (.int (x >>> (z &&& 31)) :: st) y σ nc ns Q) : ev μ d pc ls (.int z :: .int x :: st) y σ nc ns Q := by
  intro p l e R s m args below meth c D cA base b sb H locs sl F hC hE hI hS hL h1 h2 hF
  exact lv_ishr hC.1 hC.2.1 hd (k p l e R s m args below meth c D cA base b sb H locs sl F hC hE hI hS hL h1 h2 hF)
theorem ev_iushr {x z : Int32} (hd : decode μ.2.1 pc = .ok (.iushr, 1)) (k : ev μ d (pc + 1) ls (.int ((x.toUInt32 >>> (z.toUInt32 &&& Int32.toUInt32 31)).toInt32) :: st) y σ nc ns Q) : ev μ d pc ls (.int z :: .int x :: st) y σ nc ns Q := by
  intro p l e R s m args below meth c D cA base b sb H locs sl F hC hE hI hS hL h1 h2 hF
  exact lv_iushr hC.1 hC.2.1 hd rfl (k p l e R s m args below meth c D cA base b sb H locs sl F hC hE hI hS hL h1 h2 hF)
theorem ev_dup {v : Value} (hd : decode μ.2.1 pc = .ok (.dup, 1)) (hv : v.category = 1) (k : ev μ d (pc + 1) ls (v :: v :: st) y σ nc ns Q) : ev μ d pc ls (v :: st) y σ nc ns Q := by
  intro p l e R s m args below meth c D cA base b sb H locs sl F hC hE hI hS hL h1 h2 hF
  exact lv_dup hC.1 hC.2.1 hd (by rw [ai_cat]; exact hv) (k p l e R s m args below meth c D cA base b sb H locs sl F hC hE hI hS hL h1 h2 hF)
theorem ev_dup2 {v w : Value} (hd : decode μ.2.1 pc = .ok (.dup2, 1)) (hv : v.category = 1) (hw : w.category = 1) (k : ev μ d (pc + 1) ls (v :: w :: v :: w :: st) y σ nc ns Q) : ev μ d pc ls (v :: w :: st) y σ nc ns Q := by
  intro p l e R s m args below meth c D cA base b sb H locs sl F hC hE hI hS hL h1 h2 hF
  exact lv_dup2_11 hC.1 hC.2.1 hd (by rw [ai_cat]; exact hv) (by rw [ai_cat]; exact hw) (k p l e R s m args below meth c D cA base b sb H locs sl F hC hE hI hS hL h1 h2 hF)
theorem ev_pop {v : Value} (hd : decode μ.2.1 pc = .ok (.pop, 1)) (hv : v.category = 1) (k : ev μ d (pc + 1) ls st y σ nc ns Q) : ev μ d pc ls (v :: st) y σ nc ns Q := by
  intro p l e R s m args below meth c D cA base b sb H locs sl F hC hE hI hS hL h1 h2 hF
  exact lv_pop hC.1 hC.2.1 hd (by rw [ai_cat]; exact hv) (k p l e R s m args below meth c D cA base b sb H locs sl F hC hE hI hS hL h1 h2 hF)
-- jumps
theorem ev_goto {off : Int} (tgt : Nat) (hd : decode μ.2.1 pc = .ok (.goto off, 3)) (ht : (pc : Int) + off = (tgt : Int)) (k : ev μ d tgt ls st y σ nc ns Q) : ev μ d pc ls st y σ nc ns Q := by
  intro p l e R s m args below meth c D cA base b sb H locs sl F hC hE hI hS hL h1 h2 hF
  exact lv_goto hC.1 hC.2.1 hd ht (k p l e R s m args below meth c D cA base b sb H locs sl F hC hE hI hS hL h1 h2 hF)
end EV2
