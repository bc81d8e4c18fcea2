section EV3
variable {μ : ai_I} {d pc : Nat} {ls : List (Option Value)} {st : List Value} {y : ai_L} {σ : ai_M} {nc ns : Nat} {Q : Option Value → ai_L → ai_M → Prop}
theorem ev_if_eq {x : Int32} {off : Int} (tgt : Nat) (hd : decode μ.2.1 pc = .ok (.ifCond .eq off, 3)) (ht : (pc : Int) + off = (tgt : Int)) (kt : x = 0 → ev μ d tgt ls st y σ nc ns Q) (kf : ¬ x = 0 → ev μ d (pc + 3) ls st y σ nc ns Q) : ev μ d pc ls (.int x :: st) y σ nc ns Q := by
  intro p l e R s m args below meth c D cA base b sb H locs sl F hC hE hI hS hL h1 h2 hF
  exact lv_if_eq hC.1 hC.2.1 hd ht (fun q => kt q p l e R s m args below meth c D cA base b sb H locs sl F hC hE hI hS hL h1 h2 hF) (fun q => kf q p l e R s m args below meth c D cA base b sb H locs sl F hC hE hI hS hL h1 h2 hF)
theorem ev_icmp_eq {x z : Int32} {off : Int} (tgt : Nat) (hd : decode μ.2.1 pc = .ok (.if_icmp .eq off, 3)) (ht : (pc : Int) + off = (tgt : Int)) (kt : x = z → ev μ d tgt ls st y σ nc ns Q) (kf : ¬ x = z → ev μ d (pc + 3) ls st y σ nc ns Q) : ev μ d pc ls (.int z :: .int x :: st) y σ nc ns Q := by
  intro p l e R s m args below meth c D cA base b sb H locs sl F hC hE hI hS hL h1 h2 hF
  exact lv_icmp_eq hC.1 hC.2.1 hd ht (fun q => kt q p l e R s m args below meth c D cA base b sb H locs sl F hC hE hI hS hL h1 h2 hF) (fun q => kf q p l e R s m args below meth c D cA base b sb H locs sl F hC hE hI hS hL h1 h2 hF)
theorem ev_if_ne {x : Int32} {off : Int} (tgt : Nat) (hd : decode μ.2.1 pc = .ok (.ifCond .ne off, 3)) (ht : (pc : Int) + off = (tgt : Int)) (kt : ¬ x = 0 → ev μ d tgt ls st y σ nc ns Q) (kf : x = 0 → ev μ d (pc + 3) ls st y σ nc ns Q) : ev μ d pc ls (.int x :: st) y σ nc ns Q := by
  intro p l e R s m args below meth c D cA base b sb H locs sl F hC hE hI hS hL h1 h2 hF
  exact lv_if_ne hC.1 hC.2.1 hd ht (fun q => kt q p l e R s m args below meth c D cA base b sb H locs sl F hC hE hI hS hL h1 h2 hF) (fun q => kf q p l e R s m args below meth c D cA base b sb H locs sl F hC hE hI hS hL h1 h2 hF)
theorem ev_icmp_ne {x z : Int32} {off : Int} (tgt : Nat) (hd : decode μ.2.1 pc = .ok (.if_icmp .ne off, 3)) (ht : (pc : Int) + off = (tgt : Int)) (kt : ¬ x = z → ev μ d tgt ls st y σ nc ns Q) (kf : x = z → ev μ d (pc + 3) ls st y σ nc ns Q) : ev μ d pc ls (.int z :: .int x :: st) y σ nc ns Q := by
  intro p l e R s m args below meth c D cA base b sb H locs sl F hC hE hI hS hL h1 h2 hF
  exact lv_icmp_ne hC.1 hC.2.1 hd ht (fun q => kt q p l e R s m args below meth c D cA base b sb H locs sl F hC hE hI hS hL h1 h2 hF) (fun q => kf q p l e R s m args below meth c D cA base b sb H locs sl F hC hE hI hS hL h1 h2 hF)
theorem ev_if_lt {x : Int32} {off : Int} (tgt : Nat) (hd : decode μ.2.1 pc = .ok (.ifCond .lt off, 3)) (ht : (pc : Int) + off = (tgt : Int)) (kt : x < 0 → ev μ d tgt ls st y σ nc ns Q) (kf : ¬ x < 0 → ev μ d (pc + 3) ls st y σ nc ns Q) : ev μ d pc ls (.int x :: st) y σ nc ns Q := by
  intro p l e R s m args below meth c D cA base b sb H locs sl F hC hE hI hS hL h1 h2 hF
  exact lv_if_lt hC.1 hC.2.1 hd ht (fun q => kt q p l e R s m args below meth c D cA base b sb H locs sl F hC hE hI hS hL h1 h2 hF) (fun q => kf q p l e R s m args below meth c D cA base b sb H locs sl F hC hE hI hS hL h1 h2 hF)
theorem ev_icmp_lt {x z : Int32} {off : Int} (tgt : Nat) (hd : decode μ.2.1 pc = .ok (.if_icmp .lt off, 3)) (ht : (pc : Int) + off = (tgt : Int)) (kt : x < z → ev μ d tgt ls st y σ nc ns Q) (kf : ¬ x < z → ev μ d (pc + 3) ls st y σ nc ns Q) : ev μ d pc ls (.int z :: .int x :: st) y σ nc ns Q := by
  intro p l e R s m args below meth c D cA base b sb H locs sl F hC hE hI hS hL h1 h2 hF
  exact lv_icmp_lt hC.1 hC.2.1 hd ht (fun q => kt q p l e R s m args below meth c D cA base b sb H locs sl F hC hE hI hS hL h1 h2 hF) (fun q => kf q p l e R s m args below meth c D cA base b sb H locs sl F hC hE hI hS hL h1 h2 hF)
theorem ev_if_ge {x : Int32} {off : Int} (tgt : Nat) (hd : decode μ.2.1 pc = .ok (.ifCond .ge off, 3)) (ht : (pc : Int) + off = (tgt : Int)) (kt : 0 ≤ x → ev μ d tgt ls st y σ nc ns Q) (kf : ¬ 0 ≤ x → ev μ d (pc + 3) ls st y σ nc ns Q) : ev μ d pc ls (.int x :: st) y σ nc ns Q := by
  intro p l e R s m args below meth c D cA base b sb H locs sl F hC hE hI hS hL h1 h2 hF
  exact lv_if_ge hC.1 hC.2.1 hd ht (fun q => kt q p l e R s m args below meth c D cA base b sb H locs sl F hC hE hI hS hL h1 h2 hF) (fun q => kf q p l e R s m args below meth c D cA base b sb H locs sl F hC hE hI hS hL h1 h2 hF)
theorem ev_icmp_ge {x z : Int32} {off : Int} (tgt : Nat) (hd : decode μ.2.1 pc = .ok (.if_icmp .ge off, 3)) (ht : (pc : Int) + off = (tgt : Int)) (kt : z ≤ x → ev μ d tgt ls st y σ nc ns Q) (kf : ¬ z ≤ x → ev μ d (pc + 3) ls st y σ nc ns Q) : ev μ d pc ls (.int z :: .int x :: st) y σ nc ns Q := by
  intro p l e R s m args below meth c D cA base b sb H locs sl F hC hE hI hS hL h1 h2 hF
  exact lv_icmp_ge hC.1 hC.2.1 hd ht (fun q => kt q p l e R s m args below meth c D cA base b sb H locs sl F hC hE hI hS hL h1 h2 hF) (fun q => kf q p l e R s m args below meth c D cA base b sb H locs sl F hC hE hI hS hL h1 h2 hF)
theorem ev_if_gt {x : Int32} {off : Int} (tgt : Nat) (hd : decode μ.2.1 pc = .ok (.ifCond .gt off, 3)) (ht : (pc : Int) + off = (tgt : Int)) (kt : 0 < x → ev μ d tgt ls st y σ nc ns Q) (kf : ¬ 0 < x → ev μ d (pc + 3) ls st y σ nc ns Q) : ev μ d pc ls (.int x :: st) y σ nc ns Q := by
  intro p l e R s m args below meth c D cA base b sb H locs sl F hC hE hI hS hL h1 h2 hF
  exact lv_if_gt hC.1 hC.2.1 hd ht (fun q => kt q p l e R s m args below meth c D cA base b sb H locs sl F hC hE hI hS hL h1 h2 hF) (fun q => kf q p l e R s m args below meth c D cA base b sb H locs sl F hC hE hI hS hL h1 h2 hF)
theorem ev_icmp_gt {x z : Int32} {off : Int} (tgt : Nat) (hd : decode μ.2.1 pc = .ok (.if_icmp .gt off, 3)) (ht : (pc : Int) + off = (tgt : Int)) (kt : z < x → ev μ d tgt ls st y σ nc ns Q) (kf : ¬ z < x → ev μ d (pc + 3) ls st y σ nc ns Q) : ev μ d pc ls (.int z :: .int x :: st) y σ nc ns Q := by
  intro p l e R s m args below meth c D cA base b sb H locs sl F hC hE hI hS hL h1 h2 hF
  exact lv_icmp_gt hC.1 hC.2.1 hd ht (fun q => kt q p l e R s m args below meth c D cA base b sb H locs sl F hC hE hI hS hL h1 h2 hF) (fun q => kf q p l e R s m args below meth c D cA base b sb H locs sl F hC hE hI hS hL h1 h2 hF)
theorem ev_if_le {x : Int32} {off : Int} (tgt : Nat) (hd : decode μ.2.1 pc = .ok (.ifCond .le off, 3)) (ht : (pc : Int) + off = (tgt : Int)) (kt : x ≤ 0 → ev μ d tgt ls st y σ nc ns Q) (kf : ¬ x ≤ 0 → ev μ d (pc + 3) ls st y σ nc ns Q) : ev μ d pc ls (.int x :: st) y σ nc ns Q := by
  intro p l e R s m args below meth c D cA base b sb H locs sl F hC hE hI hS hL h1 h2 hF
  exact lv_if_le hC.1 hC.2.1 hd ht (fun q => kt q p l e R s m args below meth c D cA base b sb H locs sl F hC hE hI hS hL h1 h2 hF) (fun q => kf q p l e R s m args below meth c D cA base b sb H locs sl F hC hE hI hS hL h1 h2 hF)
theorem ev_icmp_le {x z : Int32} {off : Int} (tgt : Nat) (hd : decode μ.2.1 pc = .ok (.if_icmp .le off, 3)) (ht : (pc : Int) + off = (tgt : Int)) (kt : x ≤ z → ev μ d tgt ls st y σ nc ns Q) (kf : ¬ x ≤ z → ev μ d (pc + 3) ls st y σ nc ns Q) : ev μ d pc ls (.int z :: .int x :: st) y σ nc ns Q := by
  intro p l e R s m args below meth c D cA base b sb H locs sl F hC hE hI hS hL h1 h2 hF
  exact lv_icmp_le hC.1 hC.2.1 hd ht (fun q => kt q p l e R s m args below meth c D cA base b sb H locs sl F hC hE hI hS hL h1 h2 hF) (fun q => kf q p l e R s m args below meth c D cA base b sb H locs sl F hC hE hI hS hL h1 h2 hF)
theorem ev_tableOut {dflt lo hi : Int} {offs : Array Int} {len : Nat} {x : Int32} (tgt : Nat) (hd : decode μ.2.1 pc = .ok (.tableswitch dflt lo hi offs, len)) (h : x.toInt < lo ∨ hi < x.toInt) (ht : (pc : Int) + dflt = (tgt : Int)) (k : ev μ d tgt ls st y σ nc ns Q) : ev μ d pc ls (.int x :: st) y σ nc ns Q := by
  intro p l e R s m args below meth c D cA base b sb H locs sl F hC hE hI hS hL h1 h2 hF
  exact lv_tableOut hC.1 hC.2.1 hd h ht (k p l e R s m args below meth c D cA base b sb H locs sl F hC hE hI hS hL h1 h2 hF)
theorem ev_tableIn {dflt lo hi off : Int} {offs : Array Int} {len : Nat} {x : Int32} (tgt : Nat) (hd : decode μ.2.1 pc = .ok (.tableswitch dflt lo hi offs, len)) (q1 : ¬ x.toInt < lo) (q2 : ¬ hi < x.toInt) (ho : offs[(x.toInt - lo).toNat]? = some off) (ht : (pc : Int) + off = (tgt : Int)) (k : ev μ d tgt ls st y σ nc ns Q) : ev μ d pc ls (.int x :: st) y σ nc ns Q := by
  intro p l e R s m args below meth c D cA base b sb H locs sl F hC hE hI hS hL h1 h2 hF
  exact lv_tableIn hC.1 hC.2.1 hd q1 q2 ho ht (k p l e R s m args below meth c D cA base b sb H locs sl F hC hE hI hS hL h1 h2 hF)
end EV3
/-- a field by its link: the class's number, the field's number, its type, whether it is final -/
def ai_F (own : String) (idx ci k : Nat) (ty : FieldType) (fin : Bool) : Prop := ∃ (C : String) (T : u_T) (N : Nat) (ty0 : Nat → FieldType), vwCl[ci]? = some (C, T, N) ∧ k < N ∧ (∀ w ∈ u_ws C T N, w ∈ ai_W) ∧ Cond.fieldLink own idx (T k).1 (T k).2.1 (T k).2.2.1 ∈ ai_W ∧ (∀ k, k < N → parseFieldDescriptor (T k).2.2.1 = some (ty0 k)) ∧ (∀ a, a < N → ∀ b, b < N → a ≠ b → (T a).2.1 ≠ (T b).2.1) ∧ ty0 k = ty ∧ (T k).2.2.2 = fin ∧ (fin = true → (T k).1 = C)
/-- the k-th field of the object a -/
def ai_fi (y : ai_L) (a ci k : Nat) (o : Option (Option Nat)) : Prop := ∃ fs, y[a]? = some (.inr (ci, fs)) ∧ fs[k]? = some o
theorem ai_obj {y yr : ai_L} {n0 n1 a : Nat} {q : Nat × List (Option (Option Nat))} (hy : y = .inl n0 :: .inl n1 :: yr) (h : y[a]? = some (.inr q)) : ∃ c, a = c + 2 ∧ yr[c]? = some (.inr q) := by
  subst hy
  match a, h with
  | 0, h => cases h
  | 1, h => cases h
  | c + 2, h => exact ⟨c, rfl, h⟩
section XLD
variable {p : Program} {l : Launch} {e : Env} {R : Room} {s : State} {m : MethodId} {args : Array Value} {below : List Frame} {meth : Method} {c : Code} {H : Heap} {locs : List Loc} {cells slots : Nat} {F : State → Prop}
theorem ai_xld {cc : ByteArray} {b n pc : Nat} {f : Nat → Int32} {sl : Array Slot} {rest : List Value} (hx : p.tables.exec = Jvm.exec) (hb : c.code = cc) (hX : ai_X b n f s H) {i : Int32} (hin : vp_in i n) (hd : decode cc pc = .ok (.iaload, 1))
    (kk : W p l e R s m args below meth c H locs cells slots F (F0 m (pc + 1) sl (.int (f i.toNatClampNeg) :: rest))) : W p l e R s m args below meth c H locs cells slots F (F0 m pc sl (.int i :: .ref b :: rest)) := by
  obtain ⟨cell, h1, h2, h3, h4, h5, h6⟩ := hX
  have hlt : i.toNatClampNeg < n := Nat.not_le.mp fun q => hin (Or.inr q)
  have hi0 : ¬ i < 0 := fun q => hin (Or.inl q)
  exact W.iald (v := .int (f i.toNatClampNeg)) hx hb h1 h2 h3 (fun q => by rcases q with q | q; exact hi0 q; omega) (h6 _ hlt) rfl rfl hd kk
theorem ai_xlen {cc : ByteArray} {b n pc : Nat} {f : Nat → Int32} {sl : Array Slot} {rest : List Value} (hx : p.tables.exec = Jvm.exec) (hb : c.code = cc) (hX : ai_X b n f s H) (hd : decode cc pc = .ok (.arraylength, 1))
    (kk : W p l e R s m args below meth c H locs cells slots F (F0 m (pc + 1) sl (.int (Int32.ofNat n) :: rest))) : W p l e R s m args below meth c H locs cells slots F (F0 m pc sl (.ref b :: rest)) := by
  obtain ⟨cell, h1, h2, h3, h4, h5, h6⟩ := hX
  exact W.alen (n := Int32.ofNat n) hx hb h1 h2 h5 rfl rfl hd kk
end XLD
section EV4
variable {μ : ai_I} {d pc : Nat} {ls : List (Option Value)} {st : List Value} {y : ai_L} {σ : ai_M} {nc ns : Nat} {Q : Option Value → ai_L → ai_M → Prop}
theorem ev_getI {idx ci k a : Nat} {ty : FieldType} {fin : Bool} (hd : decode μ.2.1 pc = .ok (.getfield idx, 3)) (hf : ai_F μ.1.cls idx ci k ty fin) (hy : ai_fi y a ci k none) (kk : ev μ d (pc + 3) ls (.int (σ a k) :: st) y σ nc ns Q) : ev μ d pc ls (.ref a :: st) y σ nc ns Q := by
  intro p l e R s m args below meth c D cA base b sb H locs sl F hC hE hI hS hL h1 h2 hF
  obtain ⟨C, T, N, ty0, f1, f2, f3, f4, f5, f6, f7, f8, f9⟩ := hf
  obtain ⟨fs, y1, y2⟩ := hy
  obtain ⟨n0, n1, yr, i1, i3, i4, i5⟩ := id hI
  obtain ⟨c', rfl, hc'⟩ := ai_obj i1 y1
  show W p l e R s m args below meth c H locs nc ns F (F0 m pc sl (.ref (ai_ad base b sb (c' + 2)) :: st.map (ai_v (ai_ad base b sb))))
  rw [ai_ad2]
  refine va_get (v := .int (σ (c' + 2) k)) hC.1 hC.2.1 hC.2.2.2.2.1 f3 hC.2.2.2.1 hE.2.2.2.1 i3 c' (ai_w_get hc') f1 k f2 (hC.2.2.2.2.1 _ f4) (fun _ h9 => h9) ?_ hd (kk p l e R s m args below meth c D cA base b sb H locs sl F hC hE hI hS hL h1 h2 hF)
  rw [List.getElem?_mapIdx, y2]
  rfl
theorem ev_getR {idx ci k a r : Nat} {ty : FieldType} {fin : Bool} (hd : decode μ.2.1 pc = .ok (.getfield idx, 3)) (hf : ai_F μ.1.cls idx ci k ty fin) (hy : ai_fi y a ci k (some (some r))) (kk : ev μ d (pc + 3) ls (.ref r :: st) y σ nc ns Q) : ev μ d pc ls (.ref a :: st) y σ nc ns Q := by
  intro p l e R s m args below meth c D cA base b sb H locs sl F hC hE hI hS hL h1 h2 hF
  obtain ⟨C, T, N, ty0, f1, f2, f3, f4, f5, f6, f7, f8, f9⟩ := hf
  obtain ⟨fs, y1, y2⟩ := hy
  obtain ⟨n0, n1, yr, i1, i3, i4, i5⟩ := id hI
  obtain ⟨c', rfl, hc'⟩ := ai_obj i1 y1
  show W p l e R s m args below meth c H locs nc ns F (F0 m pc sl (.ref (ai_ad base b sb (c' + 2)) :: st.map (ai_v (ai_ad base b sb))))
  rw [ai_ad2]
  refine va_get (v := .ref (ai_ad base b sb r)) hC.1 hC.2.1 hC.2.2.2.2.1 f3 hC.2.2.2.1 hE.2.2.2.1 i3 c' (ai_w_get hc') f1 k f2 (hC.2.2.2.2.1 _ f4) (fun _ h9 => h9) ?_ hd (kk p l e R s m args below meth c D cA base b sb H locs sl F hC hE hI hS hL h1 h2 hF)
  rw [List.getElem?_mapIdx, y2]
  rfl
theorem ai_X_up {b n : Nat} {σ : ai_M} {c k : Nat} {x : Int32} {s : State} {H : Heap} (i : Nat) (hi : i < 2) (h : ai_X b n (σ i) s H) : ai_X b n (ai_up σ (c + 2) k x i) s H := by
  rw [ai_up, if_neg (by omega)]; exact h
/-- the externals stand as long as nothing below base is written -/
theorem ai_ext {base : Nat} {H H1 H0 : Heap} {locs locs1 : List Loc} {b n : Nat} {f : Nat → Int32} {s : State} (hb : b < base) (h0 : base ≤ H0.size) (hS : va_S (fun q => base ≤ q) H0 H locs) (hS1 : va_S (fun q => base ≤ q) H0 H1 locs1) (h : ai_X b n f s H) : ai_X b n f s H1 :=
  h.kept (by rw [hS1.2.1 b (by omega) (by omega), hS.2.1 b (by omega) (by omega)])
theorem ev_putI {idx ci k a : Nat} {x : Int32} {ty : FieldType} (hd : decode μ.2.1 pc = .ok (.putfield idx, 3)) (hf : ai_F μ.1.cls idx ci k ty false) (hy : ai_fi y a ci k none) (hn : narrow ty (.int x) = .int x) (hfit : fits ty (.int x) = true) (kk : ev μ d (pc + 3) ls st y (ai_up σ a k x) nc ns Q) : ev μ d pc ls (.int x :: .ref a :: st) y σ nc ns Q := by
  intro p l e R s m args below meth c D cA base b sb H locs sl F hC hE hI hS hL h1 h2 hF
  obtain ⟨C, T, N, ty0, f1, f2, f3, f4, f5, f6, f7, f8, f9⟩ := hf
  obtain ⟨fs, y1, y2⟩ := hy
  obtain ⟨n0, n1, yr, i1, i3, i4, i5⟩ := id hI
  obtain ⟨c', rfl, hc'⟩ := ai_obj i1 y1
  show W p l e R s m args below meth c H locs nc ns F (F0 m pc sl (.int x :: .ref (ai_ad base b sb (c' + 2)) :: st.map (ai_v (ai_ad base b sb))))
  rw [ai_ad2]
  refine va_put (v := .int x) (ty := ty) hC.1 hC.2.1 hC.2.2.2.2.1 f3 ty0 f5 f6 hC.2.2.2.1 hE.2.2.2.1 i3 (ai_w_D _ _ _ _ _) hS c' (ai_w_get hc') f1 k f2 (hC.2.2.2.2.1 _ f4) (fun _ h9 => h9) f8 (by rw [f5 k f2, f7]) hn hfit (by rw [List.length_mapIdx]; exact (List.getElem?_eq_some_iff.mp y2).1) hd (fun H1 locs1 hP1 hD1 hS1 => ?_)
  rw [ai_w_put hc' y2] at hP1
  exact kk p l e R s m args below meth c D cA base b sb H1 locs1 sl F hC hE ⟨n0, n1, yr, i1, hP1, ai_ext hE.2.1 hE.1 hS hS1 (ai_X_up 0 (by omega) i4), ai_ext hE.2.2.1 hE.1 hS hS1 (ai_X_up 1 (by omega) i5)⟩ hS1 hL h1 h2 hF
theorem ev_putFI {idx ci k a : Nat} {x : Int32} {ty : FieldType} (hd : decode μ.2.1 pc = .ok (.putfield idx, 3)) (hf : ai_F μ.1.cls idx ci k ty true) (hm : μ.1.name = "<init>") (hC0 : ∀ q, vwCl[ci]? = some q → q.1 = μ.1.cls) (hy : ai_fi y a ci k none) (hn : narrow ty (.int x) = .int x) (hfit : fits ty (.int x) = true) (kk : ev μ d (pc + 3) ls st y (ai_up σ a k x) nc ns Q) : ev μ d pc ls (.int x :: .ref a :: st) y σ nc ns Q := by
  intro p l e R s m args below meth c D cA base b sb H locs sl F hC hE hI hS hL h1 h2 hF
  obtain ⟨C, T, N, ty0, f1, f2, f3, f4, f5, f6, f7, f8, f9⟩ := hf
  obtain ⟨fs, y1, y2⟩ := hy
  obtain ⟨n0, n1, yr, i1, i3, i4, i5⟩ := id hI
  obtain ⟨c', rfl, hc'⟩ := ai_obj i1 y1
  show W p l e R s m args below meth c H locs nc ns F (F0 m pc sl (.int x :: .ref (ai_ad base b sb (c' + 2)) :: st.map (ai_v (ai_ad base b sb))))
  rw [ai_ad2]
  refine va_putF (v := .int x) (ty := ty) hC.1 hC.2.1 hC.2.2.2.2.1 f3 ty0 f5 f6 hC.2.2.2.1 hE.2.2.2.1 i3 (ai_w_D _ _ _ _ _) hS c' (ai_w_get hc') f1 k f2 (hC.2.2.2.2.1 _ f4) (fun _ h9 => h9) f8 (hC.2.2.2.2.2.1 hm) (by rw [f9 rfl]; exact hC0 _ f1) (by rw [f5 k f2, f7]) hn hfit (by rw [List.length_mapIdx]; exact (List.getElem?_eq_some_iff.mp y2).1) hd (fun H1 locs1 hP1 hD1 hS1 => ?_)
  rw [ai_w_put hc' y2] at hP1
  exact kk p l e R s m args below meth c D cA base b sb H1 locs1 sl F hC hE ⟨n0, n1, yr, i1, hP1, ai_ext hE.2.1 hE.1 hS hS1 (ai_X_up 0 (by omega) i4), ai_ext hE.2.2.1 hE.1 hS hS1 (ai_X_up 1 (by omega) i5)⟩ hS1 hL h1 h2 hF
/-- a final reference field, in its constructor -/
theorem ev_putFR {idx ci k a r : Nat} {o0 : Option Nat} {ty : FieldType} {fs : List (Option (Option Nat))} (hd : decode μ.2.1 pc = .ok (.putfield idx, 3)) (hf : ai_F μ.1.cls idx ci k ty true) (hm : μ.1.name = "<init>") (hC0 : ∀ q, vwCl[ci]? = some q → q.1 = μ.1.cls) (y1 : y[a]? = some (.inr (ci, fs))) (y2 : fs[k]? = some (some o0)) (hn : ∀ q, narrow ty (.ref q) = .ref q) (hfit : ∀ q, fits ty (.ref q) = true) (kk : ev μ d (pc + 3) ls st (y.set a (.inr (ci, fs.set k (some (some r))))) σ nc ns Q) : ev μ d pc ls (.ref r :: .ref a :: st) y σ nc ns Q := by
  intro p l e R s m args below meth c D cA base b sb H locs sl F hC hE hI hS hL h1 h2 hF
  obtain ⟨C, T, N, ty0, f1, f2, f3, f4, f5, f6, f7, f8, f9⟩ := hf
  obtain ⟨n0, n1, yr, i1, i3, i4, i5⟩ := id hI
  obtain ⟨c', rfl, hc'⟩ := ai_obj i1 y1
  show W p l e R s m args below meth c H locs nc ns F (F0 m pc sl (.ref (ai_ad base b sb r) :: .ref (ai_ad base b sb (c' + 2)) :: st.map (ai_v (ai_ad base b sb))))
  rw [ai_ad2 base b sb c']
  refine va_putF (v := .ref (ai_ad base b sb r)) (ty := ty) hC.1 hC.2.1 hC.2.2.2.2.1 f3 ty0 f5 f6 hC.2.2.2.1 hE.2.2.2.1 i3 (ai_w_D _ _ _ _ _) hS c' (ai_w_get hc') f1 k f2 (hC.2.2.2.2.1 _ f4) (fun _ h9 => h9) f8 (hC.2.2.2.2.2.1 hm) (by rw [f9 rfl]; exact hC0 _ f1) (by rw [f5 k f2, f7]) (hn _) (hfit _) (by rw [List.length_mapIdx]; exact (List.getElem?_eq_some_iff.mp y2).1) hd (fun H1 locs1 hP1 hD1 hS1 => ?_)
  rw [ai_w_putR hc' y2] at hP1
  have i1' : y.set (c' + 2) (.inr (ci, fs.set k (some (some r)))) = .inl n0 :: .inl n1 :: (yr.set c' (.inr (ci, fs.set k (some (some r))))) := by rw [i1]; rfl
  exact kk p l e R s m args below meth c D cA base b sb H1 locs1 sl F hC hE ⟨n0, n1, _, i1', hP1, ai_ext hE.2.1 hE.1 hS hS1 i4, ai_ext hE.2.2.1 hE.1 hS hS1 i5⟩ hS1 hL (by rw [List.length_set]; exact h1) h2 hF
theorem ai_arr {yr : ai_L} {n0 n1 a n : Nat} {D : va_G} {cA : ClassId} {base b sb : Nat} {σ : ai_M} {s : State} {H : Heap} (h : ((.inl n0 :: .inl n1 :: yr : ai_L))[a]? = some (.inl n)) : (a = 0 ∧ n = n0) ∨ (a = 1 ∧ n = n1) ∨ ∃ c, a = c + 2 ∧ yr[c]? = some (.inl n) := by
  match a, h with
  | 0, h => cases h; exact Or.inl ⟨rfl, rfl⟩
  | 1, h => cases h; exact Or.inr (Or.inl ⟨rfl, rfl⟩)
  | c + 2, h => exact Or.inr (Or.inr ⟨c, rfl, h⟩)
theorem ai_arr' {y yr : ai_L} {n0 n1 a n : Nat} (hy : y = .inl n0 :: .inl n1 :: yr) (h : y[a]? = some (.inl n)) : (a = 0 ∧ n = n0) ∨ (a = 1 ∧ n = n1) ∨ ∃ c, a = c + 2 ∧ yr[c]? = some (.inl n) := by
  subst hy
  match a, h with
  | 0, h => cases h; exact Or.inl ⟨rfl, rfl⟩
  | 1, h => cases h; exact Or.inr (Or.inl ⟨rfl, rfl⟩)
  | c + 2, h => exact Or.inr (Or.inr ⟨c, rfl, h⟩)
theorem ev_iaload {a n : Nat} {i : Int32} (hd : decode μ.2.1 pc = .ok (.iaload, 1)) (hy : y[a]? = some (.inl n)) (hin : vp_in i n) (kk : ev μ d (pc + 1) ls (.int (σ a i.toNatClampNeg) :: st) y σ nc ns Q) : ev μ d pc ls (.int i :: .ref a :: st) y σ nc ns Q := by
  intro p l e R s m args below meth c D cA base b sb H locs sl F hC hE hI hS hL h1 h2 hF
  obtain ⟨n0, n1, yr, i1, i3, i4, i5⟩ := id hI
  have K := kk p l e R s m args below meth c D cA base b sb H locs sl F hC hE hI hS hL h1 h2 hF
  rcases ai_arr' i1 hy with ⟨rfl, rfl⟩ | ⟨rfl, rfl⟩ | ⟨c', rfl, hc'⟩
  · exact ai_xld hC.1 hC.2.1 i4 hin hd K
  · exact ai_xld hC.1 hC.2.1 i5 hin hd K
  · show W p l e R s m args below meth c H locs nc ns F (F0 m pc sl (.int i :: .ref (ai_ad base b sb (c' + 2)) :: st.map (ai_v (ai_ad base b sb))))
    rw [ai_ad2]
    exact va_iald hC.1 hC.2.1 hE.2.2.2.1 i3 c' 0 (ai_w_get hc') rfl hin hd K
theorem ev_alen {a n : Nat} (v : Int32) (hd : decode μ.2.1 pc = .ok (.arraylength, 1)) (hy : y[a]? = some (.inl n)) (hv : Int32.ofNat n = v) (kk : ev μ d (pc + 1) ls (.int v :: st) y σ nc ns Q) : ev μ d pc ls (.ref a :: st) y σ nc ns Q := by
  intro p l e R s m args below meth c D cA base b sb H locs sl F hC hE hI hS hL h1 h2 hF
  obtain ⟨n0, n1, yr, i1, i3, i4, i5⟩ := id hI
  subst hv
  have K := kk p l e R s m args below meth c D cA base b sb H locs sl F hC hE hI hS hL h1 h2 hF
  rcases ai_arr' i1 hy with ⟨rfl, rfl⟩ | ⟨rfl, rfl⟩ | ⟨c', rfl, hc'⟩
  · exact ai_xlen hC.1 hC.2.1 i4 hd K
  · exact ai_xlen hC.1 hC.2.1 i5 hd K
  · show W p l e R s m args below meth c H locs nc ns F (F0 m pc sl (.ref (ai_ad base b sb (c' + 2)) :: st.map (ai_v (ai_ad base b sb))))
    rw [ai_ad2]
    exact va_alen hC.1 hC.2.1 hE.2.2.2.1 i3 c' 0 (ai_w_get hc') rfl rfl hd K
theorem ev_iastore {a n : Nat} {i x : Int32} (hd : decode μ.2.1 pc = .ok (.iastore, 1)) (ha : 2 ≤ a) (hy : y[a]? = some (.inl n)) (hin : vp_in i n) (kk : ev μ d (pc + 1) ls st y (ai_up σ a i.toNatClampNeg x) nc ns Q) : ev μ d pc ls (.int x :: .int i :: .ref a :: st) y σ nc ns Q := by
  intro p l e R s m args below meth c D cA base b sb H locs sl F hC hE hI hS hL h1 h2 hF
  obtain ⟨n0, n1, yr, i1, i3, i4, i5⟩ := id hI
  rcases ai_arr' i1 hy with ⟨rfl, rfl⟩ | ⟨rfl, rfl⟩ | ⟨c', rfl, hc'⟩
  · omega
  · omega
  · show W p l e R s m args below meth c H locs nc ns F (F0 m pc sl (.int x :: .int i :: .ref (ai_ad base b sb (c' + 2)) :: st.map (ai_v (ai_ad base b sb))))
    rw [ai_ad2]
    refine va_iast hC.1 hC.2.1 hE.2.2.2.1 i3 (ai_w_D _ _ _ _ _) hS c' 0 (ai_w_get hc') rfl hin hd (fun H1 locs1 hP1 hD1 hS1 => ?_)
    rw [ai_w_store hc'] at hP1
    exact kk p l e R s m args below meth c D cA base b sb H1 locs1 sl F hC hE ⟨n0, n1, yr, i1, hP1, ai_ext hE.2.1 hE.1 hS hS1 (ai_X_up 0 (by omega) i4), ai_ext hE.2.2.1 hE.1 hS hS1 (ai_X_up 1 (by omega) i5)⟩ hS1 hL h1 h2 hF
theorem ev_sets {idx : Nat} (hd : decode μ.2.1 pc = .ok (.getstatic idx, 3)) (hw : Cond.fieldLink μ.1.cls idx RX4 "SETS" "[I" ∈ ai_W) (kk : ev μ d (pc + 3) ls (.ref 1 :: st) y σ nc ns Q) : ev μ d pc ls st y σ nc ns Q := by
  intro p l e R s m args below meth c D cA base b sb H locs sl F hC hE hI hS hL h1 h2 hF
  exact va_gets (v := .ref sb) hC.1 hC.2.1 hE.2.2.2.2.2 hS hC.2.2.2.1 (hC.2.2.2.2.1 _ hw) (fun _ h9 => h9) hd (kk p l e R s m args below meth c D cA base b sb H locs sl F hC hE hI hS hL h1 h2 hF)
end EV4
