/-! the constructors: cells behind a list P of cells, from a = P.length on -/
section INI
variable {μ : ai_I} {d pc a : Nat} {P l : ai_L} {ls : List (Option Value)} {st : List Value} {σ : ai_M} {nc ns : Nat} {Q : Option Value → ai_L → ai_M → Prop}
theorem lenA (hP : P.length = a) {l : ai_L} {k : Nat} (hk : l.length = k) : (P ++ l).length = a + k := by rw [List.length_append, hP, hk]
theorem getA0 (hP : P.length = a) {x : ai_Q} {t : ai_L} : (P ++ x :: t)[a]? = some x := by
  rw [List.getElem?_append_right (by omega), hP, Nat.sub_self]; rfl
theorem getA (hP : P.length = a) {l : ai_L} (i : Nat) {x : ai_Q} (h : l[i]? = some x) : (P ++ l)[a + i]? = some x := by
  rw [List.getElem?_append_right (by omega), hP, Nat.add_sub_cancel_left]; exact h
theorem setA0 (hP : P.length = a) {x x' : ai_Q} {t : ai_L} : (P ++ x :: t).set a x' = P ++ x' :: t := by
  subst hP
  rw [List.set_append_right _ _ (Nat.le_refl _), Nat.sub_self]; rfl
theorem ev_nA {n : Int32} (N k : Nat) (l' : ai_L) (hP : P.length = a) (hd : decode μ.2.1 pc = .ok (.newarray .int, 2)) (hn : ¬ n < 0) (hN : n.toNatClampNeg = N) (hb : N ≤ 1000) (hc : nc + 1 ≤ μ.2.2.2.2.1) (hs : ns + N ≤ μ.2.2.2.2.2) (hk : l.length = k) (hl : l ++ [.inl N] = l') (kk : ev μ d (pc + 2) ls (.ref (a + k) :: st) (P ++ l') (ai_new σ (a + k)) (nc + 1) (ns + N) Q) : ev μ d pc ls (.int n :: st) (P ++ l) σ nc ns Q := by
  refine ev_newa N hd arrW hn hN hb hc hs ?_
  rw [lenA hP hk, List.append_assoc, hl]; exact kk
theorem ev_nO {idx ci : Nat} (fs : List (Option (Option Nat))) (k : Nat) (l' : ai_L) (hP : P.length = a) (hd : decode μ.2.1 pc = .ok (.new idx, 3)) (hcl : ai_Cl μ.1.cls idx ci fs) (hc : nc + 1 ≤ μ.2.2.2.2.1) (hs : ns + fs.length ≤ μ.2.2.2.2.2) (hk : l.length = k) (hl : l ++ [.inr (ci, fs)] = l') (kk : ev μ d (pc + 3) ls (.ref (a + k) :: st) (P ++ l') (ai_new σ (a + k)) (nc + 1) (ns + fs.length) Q) : ev μ d pc ls st (P ++ l) σ nc ns Q := by
  refine ev_new fs hd hcl hc hs ?_
  rw [lenA hP hk, List.append_assoc, hl]; exact kk
theorem ev_pR {idx ci k r : Nat} {o0 : Option Nat} {ty : FieldType} {fs : List (Option (Option Nat))} (fs' : List (Option (Option Nat))) {t : ai_L} (hP : P.length = a) (hd : decode μ.2.1 pc = .ok (.putfield idx, 3)) (hf : ai_F μ.1.cls idx ci k ty true) (hm : μ.1.name = "<init>") (hC0 : ∀ q, vwCl[ci]? = some q → q.1 = μ.1.cls) (y2 : fs[k]? = some (some o0)) (hn : ∀ q, narrow ty (.ref q) = .ref q) (hfit : ∀ q, fits ty (.ref q) = true) (hfs : fs.set k (some (some r)) = fs') (kk : ev μ d (pc + 3) ls st (P ++ (.inr (ci, fs') :: t)) σ nc ns Q) : ev μ d pc ls (.ref r :: .ref a :: st) (P ++ (.inr (ci, fs) :: t)) σ nc ns Q := by
  refine ev_putFR hd hf hm hC0 (getA0 hP) y2 hn hfit ?_
  rw [setA0 hP, hfs]; exact kk
/-- what a constructor comes to -/
def IQ (P L : ai_L) (S : ai_M → Prop) : Option Value → ai_L → ai_M → Prop := fun r y' σ' => r = none ∧ y' = P ++ L ∧ S σ'
theorem ev_cI {yy : MethodName} {bb : ByteArray} {mL mcc mss idx k : Nat} {l0 L l2 : ai_L} {o : ai_Q} {S : ai_M → Prop} (ha : 2 ≤ a + k) (hP : P.length = a) (hd : decode μ.2.1 pc = .ok (.invokespecial idx, 3)) (ho : ai_ok (yy, bb, mL, none, mcc, mss) 0) (hv : Cond.methodLink μ.1.cls idx yy ∈ ai_W) (hv2 : Cond.instanceMethod yy ∈ ai_W) (hin : yy.name = "<init>") (hn' : 1 ≤ mL) (hr : (st.map fun v => v.category).sum ≤ 8)
    (hmc : nc + mcc ≤ μ.2.2.2.2.1) (hms : ns + mss ≤ μ.2.2.2.2.2) (hl : l0 ++ [o] = l) (hl2 : l0 ++ L = l2) (hcall : ev (yy, bb, mL, none, mcc, mss) d 0 (ai_en mL [.ref (a + k)]) [] ((P ++ l0) ++ [o]) σ 0 0 (IQ (P ++ l0) L S)) (kk : ∀ σ', S σ' → ev μ (d + 1) (pc + 3) ls st (P ++ l2) σ' (nc + mcc) (ns + mss) Q) : ev μ (d + 1) pc ls (.ref (a + k) :: st) (P ++ l) σ nc ns Q := by
  rw [List.append_assoc, hl] at hcall
  refine ev_callI ha hd ho hv hv2 hin hn' hr hmc hms hcall ?_
  rintro r y' σ' ⟨rfl, rfl, hS⟩
  rw [List.append_assoc, hl2]
  exact kk σ' hS
theorem ev_cIN {yy : MethodName} {bb : ByteArray} {mL mcc mss idx k : Nat} {host : String} {l0 L l2 : ai_L} {o : ai_Q} {S : ai_M → Prop} (ha : 2 ≤ a + k) (hP : P.length = a) (hd : decode μ.2.1 pc = .ok (.invokespecial idx, 3)) (ho : ai_ok (yy, bb, mL, none, mcc, mss) 0) (hv : Cond.methodLinkNest μ.1.cls idx yy host ∈ ai_nest) (hv2 : Cond.instanceMethod yy ∈ ai_W) (hin : yy.name = "<init>") (hn' : 1 ≤ mL) (hr : (st.map fun v => v.category).sum ≤ 8)
    (hmc : nc + mcc ≤ μ.2.2.2.2.1) (hms : ns + mss ≤ μ.2.2.2.2.2) (hl : l0 ++ [o] = l) (hl2 : l0 ++ L = l2) (hcall : ev (yy, bb, mL, none, mcc, mss) d 0 (ai_en mL [.ref (a + k)]) [] ((P ++ l0) ++ [o]) σ 0 0 (IQ (P ++ l0) L S)) (kk : ∀ σ', S σ' → ev μ (d + 1) (pc + 3) ls st (P ++ l2) σ' (nc + mcc) (ns + mss) Q) : ev μ (d + 1) pc ls (.ref (a + k) :: st) (P ++ l) σ nc ns Q := by
  rw [List.append_assoc, hl] at hcall
  refine ev_callIN ha hd ho hv hv2 hin hn' hr hmc hms hcall ?_
  rintro r y' σ' ⟨rfl, rfl, hS⟩
  rw [List.append_assoc, hl2]
  exact kk σ' hS
end INI
section INIS
variable {d a : Nat} {P : ai_L} {σ : ai_M}
theorem nw_lt {σ : ai_M} {c k : Nat} (h : c < k) : ai_new σ k c = σ c := if_neg (by omega)
def giS (a : Nat) (σ σ' : ai_M) : Prop := σ' a 0 = 0 ∧ σ' a 1 = 0 ∧ (∀ i, i < 4 → σ' (a + 1) i = -6) ∧ (∀ i, i < 16 → σ' (a + 2) i = -6) ∧ ∀ c, c < a → σ' c = σ c
def ciS (a : Nat) (σ σ' : ai_M) : Prop := σ' a 0 = 8 ∧ σ' a 1 = 0 ∧ σ' a 2 = 0 ∧ (∀ i, i < 16 → σ' (a + 1) i = 1) ∧ (∀ i, i < 24 → σ' (a + 4) i = 0) ∧ ∀ c, c < a → σ' c = σ c
def biS (a : Nat) (σ σ' : ai_M) : Prop := ∀ c, c < a + 1 → σ' c = σ c
def siS (a : Nat) (σ σ' : ai_M) : Prop := ∀ c, c < a → σ' c = σ c
def fiS (a : Nat) (σ σ' : ai_M) : Prop := σ' (a + 1) 0 = 8 ∧ σ' (a + 1) 1 = 0 ∧ σ' (a + 1) 2 = 0 ∧ (∀ i, i < 16 → σ' (a + 2) i = 1) ∧ (∀ i, i < 24 → σ' (a + 5) i = 0) ∧ σ' (a + 6) 0 = 0 ∧ σ' (a + 27) 0 = 0 ∧ σ' (a + 27) 1 = 0 ∧ (∀ i, i < 4 → σ' (a + 28) i = -6) ∧ (∀ i, i < 16 → σ' (a + 29) i = -6) ∧ σ' a 6 = 0 ∧ ∀ c, c < a → σ' c = σ c
theorem t_X2_init (hP : P.length = a) (ha : 2 ≤ a) : ev mX2_init (d + 1) 0 [some (.ref a)] [] (P ++ [.inr (2, nf2)]) σ 0 0 (IQ P [.inr (2, [none, none, some (some (a + 1)), some (some (a + 2))]), .inl 4, .inl 16] (giS a σ)) := by
  refine ev_aload_n dX2_init_0 rfl ?_
  refine ev_obj dX2_init_1 oX2_3 (Nat.le_of_ble_eq_true rfl) ?_
  refine ev_aload_n dX2_init_4 rfl ?_
  refine ev_iconst 4 dX2_init_5 (by decide) ?_
  refine ev_nA 4 1 [.inr (2, [none, none, some none, some none]), .inl 4] hP dX2_init_6 (by decide) (by decide) (by decide) (by decide) (by decide) rfl rfl ?_
  refine ev_pR [none, none, some (some (a + 1)), some none] hP dX2_init_8 fX2_9 rfl cls2 rfl (fun _ => rfl) (fun _ => rfl) rfl ?_
  refine ev_aload_n dX2_init_11 rfl ?_
  refine ev_bipush 16 dX2_init_12 (by decide) ?_
  refine ev_nA 16 2 [.inr (2, [none, none, some (some (a + 1)), some none]), .inl 4, .inl 16] hP dX2_init_14 (by decide) (by decide) (by decide) (by decide) (by decide) rfl rfl ?_
  refine ev_pR [none, none, some (some (a + 1)), some (some (a + 2))] hP dX2_init_16 fX2_15 rfl cls2 rfl (fun _ => rfl) (fun _ => rfl) rfl ?_
  refine ev_aload_n dX2_init_19 rfl ?_
  refine cVv0 dX2_init_20 VX2_18 ⟨_, getA0 hP⟩ rfl (t_clear (u := a + 1) (f := a + 2) (getA0 hP) (getA hP 1 rfl) (getA hP 2 rfl) (by omega) (by omega) (by omega) (by omega) (by omega)) ?_
  rintro σ1 ⟨k1, k2, k3, k4, k5⟩
  refine ev_ret dX2_init_23 rfl rfl ?_
  exact ⟨rfl, rfl, k1, k2, k3, k4, fun c hc => by rw [k5 c (by omega) (by omega) (by omega), nw_lt (by omega), nw_lt (by omega)]⟩
theorem t_X1_init (hP : P.length = a) (ha : 2 ≤ a) : ev mX1_init (d + 1) 0 [some (.ref a)] [] (P ++ [.inr (1, nf1)]) σ 0 0 (IQ P [.inr (1, [none, none, none, some (some (a + 1)), some (some (a + 2)), some (some (a + 3)), some (some (a + 4))]), .inl 16, .inl 6, .inl 90, .inl 24] (ciS a σ)) := by
  refine ev_aload_n dX1_init_0 rfl ?_
  refine ev_obj dX1_init_1 oX1_3 (Nat.le_of_ble_eq_true rfl) ?_
  refine ev_aload_n dX1_init_4 rfl ?_
  refine ev_bipush 16 dX1_init_5 (by decide) ?_
  refine ev_nA 16 1 [.inr (1, [none, none, none, some none, some none, some none, some none]), .inl 16] hP dX1_init_7 (by decide) (by decide) (by decide) (by decide) (by decide) rfl rfl ?_
  refine ev_pR [none, none, none, some (some (a + 1)), some none, some none, some none] hP dX1_init_9 fX1_9 rfl cls1 rfl (fun _ => rfl) (fun _ => rfl) rfl ?_
  refine ev_aload_n dX1_init_12 rfl ?_
  refine ev_bipush 6 dX1_init_13 (by decide) ?_
  refine ev_nA 6 2 [.inr (1, [none, none, none, some (some (a + 1)), some none, some none, some none]), .inl 16, .inl 6] hP dX1_init_15 (by decide) (by decide) (by decide) (by decide) (by decide) rfl rfl ?_
  refine ev_pR [none, none, none, some (some (a + 1)), some (some (a + 2)), some none, some none] hP dX1_init_17 fX1_15 rfl cls1 rfl (fun _ => rfl) (fun _ => rfl) rfl ?_
  refine ev_aload_n dX1_init_20 rfl ?_
  refine ev_bipush 90 dX1_init_21 (by decide) ?_
  refine ev_nA 90 3 [.inr (1, [none, none, none, some (some (a + 1)), some (some (a + 2)), some none, some none]), .inl 16, .inl 6, .inl 90] hP dX1_init_23 (by decide) (by decide) (by decide) (by decide) (by decide) rfl rfl ?_
  refine ev_pR [none, none, none, some (some (a + 1)), some (some (a + 2)), some (some (a + 3)), some none] hP dX1_init_25 fX1_18 rfl cls1 rfl (fun _ => rfl) (fun _ => rfl) rfl ?_
  refine ev_aload_n dX1_init_28 rfl ?_
  refine ev_bipush 24 dX1_init_29 (by decide) ?_
  refine ev_nA 24 4 [.inr (1, [none, none, none, some (some (a + 1)), some (some (a + 2)), some (some (a + 3)), some none]), .inl 16, .inl 6, .inl 90, .inl 24] hP dX1_init_31 (by decide) (by decide) (by decide) (by decide) (by decide) rfl rfl ?_
  refine ev_pR [none, none, none, some (some (a + 1)), some (some (a + 2)), some (some (a + 3)), some (some (a + 4))] hP dX1_init_33 fX1_21 rfl cls1 rfl (fun _ => rfl) (fun _ => rfl) rfl ?_
  refine ev_aload_n dX1_init_36 rfl ?_
  refine ev_bipush 8 dX1_init_37 (by decide) ?_
  refine cVv1 dX1_init_39 VX1_24 ⟨_, getA0 hP⟩ rfl rfl (t_renew 8 (v := a + 1) (k := a + 2) (u := a + 3) (a := a + 4) (getA0 hP) (getA hP 1 rfl) (getA hP 4 rfl) (by omega) (by omega) (by omega) (by omega) (by omega)) ?_
  rintro σ1 ⟨k1, k2, k3, k4, k5, k6⟩
  refine ev_ret dX1_init_42 rfl rfl ?_
  exact ⟨rfl, rfl, k1, k2, k3, k4, k5, fun c hc => by rw [k6 c (by omega) (by omega) (by omega), nw_lt (by omega), nw_lt (by omega), nw_lt (by omega), nw_lt (by omega)]⟩
theorem t_X0_init (hP : P.length = a) (ha : 2 ≤ a) : ev mX0_init (d + 1) 0 [some (.ref a)] [] (P ++ [.inr (0, nf0)]) σ 0 0 (IQ P [.inr (0, [none, some (some (a + 1)), some (some (a + 2)), some (some (a + 3)), some (some (a + 4)), some (some (a + 5))]), .inl 4, .inl 4, .inl 4, .inl 4, .inl 16] (biS a σ)) := by
  refine ev_aload_n dX0_init_0 rfl ?_
  refine ev_obj dX0_init_1 oX0_3 (Nat.le_of_ble_eq_true rfl) ?_
  refine ev_aload_n dX0_init_4 rfl ?_
  refine ev_iconst 4 dX0_init_5 (by decide) ?_
  refine ev_nA 4 1 [.inr (0, [none, some none, some none, some none, some none, some none]), .inl 4] hP dX0_init_6 (by decide) (by decide) (by decide) (by decide) (by decide) rfl rfl ?_
  refine ev_pR [none, some (some (a + 1)), some none, some none, some none, some none] hP dX0_init_8 fX0_9 rfl cls0 rfl (fun _ => rfl) (fun _ => rfl) rfl ?_
  refine ev_aload_n dX0_init_11 rfl ?_
  refine ev_iconst 4 dX0_init_12 (by decide) ?_
  refine ev_nA 4 2 [.inr (0, [none, some (some (a + 1)), some none, some none, some none, some none]), .inl 4, .inl 4] hP dX0_init_13 (by decide) (by decide) (by decide) (by decide) (by decide) rfl rfl ?_
  refine ev_pR [none, some (some (a + 1)), some (some (a + 2)), some none, some none, some none] hP dX0_init_15 fX0_15 rfl cls0 rfl (fun _ => rfl) (fun _ => rfl) rfl ?_
  refine ev_aload_n dX0_init_18 rfl ?_
  refine ev_iconst 4 dX0_init_19 (by decide) ?_
  refine ev_nA 4 3 [.inr (0, [none, some (some (a + 1)), some (some (a + 2)), some none, some none, some none]), .inl 4, .inl 4, .inl 4] hP dX0_init_20 (by decide) (by decide) (by decide) (by decide) (by decide) rfl rfl ?_
  refine ev_pR [none, some (some (a + 1)), some (some (a + 2)), some (some (a + 3)), some none, some none] hP dX0_init_22 fX0_18 rfl cls0 rfl (fun _ => rfl) (fun _ => rfl) rfl ?_
  refine ev_aload_n dX0_init_25 rfl ?_
  refine ev_iconst 4 dX0_init_26 (by decide) ?_
  refine ev_nA 4 4 [.inr (0, [none, some (some (a + 1)), some (some (a + 2)), some (some (a + 3)), some none, some none]), .inl 4, .inl 4, .inl 4, .inl 4] hP dX0_init_27 (by decide) (by decide) (by decide) (by decide) (by decide) rfl rfl ?_
  refine ev_pR [none, some (some (a + 1)), some (some (a + 2)), some (some (a + 3)), some (some (a + 4)), some none] hP dX0_init_29 fX0_21 rfl cls0 rfl (fun _ => rfl) (fun _ => rfl) rfl ?_
  refine ev_aload_n dX0_init_32 rfl ?_
  refine ev_bipush 16 dX0_init_33 (by decide) ?_
  refine ev_nA 16 5 [.inr (0, [none, some (some (a + 1)), some (some (a + 2)), some (some (a + 3)), some (some (a + 4)), some none]), .inl 4, .inl 4, .inl 4, .inl 4, .inl 16] hP dX0_init_35 (by decide) (by decide) (by decide) (by decide) (by decide) rfl rfl ?_
  refine ev_pR [none, some (some (a + 1)), some (some (a + 2)), some (some (a + 3)), some (some (a + 4)), some (some (a + 5))] hP dX0_init_37 fX0_24 rfl cls0 rfl (fun _ => rfl) (fun _ => rfl) rfl ?_
  refine ev_ret dX0_init_40 rfl rfl ?_
  exact ⟨rfl, rfl, fun c hc => by rw [nw_lt (by omega), nw_lt (by omega), nw_lt (by omega), nw_lt (by omega), nw_lt (by omega)]⟩
theorem t_X3_init (hP : P.length = a) (ha : 2 ≤ a) : ev mX3_init (d + 2) 0 [some (.ref a)] [] (P ++ [.inr (3, nf3)]) σ 0 0 (IQ P [.inr (3, [some (some (a + 1)), some (some (a + 4)), some (some (a + 7)), none, none, none, some (some (a + 10)), some (some (a + 11)), some (some (a + 12)), some (some (a + 13)), some (some (a + 14)), none, none, none, none, none, none, none]), .inr (2, [none, none, some (some (a + 2)), some (some (a + 3))]), .inl 4, .inl 16, .inr (2, [none, none, some (some (a + 5)), some (some (a + 6))]), .inl 4, .inl 16, .inr (2, [none, none, some (some (a + 8)), some (some (a + 9))]), .inl 4, .inl 16, .inl 4, .inl 96, .inl 64, .inl 120, .inl 5] (siS a σ)) := by
  refine ev_aload_n dX3_init_0 rfl ?_
  refine ev_obj dX3_init_1 oX3_3 (Nat.le_of_ble_eq_true rfl) ?_
  refine ev_aload_n dX3_init_4 rfl ?_
  refine ev_nO nf2 1 [.inr (3, [some none, some none, some none, none, none, none, some none, some none, some none, some none, some none, none, none, none, none, none, none, none]), .inr (2, [none, none, some none, some none])] hP dX3_init_5 clX3_9 (by decide) (by decide) rfl rfl ?_
  refine ev_dup dX3_init_8 rfl ?_
  refine ev_cI (l0 := [.inr (3, [some none, some none, some none, none, none, none, some none, some none, some none, some none, some none, none, none, none, none, none, none, none])]) (Nat.le_trans ha (Nat.le_add_right _ _)) hP dX3_init_9 okX2_init ilX3_11 inX2_init rfl (by decide) (Nat.le_of_ble_eq_true rfl) (by decide) (by decide) rfl (l2 := [.inr (3, [some none, some none, some none, none, none, none, some none, some none, some none, some none, some none, none, none, none, none, none, none, none]), .inr (2, [none, none, some (some (a + 2)), some (some (a + 3))]), .inl 4, .inl 16]) rfl (t_X2_init (lenA hP rfl) (Nat.le_trans ha (Nat.le_add_right _ _))) ?_
  intro σ1 h1
  refine ev_pR [some (some (a + 1)), some none, some none, none, none, none, some none, some none, some none, some none, some none, none, none, none, none, none, none, none] hP dX3_init_12 fX3_12 rfl cls3 rfl (fun _ => rfl) (fun _ => rfl) rfl ?_
  refine ev_aload_n dX3_init_15 rfl ?_
  refine ev_nO nf2 4 [.inr (3, [some (some (a + 1)), some none, some none, none, none, none, some none, some none, some none, some none, some none, none, none, none, none, none, none, none]), .inr (2, [none, none, some (some (a + 2)), some (some (a + 3))]), .inl 4, .inl 16, .inr (2, [none, none, some none, some none])] hP dX3_init_16 clX3_9 (by decide) (by decide) rfl rfl ?_
  refine ev_dup dX3_init_19 rfl ?_
  refine ev_cI (l0 := [.inr (3, [some (some (a + 1)), some none, some none, none, none, none, some none, some none, some none, some none, some none, none, none, none, none, none, none, none]), .inr (2, [none, none, some (some (a + 2)), some (some (a + 3))]), .inl 4, .inl 16]) (Nat.le_trans ha (Nat.le_add_right _ _)) hP dX3_init_20 okX2_init ilX3_11 inX2_init rfl (by decide) (Nat.le_of_ble_eq_true rfl) (by decide) (by decide) rfl (l2 := [.inr (3, [some (some (a + 1)), some none, some none, none, none, none, some none, some none, some none, some none, some none, none, none, none, none, none, none, none]), .inr (2, [none, none, some (some (a + 2)), some (some (a + 3))]), .inl 4, .inl 16, .inr (2, [none, none, some (some (a + 5)), some (some (a + 6))]), .inl 4, .inl 16]) rfl (t_X2_init (lenA hP rfl) (Nat.le_trans ha (Nat.le_add_right _ _))) ?_
  intro σ2 h2
  refine ev_pR [some (some (a + 1)), some (some (a + 4)), some none, none, none, none, some none, some none, some none, some none, some none, none, none, none, none, none, none, none] hP dX3_init_23 fX3_18 rfl cls3 rfl (fun _ => rfl) (fun _ => rfl) rfl ?_
  refine ev_aload_n dX3_init_26 rfl ?_
  refine ev_nO nf2 7 [.inr (3, [some (some (a + 1)), some (some (a + 4)), some none, none, none, none, some none, some none, some none, some none, some none, none, none, none, none, none, none, none]), .inr (2, [none, none, some (some (a + 2)), some (some (a + 3))]), .inl 4, .inl 16, .inr (2, [none, none, some (some (a + 5)), some (some (a + 6))]), .inl 4, .inl 16, .inr (2, [none, none, some none, some none])] hP dX3_init_27 clX3_9 (by decide) (by decide) rfl rfl ?_
  refine ev_dup dX3_init_30 rfl ?_
  refine ev_cI (l0 := [.inr (3, [some (some (a + 1)), some (some (a + 4)), some none, none, none, none, some none, some none, some none, some none, some none, none, none, none, none, none, none, none]), .inr (2, [none, none, some (some (a + 2)), some (some (a + 3))]), .inl 4, .inl 16, .inr (2, [none, none, some (some (a + 5)), some (some (a + 6))]), .inl 4, .inl 16]) (Nat.le_trans ha (Nat.le_add_right _ _)) hP dX3_init_31 okX2_init ilX3_11 inX2_init rfl (by decide) (Nat.le_of_ble_eq_true rfl) (by decide) (by decide) rfl (l2 := [.inr (3, [some (some (a + 1)), some (some (a + 4)), some none, none, none, none, some none, some none, some none, some none, some none, none, none, none, none, none, none, none]), .inr (2, [none, none, some (some (a + 2)), some (some (a + 3))]), .inl 4, .inl 16, .inr (2, [none, none, some (some (a + 5)), some (some (a + 6))]), .inl 4, .inl 16, .inr (2, [none, none, some (some (a + 8)), some (some (a + 9))]), .inl 4, .inl 16]) rfl (t_X2_init (lenA hP rfl) (Nat.le_trans ha (Nat.le_add_right _ _))) ?_
  intro σ3 h3
  refine ev_pR [some (some (a + 1)), some (some (a + 4)), some (some (a + 7)), none, none, none, some none, some none, some none, some none, some none, none, none, none, none, none, none, none] hP dX3_init_34 fX3_21 rfl cls3 rfl (fun _ => rfl) (fun _ => rfl) rfl ?_
  refine ev_aload_n dX3_init_37 rfl ?_
  refine ev_iconst 4 dX3_init_38 (by decide) ?_
  refine ev_nA 4 10 [.inr (3, [some (some (a + 1)), some (some (a + 4)), some (some (a + 7)), none, none, none, some none, some none, some none, some none, some none, none, none, none, none, none, none, none]), .inr (2, [none, none, some (some (a + 2)), some (some (a + 3))]), .inl 4, .inl 16, .inr (2, [none, none, some (some (a + 5)), some (some (a + 6))]), .inl 4, .inl 16, .inr (2, [none, none, some (some (a + 8)), some (some (a + 9))]), .inl 4, .inl 16, .inl 4] hP dX3_init_39 (by decide) (by decide) (by decide) (by decide) (by decide) rfl rfl ?_
  refine ev_pR [some (some (a + 1)), some (some (a + 4)), some (some (a + 7)), none, none, none, some (some (a + 10)), some none, some none, some none, some none, none, none, none, none, none, none, none] hP dX3_init_41 fX3_24 rfl cls3 rfl (fun _ => rfl) (fun _ => rfl) rfl ?_
  refine ev_aload_n dX3_init_44 rfl ?_
  refine ev_bipush 96 dX3_init_45 (by decide) ?_
  refine ev_nA 96 11 [.inr (3, [some (some (a + 1)), some (some (a + 4)), some (some (a + 7)), none, none, none, some (some (a + 10)), some none, some none, some none, some none, none, none, none, none, none, none, none]), .inr (2, [none, none, some (some (a + 2)), some (some (a + 3))]), .inl 4, .inl 16, .inr (2, [none, none, some (some (a + 5)), some (some (a + 6))]), .inl 4, .inl 16, .inr (2, [none, none, some (some (a + 8)), some (some (a + 9))]), .inl 4, .inl 16, .inl 4, .inl 96] hP dX3_init_47 (by decide) (by decide) (by decide) (by decide) (by decide) rfl rfl ?_
  refine ev_pR [some (some (a + 1)), some (some (a + 4)), some (some (a + 7)), none, none, none, some (some (a + 10)), some (some (a + 11)), some none, some none, some none, none, none, none, none, none, none, none] hP dX3_init_49 fX3_28 rfl cls3 rfl (fun _ => rfl) (fun _ => rfl) rfl ?_
  refine ev_aload_n dX3_init_52 rfl ?_
  refine ev_bipush 64 dX3_init_53 (by decide) ?_
  refine ev_nA 64 12 [.inr (3, [some (some (a + 1)), some (some (a + 4)), some (some (a + 7)), none, none, none, some (some (a + 10)), some (some (a + 11)), some none, some none, some none, none, none, none, none, none, none, none]), .inr (2, [none, none, some (some (a + 2)), some (some (a + 3))]), .inl 4, .inl 16, .inr (2, [none, none, some (some (a + 5)), some (some (a + 6))]), .inl 4, .inl 16, .inr (2, [none, none, some (some (a + 8)), some (some (a + 9))]), .inl 4, .inl 16, .inl 4, .inl 96, .inl 64] hP dX3_init_55 (by decide) (by decide) (by decide) (by decide) (by decide) rfl rfl ?_
  refine ev_pR [some (some (a + 1)), some (some (a + 4)), some (some (a + 7)), none, none, none, some (some (a + 10)), some (some (a + 11)), some (some (a + 12)), some none, some none, none, none, none, none, none, none, none] hP dX3_init_57 fX3_31 rfl cls3 rfl (fun _ => rfl) (fun _ => rfl) rfl ?_
  refine ev_aload_n dX3_init_60 rfl ?_
  refine ev_bipush 120 dX3_init_61 (by decide) ?_
  refine ev_nA 120 13 [.inr (3, [some (some (a + 1)), some (some (a + 4)), some (some (a + 7)), none, none, none, some (some (a + 10)), some (some (a + 11)), some (some (a + 12)), some none, some none, none, none, none, none, none, none, none]), .inr (2, [none, none, some (some (a + 2)), some (some (a + 3))]), .inl 4, .inl 16, .inr (2, [none, none, some (some (a + 5)), some (some (a + 6))]), .inl 4, .inl 16, .inr (2, [none, none, some (some (a + 8)), some (some (a + 9))]), .inl 4, .inl 16, .inl 4, .inl 96, .inl 64, .inl 120] hP dX3_init_63 (by decide) (by decide) (by decide) (by decide) (by decide) rfl rfl ?_
  refine ev_pR [some (some (a + 1)), some (some (a + 4)), some (some (a + 7)), none, none, none, some (some (a + 10)), some (some (a + 11)), some (some (a + 12)), some (some (a + 13)), some none, none, none, none, none, none, none, none] hP dX3_init_65 fX3_34 rfl cls3 rfl (fun _ => rfl) (fun _ => rfl) rfl ?_
  refine ev_aload_n dX3_init_68 rfl ?_
  refine ev_iconst 5 dX3_init_69 (by decide) ?_
  refine ev_nA 5 14 [.inr (3, [some (some (a + 1)), some (some (a + 4)), some (some (a + 7)), none, none, none, some (some (a + 10)), some (some (a + 11)), some (some (a + 12)), some (some (a + 13)), some none, none, none, none, none, none, none, none]), .inr (2, [none, none, some (some (a + 2)), some (some (a + 3))]), .inl 4, .inl 16, .inr (2, [none, none, some (some (a + 5)), some (some (a + 6))]), .inl 4, .inl 16, .inr (2, [none, none, some (some (a + 8)), some (some (a + 9))]), .inl 4, .inl 16, .inl 4, .inl 96, .inl 64, .inl 120, .inl 5] hP dX3_init_70 (by decide) (by decide) (by decide) (by decide) (by decide) rfl rfl ?_
  refine ev_pR [some (some (a + 1)), some (some (a + 4)), some (some (a + 7)), none, none, none, some (some (a + 10)), some (some (a + 11)), some (some (a + 12)), some (some (a + 13)), some (some (a + 14)), none, none, none, none, none, none, none] hP dX3_init_72 fX3_37 rfl cls3 rfl (fun _ => rfl) (fun _ => rfl) rfl ?_
  refine ev_ret dX3_init_75 rfl rfl ?_
  exact ⟨rfl, rfl, fun c hc => by rw [nw_lt (by omega), nw_lt (by omega), nw_lt (by omega), nw_lt (by omega), nw_lt (by omega), h3.2.2.2.2 c (by omega), nw_lt (by omega), h2.2.2.2.2 c (by omega), nw_lt (by omega), h1.2.2.2.2 c (by omega), nw_lt (by omega)]⟩
theorem t_X4_init (hP : P.length = a) (ha : 2 ≤ a) : ev mX4_init (d + 3) 0 [some (.ref a)] [] (P ++ [.inr (4, nf4)]) σ 0 0 (IQ P [.inr (4, [some (some (a + 1)), some (some (a + 6)), some (some (a + 12)), some (some (a + 27)), some (some (a + 30)), none, none]), .inr (1, [none, none, none, some (some (a + 2)), some (some (a + 3)), some (some (a + 4)), some (some (a + 5))]), .inl 16, .inl 6, .inl 90, .inl 24, .inr (0, [none, some (some (a + 7)), some (some (a + 8)), some (some (a + 9)), some (some (a + 10)), some (some (a + 11))]), .inl 4, .inl 4, .inl 4, .inl 4, .inl 16, .inr (3, [some (some (a + 13)), some (some (a + 16)), some (some (a + 19)), none, none, none, some (some (a + 22)), some (some (a + 23)), some (some (a + 24)), some (some (a + 25)), some (some (a + 26)), none, none, none, none, none, none, none]), .inr (2, [none, none, some (some (a + 14)), some (some (a + 15))]), .inl 4, .inl 16, .inr (2, [none, none, some (some (a + 17)), some (some (a + 18))]), .inl 4, .inl 16, .inr (2, [none, none, some (some (a + 20)), some (some (a + 21))]), .inl 4, .inl 16, .inl 4, .inl 96, .inl 64, .inl 120, .inl 5, .inr (2, [none, none, some (some (a + 28)), some (some (a + 29))]), .inl 4, .inl 16, .inr (2, [none, none, some (some (a + 31)), some (some (a + 32))]), .inl 4, .inl 16] (fiS a σ)) := by
  refine ev_aload_n dX4_init_0 rfl ?_
  refine ev_obj dX4_init_1 oX4_1 (Nat.le_of_ble_eq_true rfl) ?_
  refine ev_aload_n dX4_init_4 rfl ?_
  refine ev_nO nf1 1 [.inr (4, [some none, some none, some none, some none, some none, none, none]), .inr (1, [none, none, none, some none, some none, some none, some none])] hP dX4_init_5 clX4_7 (by decide) (by decide) rfl rfl ?_
  refine ev_dup dX4_init_8 rfl ?_
  refine ev_cI (l0 := [.inr (4, [some none, some none, some none, some none, some none, none, none])]) (Nat.le_trans ha (Nat.le_add_right _ _)) hP dX4_init_9 okX1_init ilX4_9 inX1_init rfl (by decide) (Nat.le_of_ble_eq_true rfl) (by decide) (by decide) rfl (l2 := [.inr (4, [some none, some none, some none, some none, some none, none, none]), .inr (1, [none, none, none, some (some (a + 2)), some (some (a + 3)), some (some (a + 4)), some (some (a + 5))]), .inl 16, .inl 6, .inl 90, .inl 24]) rfl (t_X1_init (lenA hP rfl) (Nat.le_trans ha (Nat.le_add_right _ _))) ?_
  intro σ1 h1
  refine ev_pR [some (some (a + 1)), some none, some none, some none, some none, none, none] hP dX4_init_12 fX4_10 rfl cls4 rfl (fun _ => rfl) (fun _ => rfl) rfl ?_
  refine ev_aload_n dX4_init_15 rfl ?_
  refine ev_nO nf0 6 [.inr (4, [some (some (a + 1)), some none, some none, some none, some none, none, none]), .inr (1, [none, none, none, some (some (a + 2)), some (some (a + 3)), some (some (a + 4)), some (some (a + 5))]), .inl 16, .inl 6, .inl 90, .inl 24, .inr (0, [none, some none, some none, some none, some none, some none])] hP dX4_init_16 clX4_16 (by decide) (by decide) rfl rfl ?_
  refine ev_dup dX4_init_19 rfl ?_
  refine ev_cIN (l0 := [.inr (4, [some (some (a + 1)), some none, some none, some none, some none, none, none]), .inr (1, [none, none, none, some (some (a + 2)), some (some (a + 3)), some (some (a + 4)), some (some (a + 5))]), .inl 16, .inl 6, .inl 90, .inl 24]) (Nat.le_trans ha (Nat.le_add_right _ _)) hP dX4_init_20 okX0_init (List.mem_of_getElem? (i := 0) rfl) inX0_init rfl (by decide) (Nat.le_of_ble_eq_true rfl) (by decide) (by decide) rfl (l2 := [.inr (4, [some (some (a + 1)), some none, some none, some none, some none, none, none]), .inr (1, [none, none, none, some (some (a + 2)), some (some (a + 3)), some (some (a + 4)), some (some (a + 5))]), .inl 16, .inl 6, .inl 90, .inl 24, .inr (0, [none, some (some (a + 7)), some (some (a + 8)), some (some (a + 9)), some (some (a + 10)), some (some (a + 11))]), .inl 4, .inl 4, .inl 4, .inl 4, .inl 16]) rfl (t_X0_init (lenA hP rfl) (Nat.le_trans ha (Nat.le_add_right _ _))) ?_
  intro σ2 h2
  refine ev_pR [some (some (a + 1)), some (some (a + 6)), some none, some none, some none, none, none] hP dX4_init_23 fX4_19 rfl cls4 rfl (fun _ => rfl) (fun _ => rfl) rfl ?_
  refine ev_aload_n dX4_init_26 rfl ?_
  refine ev_nO nf3 12 [.inr (4, [some (some (a + 1)), some (some (a + 6)), some none, some none, some none, none, none]), .inr (1, [none, none, none, some (some (a + 2)), some (some (a + 3)), some (some (a + 4)), some (some (a + 5))]), .inl 16, .inl 6, .inl 90, .inl 24, .inr (0, [none, some (some (a + 7)), some (some (a + 8)), some (some (a + 9)), some (some (a + 10)), some (some (a + 11))]), .inl 4, .inl 4, .inl 4, .inl 4, .inl 16, .inr (3, [some none, some none, some none, none, none, none, some none, some none, some none, some none, some none, none, none, none, none, none, none, none])] hP dX4_init_27 clX4_23 (by decide) (by decide) rfl rfl ?_
  refine ev_dup dX4_init_30 rfl ?_
  refine ev_cIN (l0 := [.inr (4, [some (some (a + 1)), some (some (a + 6)), some none, some none, some none, none, none]), .inr (1, [none, none, none, some (some (a + 2)), some (some (a + 3)), some (some (a + 4)), some (some (a + 5))]), .inl 16, .inl 6, .inl 90, .inl 24, .inr (0, [none, some (some (a + 7)), some (some (a + 8)), some (some (a + 9)), some (some (a + 10)), some (some (a + 11))]), .inl 4, .inl 4, .inl 4, .inl 4, .inl 16]) (Nat.le_trans ha (Nat.le_add_right _ _)) hP dX4_init_31 okX3_init (List.mem_of_getElem? (i := 1) rfl) inX3_init rfl (by decide) (Nat.le_of_ble_eq_true rfl) (by decide) (by decide) rfl (l2 := [.inr (4, [some (some (a + 1)), some (some (a + 6)), some none, some none, some none, none, none]), .inr (1, [none, none, none, some (some (a + 2)), some (some (a + 3)), some (some (a + 4)), some (some (a + 5))]), .inl 16, .inl 6, .inl 90, .inl 24, .inr (0, [none, some (some (a + 7)), some (some (a + 8)), some (some (a + 9)), some (some (a + 10)), some (some (a + 11))]), .inl 4, .inl 4, .inl 4, .inl 4, .inl 16, .inr (3, [some (some (a + 13)), some (some (a + 16)), some (some (a + 19)), none, none, none, some (some (a + 22)), some (some (a + 23)), some (some (a + 24)), some (some (a + 25)), some (some (a + 26)), none, none, none, none, none, none, none]), .inr (2, [none, none, some (some (a + 14)), some (some (a + 15))]), .inl 4, .inl 16, .inr (2, [none, none, some (some (a + 17)), some (some (a + 18))]), .inl 4, .inl 16, .inr (2, [none, none, some (some (a + 20)), some (some (a + 21))]), .inl 4, .inl 16, .inl 4, .inl 96, .inl 64, .inl 120, .inl 5]) rfl (t_X3_init (lenA hP rfl) (Nat.le_trans ha (Nat.le_add_right _ _))) ?_
  intro σ3 h3
  refine ev_pR [some (some (a + 1)), some (some (a + 6)), some (some (a + 12)), some none, some none, none, none] hP dX4_init_34 fX4_26 rfl cls4 rfl (fun _ => rfl) (fun _ => rfl) rfl ?_
  refine ev_aload_n dX4_init_37 rfl ?_
  refine ev_nO nf2 27 [.inr (4, [some (some (a + 1)), some (some (a + 6)), some (some (a + 12)), some none, some none, none, none]), .inr (1, [none, none, none, some (some (a + 2)), some (some (a + 3)), some (some (a + 4)), some (some (a + 5))]), .inl 16, .inl 6, .inl 90, .inl 24, .inr (0, [none, some (some (a + 7)), some (some (a + 8)), some (some (a + 9)), some (some (a + 10)), some (some (a + 11))]), .inl 4, .inl 4, .inl 4, .inl 4, .inl 16, .inr (3, [some (some (a + 13)), some (some (a + 16)), some (some (a + 19)), none, none, none, some (some (a + 22)), some (some (a + 23)), some (some (a + 24)), some (some (a + 25)), some (some (a + 26)), none, none, none, none, none, none, none]), .inr (2, [none, none, some (some (a + 14)), some (some (a + 15))]), .inl 4, .inl 16, .inr (2, [none, none, some (some (a + 17)), some (some (a + 18))]), .inl 4, .inl 16, .inr (2, [none, none, some (some (a + 20)), some (some (a + 21))]), .inl 4, .inl 16, .inl 4, .inl 96, .inl 64, .inl 120, .inl 5, .inr (2, [none, none, some none, some none])] hP dX4_init_38 clX4_30 (by decide) (by decide) rfl rfl ?_
  refine ev_dup dX4_init_41 rfl ?_
  refine ev_cI (l0 := [.inr (4, [some (some (a + 1)), some (some (a + 6)), some (some (a + 12)), some none, some none, none, none]), .inr (1, [none, none, none, some (some (a + 2)), some (some (a + 3)), some (some (a + 4)), some (some (a + 5))]), .inl 16, .inl 6, .inl 90, .inl 24, .inr (0, [none, some (some (a + 7)), some (some (a + 8)), some (some (a + 9)), some (some (a + 10)), some (some (a + 11))]), .inl 4, .inl 4, .inl 4, .inl 4, .inl 16, .inr (3, [some (some (a + 13)), some (some (a + 16)), some (some (a + 19)), none, none, none, some (some (a + 22)), some (some (a + 23)), some (some (a + 24)), some (some (a + 25)), some (some (a + 26)), none, none, none, none, none, none, none]), .inr (2, [none, none, some (some (a + 14)), some (some (a + 15))]), .inl 4, .inl 16, .inr (2, [none, none, some (some (a + 17)), some (some (a + 18))]), .inl 4, .inl 16, .inr (2, [none, none, some (some (a + 20)), some (some (a + 21))]), .inl 4, .inl 16, .inl 4, .inl 96, .inl 64, .inl 120, .inl 5]) (Nat.le_trans ha (Nat.le_add_right _ _)) hP dX4_init_42 okX2_init ilX4_32 inX2_init rfl (by decide) (Nat.le_of_ble_eq_true rfl) (by decide) (by decide) rfl (l2 := [.inr (4, [some (some (a + 1)), some (some (a + 6)), some (some (a + 12)), some none, some none, none, none]), .inr (1, [none, none, none, some (some (a + 2)), some (some (a + 3)), some (some (a + 4)), some (some (a + 5))]), .inl 16, .inl 6, .inl 90, .inl 24, .inr (0, [none, some (some (a + 7)), some (some (a + 8)), some (some (a + 9)), some (some (a + 10)), some (some (a + 11))]), .inl 4, .inl 4, .inl 4, .inl 4, .inl 16, .inr (3, [some (some (a + 13)), some (some (a + 16)), some (some (a + 19)), none, none, none, some (some (a + 22)), some (some (a + 23)), some (some (a + 24)), some (some (a + 25)), some (some (a + 26)), none, none, none, none, none, none, none]), .inr (2, [none, none, some (some (a + 14)), some (some (a + 15))]), .inl 4, .inl 16, .inr (2, [none, none, some (some (a + 17)), some (some (a + 18))]), .inl 4, .inl 16, .inr (2, [none, none, some (some (a + 20)), some (some (a + 21))]), .inl 4, .inl 16, .inl 4, .inl 96, .inl 64, .inl 120, .inl 5, .inr (2, [none, none, some (some (a + 28)), some (some (a + 29))]), .inl 4, .inl 16]) rfl (t_X2_init (lenA hP rfl) (Nat.le_trans ha (Nat.le_add_right _ _))) ?_
  intro σ4 h4
  refine ev_pR [some (some (a + 1)), some (some (a + 6)), some (some (a + 12)), some (some (a + 27)), some none, none, none] hP dX4_init_45 fX4_33 rfl cls4 rfl (fun _ => rfl) (fun _ => rfl) rfl ?_
  refine ev_aload_n dX4_init_48 rfl ?_
  refine ev_nO nf2 30 [.inr (4, [some (some (a + 1)), some (some (a + 6)), some (some (a + 12)), some (some (a + 27)), some none, none, none]), .inr (1, [none, none, none, some (some (a + 2)), some (some (a + 3)), some (some (a + 4)), some (some (a + 5))]), .inl 16, .inl 6, .inl 90, .inl 24, .inr (0, [none, some (some (a + 7)), some (some (a + 8)), some (some (a + 9)), some (some (a + 10)), some (some (a + 11))]), .inl 4, .inl 4, .inl 4, .inl 4, .inl 16, .inr (3, [some (some (a + 13)), some (some (a + 16)), some (some (a + 19)), none, none, none, some (some (a + 22)), some (some (a + 23)), some (some (a + 24)), some (some (a + 25)), some (some (a + 26)), none, none, none, none, none, none, none]), .inr (2, [none, none, some (some (a + 14)), some (some (a + 15))]), .inl 4, .inl 16, .inr (2, [none, none, some (some (a + 17)), some (some (a + 18))]), .inl 4, .inl 16, .inr (2, [none, none, some (some (a + 20)), some (some (a + 21))]), .inl 4, .inl 16, .inl 4, .inl 96, .inl 64, .inl 120, .inl 5, .inr (2, [none, none, some (some (a + 28)), some (some (a + 29))]), .inl 4, .inl 16, .inr (2, [none, none, some none, some none])] hP dX4_init_49 clX4_30 (by decide) (by decide) rfl rfl ?_
  refine ev_dup dX4_init_52 rfl ?_
  refine ev_cI (l0 := [.inr (4, [some (some (a + 1)), some (some (a + 6)), some (some (a + 12)), some (some (a + 27)), some none, none, none]), .inr (1, [none, none, none, some (some (a + 2)), some (some (a + 3)), some (some (a + 4)), some (some (a + 5))]), .inl 16, .inl 6, .inl 90, .inl 24, .inr (0, [none, some (some (a + 7)), some (some (a + 8)), some (some (a + 9)), some (some (a + 10)), some (some (a + 11))]), .inl 4, .inl 4, .inl 4, .inl 4, .inl 16, .inr (3, [some (some (a + 13)), some (some (a + 16)), some (some (a + 19)), none, none, none, some (some (a + 22)), some (some (a + 23)), some (some (a + 24)), some (some (a + 25)), some (some (a + 26)), none, none, none, none, none, none, none]), .inr (2, [none, none, some (some (a + 14)), some (some (a + 15))]), .inl 4, .inl 16, .inr (2, [none, none, some (some (a + 17)), some (some (a + 18))]), .inl 4, .inl 16, .inr (2, [none, none, some (some (a + 20)), some (some (a + 21))]), .inl 4, .inl 16, .inl 4, .inl 96, .inl 64, .inl 120, .inl 5, .inr (2, [none, none, some (some (a + 28)), some (some (a + 29))]), .inl 4, .inl 16]) (Nat.le_trans ha (Nat.le_add_right _ _)) hP dX4_init_53 okX2_init ilX4_32 inX2_init rfl (by decide) (Nat.le_of_ble_eq_true rfl) (by decide) (by decide) rfl (l2 := [.inr (4, [some (some (a + 1)), some (some (a + 6)), some (some (a + 12)), some (some (a + 27)), some none, none, none]), .inr (1, [none, none, none, some (some (a + 2)), some (some (a + 3)), some (some (a + 4)), some (some (a + 5))]), .inl 16, .inl 6, .inl 90, .inl 24, .inr (0, [none, some (some (a + 7)), some (some (a + 8)), some (some (a + 9)), some (some (a + 10)), some (some (a + 11))]), .inl 4, .inl 4, .inl 4, .inl 4, .inl 16, .inr (3, [some (some (a + 13)), some (some (a + 16)), some (some (a + 19)), none, none, none, some (some (a + 22)), some (some (a + 23)), some (some (a + 24)), some (some (a + 25)), some (some (a + 26)), none, none, none, none, none, none, none]), .inr (2, [none, none, some (some (a + 14)), some (some (a + 15))]), .inl 4, .inl 16, .inr (2, [none, none, some (some (a + 17)), some (some (a + 18))]), .inl 4, .inl 16, .inr (2, [none, none, some (some (a + 20)), some (some (a + 21))]), .inl 4, .inl 16, .inl 4, .inl 96, .inl 64, .inl 120, .inl 5, .inr (2, [none, none, some (some (a + 28)), some (some (a + 29))]), .inl 4, .inl 16, .inr (2, [none, none, some (some (a + 31)), some (some (a + 32))]), .inl 4, .inl 16]) rfl (t_X2_init (lenA hP rfl) (Nat.le_trans ha (Nat.le_add_right _ _))) ?_
  intro σ5 h5
  refine ev_pR [some (some (a + 1)), some (some (a + 6)), some (some (a + 12)), some (some (a + 27)), some (some (a + 30)), none, none] hP dX4_init_56 fX4_37 rfl cls4 rfl (fun _ => rfl) (fun _ => rfl) rfl ?_
  refine ev_aload_n dX4_init_59 rfl ?_
  refine ev_bipush (-6) dX4_init_60 (by decide) ?_
  refine ev_putI dX4_init_62 fX4_40 ⟨_, getA0 hP, rfl⟩ rfl rfl ?_
  refine ev_aload_n dX4_init_65 rfl ?_
  refine ev_iconst 0 dX4_init_66 (by decide) ?_
  refine ev_putI dX4_init_67 fX4_44 ⟨_, getA0 hP, rfl⟩ rfl rfl ?_
  refine ev_ret dX4_init_70 rfl rfl ?_
  have fr : ∀ c, c < a + 27 → c ≠ a → (ai_up (ai_up σ5 a 5 (-6)) a 6 0) c = σ3 c := fun c q1 q2 => by rw [ai_up, if_neg q2, ai_up, if_neg q2, h5.2.2.2.2 c (by omega), nw_lt (by omega), h4.2.2.2.2 c (by omega), nw_lt (by omega)]
  have fr3 : ∀ c, c < a + 7 → σ3 c = σ2 c := fun c q1 => by rw [h3 c (by omega), nw_lt (by omega)]
  have fr2 : ∀ c, c < a + 6 → σ2 c = σ1 c := fun c q1 => by rw [h2 c (by omega), nw_lt (by omega)]
  have fr5 : ∀ c, c < a + 30 → c ≠ a → (ai_up (ai_up σ5 a 5 (-6)) a 6 0) c = σ4 c := fun c q1 q2 => by rw [ai_up, if_neg q2, ai_up, if_neg q2, h5.2.2.2.2 c (by omega), nw_lt (by omega)]
  refine ⟨rfl, rfl, ?_, ?_, ?_, fun i hi => ?_, fun i hi => ?_, ?_, ?_, ?_, fun i hi => ?_, fun i hi => ?_, by rw [ai_up, if_pos rfl]; rfl, fun c hc => ?_⟩
  · rw [fr _ (by omega) (by omega), fr3 _ (by omega), fr2 _ (by omega)]; exact h1.1
  · rw [fr _ (by omega) (by omega), fr3 _ (by omega), fr2 _ (by omega)]; exact h1.2.1
  · rw [fr _ (by omega) (by omega), fr3 _ (by omega), fr2 _ (by omega)]; exact h1.2.2.1
  · rw [fr _ (by omega) (by omega), fr3 _ (by omega), fr2 _ (by omega)]; exact h1.2.2.2.1 i hi
  · rw [fr _ (by omega) (by omega), fr3 _ (by omega), fr2 _ (by omega)]; exact h1.2.2.2.2.1 i hi
  · rw [fr _ (by omega) (by omega), fr3 _ (by omega), h2 _ (by omega), ai_new, if_pos rfl]
  · rw [fr5 _ (by omega) (by omega)]; exact h4.1
  · rw [fr5 _ (by omega) (by omega)]; exact h4.2.1
  · rw [fr5 _ (by omega) (by omega)]; exact h4.2.2.1 i hi
  · rw [fr5 _ (by omega) (by omega)]; exact h4.2.2.2.1 i hi
  · rw [fr c (by omega) (by omega), fr3 c (by omega), fr2 c (by omega), h1.2.2.2.2.2 c (by omega), nw_lt (by omega)]
end INIS
