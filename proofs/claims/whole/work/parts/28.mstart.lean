/-- only the search's own rows have changed -/
def SFr (σ σ' : ai_M) : Prop := (∀ c, c < 48 → c ≠ 35 → σ' c = σ c) ∧ ∀ k, k < 17 → σ' 35 k = σ 35 k
theorem SFr.rf {σ : ai_M} : SFr σ σ := ⟨fun _ _ _ => rfl, fun _ _ => rfl⟩
theorem SFr.tr {σ σ' σ'' : ai_M} (h : SFr σ σ') (h2 : SFr σ' σ'') : SFr σ σ'' := ⟨fun c a b => (h2.1 c a b).trans (h.1 c a b), fun k a => (h2.2 k a).trans (h.2 k a)⟩
theorem SFr.up {σ σ' : ai_M} {c k : Nat} {x : Int32} (h : SFr σ σ') (h1 : 48 ≤ c) : SFr σ (ai_up σ' c k x) := ⟨fun j a b => by rw [ai_up, if_neg (by omega)]; exact h.1 j a b, fun j a => by rw [ai_up, if_neg (by omega)]; exact h.2 j a⟩
theorem SFr.up35 {σ σ' : ai_M} {k : Nat} {x : Int32} (h : SFr σ σ') (h1 : 17 ≤ k) : SFr σ (ai_up σ' 35 k x) := ⟨fun j a b => by rw [ai_up, if_neg b]; exact h.1 j a b, fun j a => by rw [ai_up, if_pos rfl, upd, if_neg (by omega)]; exact h.2 j a⟩
theorem SFr.RM {σ σ' β : ai_M} (h : SFr σ σ') (hm : RM σ β) : RM σ' β := by
  obtain ⟨m0, m1, m2, m3, m4, mV, mK, mU, mW, mX, mHu, mHf⟩ := hm
  refine ⟨by rw [h.2 0 (by omega)]; exact m0, by rw [h.2 2 (by omega)]; exact m1, by rw [h.2 4 (by omega)]; exact m2, by rw [h.2 8 (by omega)]; exact m3, by rw [h.2 14 (by omega)]; exact m4, ?_, ?_, ?_, ?_, ?_, ?_, ?_⟩
  · rw [h.1 36 (by decide) (by decide)]; exact mV
  · rw [h.1 37 (by decide) (by decide)]; exact mK
  · rw [h.1 38 (by decide) (by decide), h.1 39 (by decide) (by decide), h.1 40 (by decide) (by decide)]; exact mU
  · rw [h.1 41 (by decide) (by decide), h.1 42 (by decide) (by decide), h.1 43 (by decide) (by decide), h.1 44 (by decide) (by decide)]; exact mW
  · rw [h.1 45 (by decide) (by decide)]; exact mX
  · rw [h.1 46 (by decide) (by decide)]; exact mHu
  · rw [h.1 47 (by decide) (by decide)]; exact mHf
theorem SFr.M {σ σ' : ai_M} (h : SFr σ σ') : FrM σ σ' := fun c hc => h.1 c (by omega) (by omega)
def SP (σ : ai_M) (pl : PLt) : Prop := σ 35 17 = nI pl.length ∧ ∀ (p w : Nat) (o : Option Nat), pl[p]? = some (w, o) → σ 48 p = nI w ∧ σ 49 p = rc o ∧ σ 50 p = -6
theorem SP.add {σ : ai_M} {pl : PLt} (h : SP σ pl) (w : Nat) (o : Option Nat) : SP (ai_up (ai_up (ai_up (ai_up σ 48 pl.length (nI w)) 49 pl.length (rc o)) 50 pl.length (-6)) 35 17 (nI (pl.length + 1))) (pl ++ [(w, o)]) := by
  refine ⟨by show nI (pl.length + 1) = _; rw [List.length_append]; rfl, fun p w' o' hq => ?_⟩
  show upd (σ 48) _ _ p = _ ∧ upd (σ 49) _ _ p = _ ∧ upd (σ 50) _ _ p = _
  unfold upd
  by_cases hp : p < pl.length
  · rw [List.getElem?_append_left hp] at hq
    rw [if_neg (by omega), if_neg (by omega), if_neg (by omega)]
    exact h.2 p w' o' hq
  · rw [List.getElem?_append_right (by omega)] at hq
    have hz : p - pl.length < 1 := (List.getElem?_eq_some_iff.mp hq).1
    have hp' : p = pl.length := by omega
    subst hp'
    rw [Nat.sub_self] at hq
    cases hq
    rw [if_pos rfl, if_pos rfl, if_pos rfl]
    exact ⟨rfl, rfl, rfl⟩
def plR (β : ai_M) (w j : Nat) : PLt := (w, none) :: ((List.range j).filter (rol β w)).map (fun r => (w, some r))
theorem plR_S (β : ai_M) (w j : Nat) : plR β w (j + 1) = plR β w j ++ (if rol β w j then [(w, some j)] else []) := by
  unfold plR
  rw [List.range_succ, List.filter_append, List.map_append, List.cons_append]
  congr 2
  by_cases h : rol β w j
  · rw [if_pos h]; simp [h]
  · rw [if_neg h]; simp [h]
theorem plR_len (β : ai_M) (w j : Nat) : (plR β w j).length ≤ j + 1 := by
  unfold plR
  rw [List.length_cons, List.length_map]
  have := List.length_filter_le (rol β w) (List.range j)
  rw [List.length_range] at this
  omega
def plsU (β : ai_M) (S : Nat → Bool) (i : Nat) : PLt := (List.range i).flatMap (fun w => if S w then plW β w else [])
theorem plsU_S (β : ai_M) (S : Nat → Bool) (i : Nat) : plsU β S (i + 1) = plsU β S i ++ (if S i then plR β i 4 else []) := by
  unfold plsU
  rw [List.range_succ, List.flatMap_append, List.flatMap_singleton]
  rfl
theorem plsU_len (β : ai_M) (S : Nat → Bool) : ∀ i, (plsU β S i).length ≤ 5 * i
  | 0 => by simp [plsU]
  | i + 1 => by
    rw [plsU_S, List.length_append]
    have := plsU_len β S i
    have h2 := plR_len β i 4
    split
    · omega
    · simp only [List.length_nil]; omega
section MST
variable {σ β : ai_M} {d L : Nat}
/-- one place more -/
theorem start_add {Q : Option Value → ai_L → ai_M → Prop} {σ1 : ai_M} {pl : PLt} {s0 m0 x : Int32} {w : Nat} {o : Option Nat} (h : SP σ1 pl) (hl : pl.length < 20) (hx : x = rc o)
    (K : SP (ai_up (ai_up (ai_up (ai_up σ1 48 pl.length (nI w)) 49 pl.length (rc o)) 50 pl.length (-6)) 35 17 (nI (pl.length + 1))) (pl ++ [(w, o)]) → SFr σ1 (ai_up (ai_up (ai_up (ai_up σ1 48 pl.length (nI w)) 49 pl.length (rc o)) 50 pl.length (-6)) 35 17 (nI (pl.length + 1))) → ev mX5_start d 91 [some (.ref 35), some (.int s0), some (.int m0), some (.int (nI w)), some (.int x)] [] (LY L) (ai_up (ai_up (ai_up (ai_up σ1 48 pl.length (nI w)) 49 pl.length (rc o)) 50 pl.length (-6)) 35 17 (nI (pl.length + 1))) 0 0 Q) :
    ev mX5_start d 49 [some (.ref 35), some (.int s0), some (.int m0), some (.int (nI w)), some (.int x)] [] (LY L) σ1 0 0 Q := by
  subst hx
  have e := h.1
  have hin : vp_in (nI pl.length) 20 := vp_in_nI hl (by decide)
  have ic : (nI pl.length).toNatClampNeg = pl.length := clN (by omega)
  refine ev_aload_n dX5_start_49 rfl ?_
  refine ev_getR dX5_start_50 fX5_50 ⟨_, rfl, rfl⟩ ?_
  refine ev_aload_n dX5_start_53 rfl ?_
  refine ev_getI dX5_start_54 fX5_102 ⟨_, rfl, rfl⟩ ?_
  rw [e]
  refine ev_iload_n dX5_start_57 rfl ?_
  refine ev_iastore dX5_start_58 (by decide) rfl hin ?_
  refine ev_aload_n dX5_start_59 rfl ?_
  refine ev_getR dX5_start_60 fX5_53 ⟨_, rfl, rfl⟩ ?_
  refine ev_aload_n dX5_start_63 rfl ?_
  refine ev_getI dX5_start_64 fX5_102 ⟨_, rfl, rfl⟩ ?_
  rw [ic, show (ai_up σ1 48 pl.length (nI w)) 35 17 = nI pl.length from e]
  refine ev_iload dX5_start_67 rfl ?_
  refine ev_iastore dX5_start_69 (by decide) rfl hin ?_
  refine ev_aload_n dX5_start_70 rfl ?_
  refine ev_getR dX5_start_71 fX5_56 ⟨_, rfl, rfl⟩ ?_
  refine ev_aload_n dX5_start_74 rfl ?_
  refine ev_getI dX5_start_75 fX5_102 ⟨_, rfl, rfl⟩ ?_
  rw [ic, show (ai_up (ai_up σ1 48 pl.length (nI w)) 49 pl.length (rc o)) 35 17 = nI pl.length from e]
  refine ev_bipush (-6) dX5_start_78 (by decide) ?_
  refine ev_iastore dX5_start_80 (by decide) rfl hin ?_
  refine ev_aload_n dX5_start_81 rfl ?_
  refine ev_dup dX5_start_82 rfl ?_
  refine ev_getI dX5_start_83 fX5_102 ⟨_, rfl, rfl⟩ ?_
  refine ev_iconst 1 dX5_start_86 (by decide) ?_
  refine ev_iadd dX5_start_87 ?_
  rw [ic, show (ai_up (ai_up (ai_up σ1 48 pl.length (nI w)) 49 pl.length (rc o)) 50 pl.length (-6)) 35 17 = nI pl.length from e, nI_1]
  refine ev_putI dX5_start_88 fX5_102 ⟨_, rfl, rfl⟩ rfl rfl ?_
  exact K (h.add w o) ((((SFr.rf.up (by decide)).up (by decide)).up (by decide)).up35 (by decide))
theorem start_roles (hw : WF β) {Q : Option Value → ai_L → ai_M → Prop} {m w : Nat} (hm : m < 2 ^ 31) (hlt : w < nW β) (hS : m.testBit w = true) {m0 : Int32} {pl : PLt} (hpl : pl.length ≤ 5 * w) (K : ∀ σ1, SFr σ σ1 → SP σ1 (pl ++ plR β w 4) → ev mX5_start (d + 2) 97 [some (.ref 35), some (.int (nI m)), some (.int m0), some (.int (nI w)), some (.int (nI 4))] [] (LY L) σ1 0 0 Q) (hr : RM σ β) :
    ∀ n r, r + n = 4 → ∀ σ1, SFr σ σ1 → SP σ1 (pl ++ plR β w r) → ev mX5_start (d + 2) 18 [some (.ref 35), some (.int (nI m)), some (.int m0), some (.int (nI w)), some (.int (nI r))] [] (LY L) σ1 0 0 Q := by
  have hw4 := hw.1.2.2.2.2.2.2.2.2
  intro n
  induction n with
  | zero =>
    intro r hrn σ1 h1 h2
    obtain rfl : r = 4 := by omega
    refine ev_iload dX5_start_18 rfl ?_
    refine ev_iconst 4 dX5_start_20 (by decide) ?_
    refine ev_icmp_ge 97 dX5_start_21 (by decide) (fun c21 => ?_) (fun c21 => absurd (nI_le (a := 4) (b := 4) (by omega) (by decide)) c21)
    exact K σ1 h1 h2
  | succ n ih =>
    intro r hrn σ1 h1 h2
    have hlen := plR_len β w r
    have hll : (pl ++ plR β w r).length < 20 := by rw [List.length_append]; omega
    have hb := (bit_1 (a := m) (f := w) hm (by omega)).mpr hS
    have icr : (nI r).toNatClampNeg = r := clN (by omega)
    have hrol : (inR (nI r) 4 ∧ (β 42 w).toNatClampNeg.testBit (nI r).toNatClampNeg = true) ↔ rol β w r = true := by
      rw [icr]
      exact ⟨fun q => q.2, fun q => ⟨by rw [inR, nI_toInt (by omega)]; omega, q⟩⟩
    have hn1 : ¬ nI r = -1 := fun q => by
      have e : (nI r).toInt = (-1 : Int32).toInt := by rw [q]
      rw [nI_toInt (by omega), cm1n] at e; omega
    refine ev_iload dX5_start_18 rfl ?_
    refine ev_iconst 4 dX5_start_20 (by decide) ?_
    refine ev_icmp_ge 97 dX5_start_21 (by decide) (fun c21 => absurd c21 (nI_ge (b := 4) (by omega) (by decide))) (fun c21 => ?_)
    refine ev_iload_n dX5_start_24 rfl ?_
    refine ev_iload_n dX5_start_25 rfl ?_
    refine ev_ishr dX5_start_26 ?_
    refine ev_iconst 1 dX5_start_27 (by decide) ?_
    refine ev_iand dX5_start_28 ?_
    refine ev_iconst 1 dX5_start_29 (by decide) ?_
    refine ev_icmp_ne 97 dX5_start_30 (by decide) (fun c30 => absurd hb c30) (fun c30 => ?_)
    refine ev_iload dX5_start_33 rfl ?_
    refine ev_iconst (-1) dX5_start_35 (by decide) ?_
    refine ev_icmp_eq 49 dX5_start_36 (by decide) (fun c36 => absurd c36 hn1) (fun c36 => ?_)
    refine ev_aload_n dX5_start_39 rfl ?_
    refine ev_iload_n dX5_start_40 rfl ?_
    refine ev_iload dX5_start_41 rfl ?_
    refine cVp2 dX5_start_43 VX5_98 ⟨_, rfl⟩ rfl rfl rfl (t_hasRoleB hw (h1.RM hr) hlt _) ?_
    refine ev_if_eq 91 dX5_start_46 (by decide) (fun c46 => ?_) (fun c46 => ?_)
    · refine ev_iinc _ dX5_start_91 rfl rfl (by decide) ?_
      rw [show nI r + Int32.ofInt 1 = nI (r + 1) from nI_1 r]
      refine ev_goto 18 dX5_start_94 (by decide) ?_
      rw [bI_0, hrol] at c46
      refine ih (r + 1) (by omega) σ1 h1 ?_
      rw [plR_S, if_neg c46, List.append_nil]
      exact h2
    · rw [bI_n, hrol] at c46
      refine start_add (o := some r) h2 hll rfl (fun k1 k2 => ?_)
      refine ev_iinc _ dX5_start_91 rfl rfl (by decide) ?_
      rw [show nI r + Int32.ofInt 1 = nI (r + 1) from nI_1 r]
      refine ev_goto 18 dX5_start_94 (by decide) ?_
      refine ih (r + 1) (by omega) _ (h1.tr k2) ?_
      rw [plR_S, if_pos c46, ← List.append_assoc]
      exact k1
theorem start_wishes (hw : WF β) (hr : RM σ β) {Q : Option Value → ai_L → ai_M → Prop} {m : Nat} (hm : m < 2 ^ 31) {m0 : Int32} (K : ∀ σ1 l4, SFr σ σ1 → SP σ1 (pls β (fun w => m.testBit w)) → ev mX5_start (d + 2) 103 [some (.ref 35), some (.int (nI m)), some (.int m0), some (.int (nI (nW β))), l4] [] (LY L) σ1 0 0 Q) :
    ∀ n w, w + n = nW β → ∀ σ1 l4, SFr σ σ1 → SP σ1 (plsU β (fun w => m.testBit w) w) → ev mX5_start (d + 2) 7 [some (.ref 35), some (.int (nI m)), some (.int m0), some (.int (nI w)), l4] [] (LY L) σ1 0 0 Q := by
  have hw4 := hw.1.2.2.2.2.2.2.2.2
  intro n
  induction n with
  | zero =>
    intro w hwn σ1 l4 h1 h2
    obtain rfl : w = nW β := by omega
    have e8 : σ1 35 8 = nI (nW β) := (h1.RM hr).2.2.2.1.trans hw.1.2.2.2.2.2.2.2.1
    refine ev_iload_n dX5_start_7 rfl ?_
    refine ev_aload_n dX5_start_8 rfl ?_
    refine ev_getI dX5_start_9 fX5_74 ⟨_, rfl, rfl⟩ ?_
    rw [e8]
    refine ev_icmp_ge 103 dX5_start_12 (by decide) (fun c12 => ?_) (fun c12 => absurd (nI_le (by omega) (by omega)) c12)
    exact K σ1 l4 h1 h2
  | succ n ih =>
    intro w hwn σ1 l4 h1 h2
    have e8 : σ1 35 8 = nI (nW β) := (h1.RM hr).2.2.2.1.trans hw.1.2.2.2.2.2.2.2.1
    have hlen := plsU_len β (fun w => m.testBit w) w
    have hb := bit_1 (a := m) (f := w) hm (by omega)
    refine ev_iload_n dX5_start_7 rfl ?_
    refine ev_aload_n dX5_start_8 rfl ?_
    refine ev_getI dX5_start_9 fX5_74 ⟨_, rfl, rfl⟩ ?_
    rw [e8]
    refine ev_icmp_ge 103 dX5_start_12 (by decide) (fun c12 => absurd c12 (nI_ge (by omega) (by omega))) (fun c12 => ?_)
    refine ev_iconst (-1) dX5_start_15 (by decide) ?_
    refine ev_istore dX5_start_16 (by decide) ?_
    refine ev_iload dX5_start_18 rfl ?_
    refine ev_iconst 4 dX5_start_20 (by decide) ?_
    refine ev_icmp_ge 97 dX5_start_21 (by decide) (fun c21 => absurd c21 (by decide)) (fun c21 => ?_)
    refine ev_iload_n dX5_start_24 rfl ?_
    refine ev_iload_n dX5_start_25 rfl ?_
    refine ev_ishr dX5_start_26 ?_
    refine ev_iconst 1 dX5_start_27 (by decide) ?_
    refine ev_iand dX5_start_28 ?_
    refine ev_iconst 1 dX5_start_29 (by decide) ?_
    refine ev_icmp_ne 97 dX5_start_30 (by decide) (fun c30 => ?_) (fun c30 => ?_)
    · refine ev_iinc _ dX5_start_97 rfl rfl (by decide) ?_
      rw [show nI w + Int32.ofInt 1 = nI (w + 1) from nI_1 w]
      refine ev_goto 7 dX5_start_100 (by decide) ?_
      refine ih (w + 1) (by omega) σ1 _ h1 ?_
      rw [plsU_S, if_neg (fun q => c30 (hb.mpr q)), List.append_nil]
      exact h2
    · refine ev_iload dX5_start_33 rfl ?_
      refine ev_iconst (-1) dX5_start_35 (by decide) ?_
      refine ev_icmp_eq 49 dX5_start_36 (by decide) (fun c36 => ?_) (fun c36 => absurd rfl c36)
      have hS := hb.mp c30
      refine start_add (o := none) h2 (by omega) rfl (fun k1 k2 => ?_)
      refine ev_iinc _ dX5_start_91 rfl rfl (by decide) ?_
      rw [show (-1 : Int32) + Int32.ofInt 1 = nI 0 from by decide]
      refine ev_goto 18 dX5_start_94 (by decide) ?_
      refine start_roles hw hm (by omega) hS hlen (fun σ2 k3 k4 => ?_) hr 4 0 rfl _ (h1.tr k2) k1
      refine ev_iinc _ dX5_start_97 rfl rfl (by decide) ?_
      rw [show nI w + Int32.ofInt 1 = nI (w + 1) from nI_1 w]
      refine ev_goto 7 dX5_start_100 (by decide) ?_
      refine ih (w + 1) (by omega) σ2 _ k3 ?_
      rw [plsU_S, if_pos hS]
      exact k4
/-- a search begun -/
def StP (σ β : ai_M) (S : Nat → Bool) (mv : Bool) (σ' : ai_M) : Prop := SFr σ σ' ∧ SP σ' (pls β S) ∧ σ' 35 21 = 1 ∧ MBd σ' β mv (pls β S) none
theorem t_start (hw : WF β) (hr : RM σ β) {m : Nat} (hm : m < 2 ^ 31) (mv : Bool) : ev mX5_start (d + 2) 0 [some (.ref 35), some (.int (nI m)), some (.int (if mv then 1 else 0)), none, none] [] (LY L) σ 0 0 (Rv (LY L) (StP σ β (fun w => m.testBit w) mv)) := by
  refine ev_aload_n dX5_start_0 rfl ?_
  refine ev_iconst 0 dX5_start_1 (by decide) ?_
  refine ev_putI dX5_start_2 fX5_102 ⟨_, rfl, rfl⟩ rfl rfl ?_
  refine ev_iconst 0 dX5_start_5 (by decide) ?_
  refine ev_istore_n dX5_start_6 (by decide) ?_
  refine start_wishes (σ := σ) hw hr hm (fun σ1 l4 h1 h2 => ?_) (nW β) 0 (by omega) _ _ (SFr.rf.up35 (by decide)) ⟨rfl, fun p w o hq => by simp [plsU] at hq⟩
  refine ev_aload_n dX5_start_103 rfl ?_
  refine ev_iconst 1 dX5_start_104 (by decide) ?_
  refine ev_putI dX5_start_105 fX5_105 ⟨_, rfl, rfl⟩ rfl rfl ?_
  refine ev_aload_n dX5_start_108 rfl ?_
  refine ev_iload_n dX5_start_109 rfl ?_
  refine ev_putI dX5_start_110 fX5_108 ⟨_, rfl, rfl⟩ (by cases mv <;> rfl) (by cases mv <;> rfl) ?_
  refine ev_aload_n dX5_start_113 rfl ?_
  refine ev_iconst (-1) dX5_start_114 (by decide) ?_
  refine ev_putI dX5_start_115 fX5_111 ⟨_, rfl, rfl⟩ rfl rfl ?_
  refine ev_aload_n dX5_start_118 rfl ?_
  refine ev_iconst (-1) dX5_start_119 (by decide) ?_
  refine ev_putI dX5_start_120 fX5_114 ⟨_, rfl, rfl⟩ rfl rfl ?_
  refine ev_ret dX5_start_123 rfl rfl ?_
  refine Rv.mk ⟨(((h1.up35 (by decide)).up35 (by decide)).up35 (by decide)).up35 (by decide), ⟨h2.1, h2.2⟩, rfl, rfl, rfl⟩
end MST
