theorem upd_ne {f : Nat → Int32} {k j : Nat} {x : Int32} (h : j ≠ k) : upd f k x j = f j := if_neg h
theorem upd_at {f : Nat → Int32} {k : Nat} {x : Int32} : upd f k x k = x := if_pos rfl
theorem pls_mem {β : ai_M} {S : Nat → Bool} : ∀ (i p w : Nat) (o : Option Nat), (plsU β S i)[p]? = some (w, o) → w < i ∧ ∀ r, o = some r → r < 4 := by
  intro i p w o h
  have hm := List.mem_of_getElem? h
  unfold plsU at hm
  obtain ⟨w', hw', h2⟩ := List.mem_flatMap.mp hm
  have hlt := List.mem_range.mp hw'
  split at h2
  · unfold plW at h2
    rcases List.mem_cons.mp h2 with e | h3
    · cases e
      exact ⟨hlt, fun r hr => by cases hr⟩
    · obtain ⟨r, hr, e⟩ := List.mem_map.mp h3
      cases e
      have := List.mem_range.mp (List.mem_filter.mp hr).1
      exact ⟨hlt, fun r' hr' => by cases hr'; exact this⟩
  · cases h2
theorem pls_first {β : ai_M} {S : Nat → Bool} : ∀ (i w : Nat) (o : Option Nat), (plsU β S i)[0]? = some (w, o) → o = none := by
  intro i
  induction i with
  | zero => intro w o h; simp [plsU] at h
  | succ i ih =>
    intro w o h
    rw [plsU_S] at h
    cases hz : plsU β S i with
    | nil =>
      rw [hz, List.nil_append] at h
      split at h
      · cases h; rfl
      · cases h
    | cons q l =>
      rw [hz] at h
      refine ih w o ?_
      rw [hz]
      exact h
theorem pls_ok {β : ai_M} (hw : WF β) (S : Nat → Bool) : PLok β (pls β S) := by
  have h4 := hw.1.2.2.2.2.2.2.2.2
  refine ⟨Nat.le_trans (plsU_len β S (nW β)) (by omega), fun p w o h => pls_mem (nW β) p w o h, fun w o h => pls_first (nW β) w o h⟩
/-- what comes behind all that goes on from vs, n values of it -/
def upR (β : ai_M) (pl : PLt) : Nat → List Nat → List (List Nat)
  | 0, _ => []
  | n + 1, vs => subF β pl (pl.length - n - 1) (vs.take n) (vs.getD n 0 + 1) ++ upR β pl n (vs.take n)
theorem upR_S (β : ai_M) (pl : PLt) (vs : List Nat) (v : Nat) : upR β pl (vs.length + 1) (vs ++ [v]) = subF β pl (pl.length - vs.length - 1) vs (v + 1) ++ upR β pl vs.length vs := by
  unfold upR
  rw [List.take_left']
  · congr 2
    · simp [List.getD_eq_getElem?_getD]
    · cases vs.length <;> rfl
  · rfl
theorem take_upR (β : ai_M) (pl : PLt) (n : Nat) (vs : List Nat) : upR β pl n (vs.take n) = upR β pl n vs := by
  cases n with
  | zero => rfl
  | succ n =>
    unfold upR
    rw [List.take_take, Nat.min_eq_left (by omega)]
    congr 3
    simp [List.getD_eq_getElem?_getD, List.getElem?_take_of_lt]
theorem btr_sub {β : ai_M} {mv : Bool} {pl : PLt} {b : Option (List Nat)} {d : Nat} {vs : List Nat} (h : btr β mv pl b vs = false) : ∀ x ∈ sub β pl d vs, btr β mv pl b x = false := by
  intro x hx
  have := sub_wt (mv := mv) d vs x hx
  cases b with
  | none => exact absurd h (by simp [btr])
  | some y =>
    simp only [btr, decide_eq_false_iff_not] at h ⊢
    omega
theorem MS.snoc {σ : ai_M} {pl : PLt} {vs : List Nat} {v : Nat} (h : MS σ pl vs) (e : σ 50 vs.length = nI v) : MS σ pl (vs ++ [v]) := by
  refine ⟨h.1, h.2.1, fun p z hz => ?_⟩
  by_cases hp : p < vs.length
  · rw [List.getElem?_append_left hp] at hz
    exact h.2.2 p z hz
  · rw [List.getElem?_append_right (by omega)] at hz
    have h1 : p - vs.length < 1 := (List.getElem?_eq_some_iff.mp hz).1
    have : p = vs.length := by omega
    subst this
    rw [Nat.sub_self] at hz
    cases hz
    exact e
theorem MS.init {σ : ai_M} {pl : PLt} {vs : List Nat} {v : Nat} (h : MS σ pl (vs ++ [v])) : MS σ pl vs ∧ σ 50 vs.length = nI v := by
  refine ⟨⟨h.1, h.2.1, fun p z hz => h.2.2 p z ?_⟩, h.2.2 _ _ (by simp)⟩
  rw [List.getElem?_append_left (List.getElem?_eq_some_iff.mp hz).1]; exact hz
theorem MS.v50 {σ : ai_M} {pl : PLt} {vs : List Nat} (h : MS σ pl vs) {k : Nat} {x : Int32} (hk : vs.length ≤ k) : MS (ai_up σ 50 k x) pl vs := by
  refine ⟨h.1, h.2.1, fun p z hz => ?_⟩
  have hp := (List.getElem?_eq_some_iff.mp hz).1
  show upd (σ 50) k x p = _
  rw [upd_ne (by omega)]
  exact h.2.2 p z hz
theorem VL.snoc {β : ai_M} {pl : PLt} {vs : List Nat} {v : Nat} (h : VL β pl vs) (hl : vs.length < pl.length) (hv : v < lim β pl vs.length) : VL β pl (vs ++ [v]) := by
  refine ⟨by rw [List.length_append, List.length_singleton]; omega, fun p z hz => ?_⟩
  by_cases hp : p < vs.length
  · rw [List.getElem?_append_left hp] at hz
    exact h.2 p z hz
  · rw [List.getElem?_append_right (by omega)] at hz
    have h1 : p - vs.length < 1 := (List.getElem?_eq_some_iff.mp hz).1
    have : p = vs.length := by omega
    subst this
    rw [Nat.sub_self] at hz
    cases hz
    exact hv
theorem VL.init {β : ai_M} {pl : PLt} {vs : List Nat} {v : Nat} (h : VL β pl (vs ++ [v])) : VL β pl vs ∧ v < lim β pl vs.length := by
  refine ⟨⟨by have := h.1; rw [List.length_append] at this; omega, fun p z hz => h.2 p z ?_⟩, h.2 _ _ (by simp)⟩
  rw [List.getElem?_append_left (List.getElem?_eq_some_iff.mp hz).1]; exact hz
section MNX
variable {β : ai_M} {d L : Nat} {pl : PLt} {mv : Bool} {b : Option (List Nat)} {σ0 : ai_M}
/-- the search stands, behind its rows of places; the prefix vs is laid -/
def NS0 (σ0 β : ai_M) (mv : Bool) (pl : PLt) (b : Option (List Nat)) (vs : List Nat) (σ : ai_M) : Prop := SFr σ0 σ ∧ MBd σ β mv pl b ∧ MS σ pl vs ∧ VL β pl vs ∧ σ 35 21 = 0
def NS (σ0 β : ai_M) (mv : Bool) (pl : PLt) (b : Option (List Nat)) (vs : List Nat) (σ : ai_M) : Prop := SFr σ0 σ ∧ MBd σ β mv pl b ∧ MS σ pl vs ∧ VL β pl vs ∧ σ 35 21 = 0 ∧ σ 51 = σ0 51 ∧ σ 52 = σ0 52
theorem NS.v50 {vs : List Nat} {σ : ai_M} (h : NS σ0 β mv pl b vs σ) {k : Nat} {x : Int32} (hk : vs.length ≤ k) : NS σ0 β mv pl b vs (ai_up σ 50 k x) := ⟨h.1.up (by decide), h.2.1, h.2.2.1.v50 hk, h.2.2.2.1, h.2.2.2.2⟩
/-- values behind k are none -/
def NB (pl : PLt) (k : Nat) (σ : ai_M) : Prop := ∀ p, k ≤ p → p < pl.length → σ 50 p = -6
abbrev nxt (σ : ai_M) (d L pc : Nat) (k : Int32) (l2 l3 l4 : Option Value) (Q : Option Value → ai_L → ai_M → Prop) : Prop := ev mX5_next d pc [some (.ref 35), some (.int k), l2, l3, l4] [] (LY L) σ 0 0 Q
/-- the head of the outer loop, at a place: on to the inner loop -/
theorem next_head (hw : WF β) (hr : RM σ0 β) (hp : PLok β pl) {Q : Option Value → ai_L → ai_M → Prop} {vs : List Nat} {v0 : Nat} (hl : vs.length < pl.length) (hv0 : v0 ≤ 16) {σ : ai_M} (h : NS σ0 β mv pl b vs σ) (h50 : (v0 = 0 ∧ σ 50 vs.length = -6) ∨ (1 ≤ v0 ∧ σ 50 vs.length = nI (v0 - 1))) (hb : NB pl (vs.length + 1) σ)
    (K : ∀ σ1, NS σ0 β mv pl b vs σ1 → NB pl vs.length σ1 → ev mX5_next d 101 [some (.ref 35), some (.int (nI vs.length)), some (.int (nI (lim β pl vs.length))), some (.int (nI v0)), some (.int 0)] [] (LY L) σ1 0 0 Q) (l2 l3 l4 : Option Value) : nxt σ d L 42 (nI vs.length) l2 l3 l4 Q := by
  have h20 := hp.1
  have hRM := h.1.RM hr
  obtain ⟨⟨w, o⟩, ho⟩ : ∃ q, pl[vs.length]? = some q := ⟨_, List.getElem?_eq_getElem hl⟩
  have e1 := h.2.2.1.2.1 _ w o ho
  have iff := rc_m1 (hp.2.1 _ w o ho).2
  have hin : vp_in (nI vs.length) 20 := vp_in_nI (by omega) (by decide)
  have ic : (nI vs.length).toNatClampNeg = vs.length := clN (by omega)
  have eU : σ 35 2 = nI (nU β) := hRM.2.1.trans hw.1.2.2.2.1
  have eF : σ 35 0 = nI (nF β) := hRM.1.trans hw.1.1
  have fin : ∀ (v : Int32), v = nI v0 → ev mX5_next d 89 [some (.ref 35), some (.int (nI vs.length)), some (.int (nI (lim β pl vs.length))), l3, l4] [.int v] (LY L) σ 0 0 Q := by
    intro v hv
    subst hv
    refine ev_istore_n dX5_next_89 (by decide) ?_
    refine ev_aload_n dX5_next_90 rfl ?_
    refine ev_getR dX5_next_91 fX5_56 ⟨_, rfl, rfl⟩ ?_
    refine ev_iload_n dX5_next_94 rfl ?_
    refine ev_bipush (-6) dX5_next_95 (by decide) ?_
    refine ev_iastore dX5_next_97 (by decide) rfl hin ?_
    refine ev_iconst 0 dX5_next_98 (by decide) ?_
    refine ev_istore dX5_next_99 (by decide) ?_
    rw [ic]
    refine K _ (h.v50 (Nat.le_refl _)) (fun p h1 h2 => ?_)
    show upd (σ 50) vs.length (-6) p = -6
    by_cases hz : p = vs.length
    · subst hz; exact upd_at
    · rw [upd_ne hz]; exact hb p (by omega) h2
  have fin0 : ∀ (m : Int32), m = nI (lim β pl vs.length) → ev mX5_next d 67 [some (.ref 35), some (.int (nI vs.length)), l2, l3, l4] [.int m] (LY L) σ 0 0 Q := by
    intro m hm
    subst hm
    rcases h50 with ⟨rfl, h6⟩ | ⟨h1, h6⟩
    · refine ev_istore_n dX5_next_67 (by decide) ?_
      refine ev_aload_n dX5_next_68 rfl ?_
      refine ev_getR dX5_next_69 fX5_56 ⟨_, rfl, rfl⟩ ?_
      refine ev_iload_n dX5_next_72 rfl ?_
      refine ev_iaload dX5_next_73 rfl hin ?_
      rw [ic, h6]
      refine ev_if_ge 81 dX5_next_74 (by decide) (fun c74 => absurd c74 (by decide)) (fun c74 => ?_)
      refine ev_iconst 0 dX5_next_77 (by decide) ?_
      refine ev_goto 89 dX5_next_78 (by decide) ?_
      exact fin _ rfl
    · refine ev_istore_n dX5_next_67 (by decide) ?_
      refine ev_aload_n dX5_next_68 rfl ?_
      refine ev_getR dX5_next_69 fX5_56 ⟨_, rfl, rfl⟩ ?_
      refine ev_iload_n dX5_next_72 rfl ?_
      refine ev_iaload dX5_next_73 rfl hin ?_
      rw [ic, h6]
      refine ev_if_ge 81 dX5_next_74 (by decide) (fun c74 => ?_) (fun c74 => absurd (nI_pos' (by omega)) c74)
      refine ev_aload_n dX5_next_81 rfl ?_
      refine ev_getR dX5_next_82 fX5_56 ⟨_, rfl, rfl⟩ ?_
      refine ev_iload_n dX5_next_85 rfl ?_
      refine ev_iaload dX5_next_86 rfl hin ?_
      rw [ic, h6]
      refine ev_iconst 1 dX5_next_87 (by decide) ?_
      refine ev_iadd dX5_next_88 ?_
      refine fin _ ?_
      rw [nI_1]
      congr 1
      omega
  refine ev_iload_n dX5_next_42 rfl ?_
  refine ev_if_lt 187 dX5_next_43 (by decide) (fun c43 => absurd c43 (nI_pos (by omega))) (fun c43 => ?_)
  refine ev_aload_n dX5_next_46 rfl ?_
  refine ev_getR dX5_next_47 fX5_53 ⟨_, rfl, rfl⟩ ?_
  refine ev_iload_n dX5_next_50 rfl ?_
  refine ev_iaload dX5_next_51 rfl hin ?_
  rw [ic, e1.2]
  refine ev_iconst (-1) dX5_next_52 (by decide) ?_
  refine ev_icmp_ne 63 dX5_next_53 (by decide) (fun c53 => ?_) (fun c53 => ?_)
  · refine ev_aload_n dX5_next_63 rfl ?_
    refine ev_getI dX5_next_64 fX5_7 ⟨_, rfl, rfl⟩ ?_
    rw [eF]
    first | exact fin0 _ (by rw [lim_u (by rw [ho, iff.mp c53])]) | exact fin0 _ (by cases o with | none => exact absurd rfl c53 | some r => rw [lim_f ho])
  · refine ev_aload_n dX5_next_56 rfl ?_
    refine ev_getI dX5_next_57 fX5_68 ⟨_, rfl, rfl⟩ ?_
    rw [eU]
    refine ev_goto 67 dX5_next_60 (by decide) ?_
    first | exact fin0 _ (by rw [lim_u (by rw [ho, iff.mp c53])]) | exact fin0 _ (by cases o with | none => exact absurd rfl c53 | some r => rw [lim_f ho])
end MNX
