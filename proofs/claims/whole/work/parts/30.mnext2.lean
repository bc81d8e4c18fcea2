section MN2
variable {β : ai_M} {d L : Nat} {pl : PLt} {mv : Bool} {b : Option (List Nat)} {σ0 : ai_M}
theorem lim16 (hw : WF β) (k : Nat) : lim β pl k ≤ 16 := by
  have h1 := hw.1.2.2.1
  have h2 := hw.1.2.2.2.2.1
  unfold lim
  split <;> omega
/-- found: the list l0 begins with nothing better, then x, then what comes behind x -/
def Fnd (β : ai_M) (mv : Bool) (pl : PLt) (b : Option (List Nat)) (l0 : List (List Nat)) (x : List Nat) : Prop := x.length = pl.length ∧ btr β mv pl b x = true ∧ ∃ l1, l0 = l1 ++ x :: upR β pl x.length x ∧ ∀ z ∈ l1, btr β mv pl b z = false
theorem Fnd.pre {l0 m : List (List Nat)} {x : List Nat} (h : Fnd β mv pl b l0 x) (hm : ∀ z ∈ m, btr β mv pl b z = false) : Fnd β mv pl b (m ++ l0) x := by
  obtain ⟨h1, h2, l1, h3, h4⟩ := h
  refine ⟨h1, h2, m ++ l1, by rw [h3, List.append_assoc], fun z hz => ?_⟩
  rcases List.mem_append.mp hz with q | q
  · exact hm z q
  · exact h4 z q
theorem inner_step (hw : WF β) (hr : RM σ0 β) (hp : PLok β pl) {Q : Option Value → ai_L → ai_M → Prop} {D : Nat} {vs : List Nat} (hl : vs.length < pl.length) {v : Nat} (hvl : v < lim β pl vs.length) {σ : ai_M} (h : NS σ0 β mv pl b vs σ) (hb : NB pl (vs.length + 1) σ)
    (Kskip : ∀ (σ1 : ai_M), NS σ0 β mv pl b vs σ1 → NB pl (vs.length + 1) σ1 → (∀ z ∈ (if fit β pl vs v then sub β pl D (vs ++ [v]) else []), btr β mv pl b z = false) → ev mX5_next (d + 3) 101 [some (.ref 35), some (.int (nI vs.length)), some (.int (nI (lim β pl vs.length))), some (.int (nI (v + 1))), some (.int 0)] [] (LY L) σ1 0 0 Q)
    (Kgood : ∀ (σ1 : ai_M), NS σ0 β mv pl b (vs ++ [v]) σ1 → NB pl (vs.length + 1) σ1 → fit β pl vs v = true → btr β mv pl b (vs ++ [v]) = true → ev mX5_next (d + 3) 169 [some (.ref 35), some (.int (nI vs.length)), some (.int (nI (lim β pl vs.length))), some (.int (nI v)), some (.int 1)] [] (LY L) σ1 0 0 Q) :
    ev mX5_next (d + 3) 101 [some (.ref 35), some (.int (nI vs.length)), some (.int (nI (lim β pl vs.length))), some (.int (nI v)), some (.int 0)] [] (LY L) σ 0 0 Q := by
  have h20 := hp.1
  have hl16 := lim16 (pl := pl) hw vs.length
  have hin : vp_in (nI vs.length) 20 := vp_in_nI (by omega) (by decide)
  have ic : (nI vs.length).toNatClampNeg = vs.length := clN (by omega)
  have skip : ∀ (σ1 : ai_M), NS σ0 β mv pl b vs σ1 → NB pl (vs.length + 1) σ1 → (∀ z ∈ (if fit β pl vs v then sub β pl D (vs ++ [v]) else []), btr β mv pl b z = false) → ev mX5_next (d + 3) 134 [some (.ref 35), some (.int (nI vs.length)), some (.int (nI (lim β pl vs.length))), some (.int (nI v)), some (.int 0)] [] (LY L) σ1 0 0 Q := by
    intro σ1 g1 g2 g3
    refine ev_iload_n dX5_next_134 rfl ?_
    refine ev_iload dX5_next_135 rfl ?_
    refine ev_if_eq 144 dX5_next_137 (by decide) (fun c137 => ?_) (fun c137 => absurd rfl c137)
    refine ev_iconst 1 dX5_next_144 (by decide) ?_
    refine ev_iadd dX5_next_145 ?_
    rw [nI_1]
    refine ev_istore_n dX5_next_146 (by decide) ?_
    refine ev_goto 101 dX5_next_147 (by decide) ?_
    exact Kskip σ1 g1 g2 g3
  have good : ∀ (σ1 : ai_M), NS σ0 β mv pl b (vs ++ [v]) σ1 → NB pl (vs.length + 1) σ1 → fit β pl vs v = true → btr β mv pl b (vs ++ [v]) = true → ev mX5_next (d + 3) 134 [some (.ref 35), some (.int (nI vs.length)), some (.int (nI (lim β pl vs.length))), some (.int (nI v)), some (.int 1)] [] (LY L) σ1 0 0 Q := by
    intro σ1 g1 g2 g3 g4
    refine ev_iload_n dX5_next_134 rfl ?_
    refine ev_iload dX5_next_135 rfl ?_
    refine ev_if_eq 144 dX5_next_137 (by decide) (fun c137 => absurd c137 (by decide)) (fun c137 => ?_)
    refine ev_iconst 0 dX5_next_140 (by decide) ?_
    refine ev_goto 145 dX5_next_141 (by decide) ?_
    refine ev_iadd dX5_next_145 ?_
    rw [show (0 : Int32) = nI 0 from rfl, nI_add, Nat.add_zero]
    refine ev_istore_n dX5_next_146 (by decide) ?_
    refine ev_goto 101 dX5_next_147 (by decide) ?_
    refine ev_iload dX5_next_101 rfl ?_
    refine ev_if_ne 150 dX5_next_103 (by decide) (fun c103 => ?_) (fun c103 => absurd c103 (by decide))
    refine ev_iload dX5_next_150 rfl ?_
    refine ev_if_ne 169 dX5_next_152 (by decide) (fun c152 => ?_) (fun c152 => absurd c152 (by decide))
    exact Kgood σ1 g1 g2 g3 g4
  have better : fit β pl vs v = true → ∀ (σ1 : ai_M), NS σ0 β mv pl b vs σ1 → NS σ0 β mv pl b (vs ++ [v]) σ1 → NB pl (vs.length + 1) σ1 → ev mX5_next (d + 3) 127 [some (.ref 35), some (.int (nI vs.length)), some (.int (nI (lim β pl vs.length))), some (.int (nI v)), some (.int 0)] [] (LY L) σ1 0 0 Q := by
    intro hf σ1 g0 g1 g2
    refine ev_aload_n dX5_next_127 rfl ?_
    refine ev_iload_n dX5_next_128 rfl ?_
    refine cVp1 dX5_next_129 VX5_134 ⟨_, rfl⟩ rfl rfl (t_isBetter hw (g1.1.RM hr) hp g1.2.2.1 g1.2.2.2.1 g1.2.1 (by rw [List.length_append, List.length_singleton]; exact (nI_pred _).symm)) ?_
    refine ev_istore dX5_next_132 (by decide) ?_
    cases hbt : btr β mv pl b (vs ++ [v]) with
    | true =>
      rw [show bI (true = true) = 1 from rfl]
      exact good σ1 g1 g2 hf hbt
    | false =>
      rw [show bI (false = true) = 0 from rfl]
      exact skip σ1 g0 g2 (by rw [if_pos hf]; exact btr_sub hbt)
  refine ev_iload dX5_next_101 rfl ?_
  refine ev_if_ne 150 dX5_next_103 (by decide) (fun c103 => absurd rfl c103) (fun c103 => ?_)
  refine ev_iload_n dX5_next_106 rfl ?_
  refine ev_iload_n dX5_next_107 rfl ?_
  refine ev_icmp_ge 150 dX5_next_108 (by decide) (fun c108 => absurd c108 (nI_ge (by omega) (by omega))) (fun c108 => ?_)
  refine ev_aload_n dX5_next_111 rfl ?_
  refine ev_iload_n dX5_next_112 rfl ?_
  refine ev_iload_n dX5_next_113 rfl ?_
  refine cVp2 dX5_next_114 VX5_131 ⟨_, rfl⟩ rfl rfl rfl (t_fits hw (h.1.RM hr) hp h.2.2.1 hl h.2.2.2.1 hvl) ?_
  refine ev_if_eq 134 dX5_next_117 (by decide) (fun c117 => ?_) (fun c117 => ?_)
  · exact skip σ h hb (by rw [bI_0] at c117; intro z hz; rw [if_neg c117] at hz; cases hz)
  · refine ev_aload_n dX5_next_120 rfl ?_
    refine ev_getR dX5_next_121 fX5_56 ⟨_, rfl, rfl⟩ ?_
    refine ev_iload_n dX5_next_124 rfl ?_
    refine ev_iload_n dX5_next_125 rfl ?_
    refine ev_iastore dX5_next_126 (by decide) rfl hin ?_
    rw [ic]
    rw [bI_n] at c117
    have e50 : (ai_up σ 50 vs.length (nI v)) 50 vs.length = nI v := upd_at
    have g0 := h.v50 (k := vs.length) (x := nI v) (Nat.le_refl _)
    have gb : NB pl (vs.length + 1) (ai_up σ 50 vs.length (nI v)) := (fun p h1 h2 => by show upd (σ 50) vs.length (nI v) p = -6; rw [upd_ne (by omega)]; exact hb p h1 h2)
    exact better c117 _ g0 ⟨g0.1, g0.2.1, g0.2.2.1.snoc e50, g0.2.2.2.1.snoc hl hvl, g0.2.2.2.2⟩ gb
theorem inner_end (hw : WF β) (hp : PLok β pl) {Q : Option Value → ai_L → ai_M → Prop} {vs : List Nat} (hl : vs.length < pl.length) {σ : ai_M} (h : NS σ0 β mv pl b vs σ) (hb : NB pl (vs.length + 1) σ)
    (Kf : ∀ (σ1 : ai_M) (l2 l3 l4 : Option Value), NS σ0 β mv pl b vs σ1 → NB pl vs.length σ1 → nxt σ1 (d + 3) L 184 (nI vs.length + Int32.ofInt (-1)) l2 l3 l4 Q) :
    ev mX5_next (d + 3) 101 [some (.ref 35), some (.int (nI vs.length)), some (.int (nI (lim β pl vs.length))), some (.int (nI (lim β pl vs.length))), some (.int 0)] [] (LY L) σ 0 0 Q := by
  have h20 := hp.1
  have hl16 := lim16 (pl := pl) hw vs.length
  have hin : vp_in (nI vs.length) 20 := vp_in_nI (by omega) (by decide)
  have ic : (nI vs.length).toNatClampNeg = vs.length := clN (by omega)
  have gb : NB pl vs.length (ai_up σ 50 vs.length (-6)) := by
    intro p h1 h2
    show upd (σ 50) vs.length (-6) p = -6
    by_cases hz : p = vs.length
    · subst hz; exact upd_at
    · rw [upd_ne hz]; exact hb p (by omega) h2
  refine ev_iload dX5_next_101 rfl ?_
  refine ev_if_ne 150 dX5_next_103 (by decide) (fun c103 => absurd rfl c103) (fun c103 => ?_)
  refine ev_iload_n dX5_next_106 rfl ?_
  refine ev_iload_n dX5_next_107 rfl ?_
  refine ev_icmp_ge 150 dX5_next_108 (by decide) (fun c108 => ?_) (fun c108 => absurd (nI_le (by omega) (by omega)) c108)
  refine ev_iload dX5_next_150 rfl ?_
  refine ev_if_ne 169 dX5_next_152 (by decide) (fun c152 => absurd rfl c152) (fun c152 => ?_)
  refine ev_aload_n dX5_next_155 rfl ?_
  refine ev_getR dX5_next_156 fX5_56 ⟨_, rfl, rfl⟩ ?_
  refine ev_iload_n dX5_next_159 rfl ?_
  refine ev_bipush (-6) dX5_next_160 (by decide) ?_
  refine ev_iastore dX5_next_162 (by decide) rfl hin ?_
  rw [ic]
  refine ev_iinc _ dX5_next_163 rfl rfl (by decide) ?_
  refine ev_goto 184 dX5_next_166 (by decide) ?_
  exact Kf _ _ _ _ (h.v50 (Nat.le_refl _)) gb
theorem inner_go (hw : WF β) (hr : RM σ0 β) (hp : PLok β pl) {Q : Option Value → ai_L → ai_M → Prop} : ∀ (D : Nat) (vs : List Nat), vs.length + D + 1 = pl.length → ∀ (n v : Nat), v + n = lim β pl vs.length → ∀ (σ : ai_M), NS σ0 β mv pl b vs σ → NB pl (vs.length + 1) σ →
    (∀ (x : List Nat) (σ1 : ai_M), NS σ0 β mv pl b x σ1 → Fnd β mv pl b (subF β pl D vs v ++ upR β pl vs.length vs) x → Q (some (.int 1)) (LY L) σ1) →
    (∀ (σ1 : ai_M) (l2 l3 l4 : Option Value), NS σ0 β mv pl b vs σ1 → NB pl vs.length σ1 → (∀ x ∈ subF β pl D vs v, btr β mv pl b x = false) → nxt σ1 (d + 3) L 184 (nI vs.length + Int32.ofInt (-1)) l2 l3 l4 Q) →
    ev mX5_next (d + 3) 101 [some (.ref 35), some (.int (nI vs.length)), some (.int (nI (lim β pl vs.length))), some (.int (nI v)), some (.int 0)] [] (LY L) σ 0 0 Q := by
  intro D
  induction D with
  | zero =>
    intro vs hvs n
    have h20 := hp.1
    have hl16 := lim16 (pl := pl) hw vs.length
    induction n with
    | zero =>
      intro v hv σ h hb Kt Kf
      obtain rfl : v = lim β pl vs.length := by omega
      exact inner_end hw hp (by omega) h hb (fun σ1 l2 l3 l4 k1 k2 => Kf σ1 l2 l3 l4 k1 k2 (fun x hx => by rw [subF_ge (Nat.le_refl _)] at hx; cases hx))
    | succ n ih =>
      intro v hv σ h hb Kt Kf
      have hvl : v < lim β pl vs.length := by omega
      have hsp := subF_lt (β := β) (d := 0) (vs := vs) hvl
      refine inner_step (D := 0) hw hr hp (by omega) hvl h hb (fun σ1 g1 g2 g3 => ?_) (fun σ1 g1 g2 g3 g4 => ?_)
      · refine ih (v + 1) (by omega) σ1 g1 g2 (fun x σ2 k1 k2 => Kt x σ2 k1 ?_) (fun σ2 l2 l3 l4 k1 k2 k3 => Kf σ2 l2 l3 l4 k1 k2 (fun x hx => ?_))
        · rw [hsp, List.append_assoc]; exact k2.pre g3
        · rw [hsp] at hx
          rcases List.mem_append.mp hx with q | q
          · exact g3 x q
          · exact k3 x q
      · have e17 : σ1 35 17 = nI pl.length := g1.2.2.1.1
        have hex : Fnd β mv pl b (subF β pl 0 vs v ++ upR β pl vs.length vs) (vs ++ [v]) := by
          refine ⟨by rw [List.length_append, List.length_singleton]; omega, g4, [], ?_, fun z hz => by cases hz⟩
          rw [hsp, if_pos g3, sub, List.length_append, List.length_singleton, upR_S, show pl.length - vs.length - 1 = 0 by omega]
          rfl
        refine ev_iload_n dX5_next_169 rfl ?_
        refine ev_aload_n dX5_next_170 rfl ?_
        refine ev_getI dX5_next_171 fX5_102 ⟨_, rfl, rfl⟩ ?_
        rw [e17]
        refine ev_iconst 1 dX5_next_174 (by decide) ?_
        refine ev_isub dX5_next_175 ?_
        rw [show nI pl.length - 1 = nI vs.length from by rw [show pl.length = vs.length + 1 by omega]; exact nI_pred _]
        refine ev_icmp_ne 181 dX5_next_176 (by decide) (fun c176 => absurd rfl c176) (fun c176 => ?_)
        refine ev_iconst 1 dX5_next_179 (by decide) ?_
        refine ev_ireturn dX5_next_180 rfl rfl rfl ?_
        exact Kt _ σ1 g1 hex
  | succ D IH =>
    intro vs hvs n
    have h20 := hp.1
    have hl16 := lim16 (pl := pl) hw vs.length
    induction n with
    | zero =>
      intro v hv σ h hb Kt Kf
      obtain rfl : v = lim β pl vs.length := by omega
      exact inner_end hw hp (by omega) h hb (fun σ1 l2 l3 l4 k1 k2 => Kf σ1 l2 l3 l4 k1 k2 (fun x hx => by rw [subF_ge (Nat.le_refl _)] at hx; cases hx))
    | succ n ih =>
      intro v hv σ h hb Kt Kf
      have hvl : v < lim β pl vs.length := by omega
      have hsp := subF_lt (β := β) (d := D + 1) (vs := vs) hvl
      refine inner_step (D := D + 1) hw hr hp (by omega) hvl h hb (fun σ1 g1 g2 g3 => ?_) (fun σ1 g1 g2 g3 g4 => ?_)
      · refine ih (v + 1) (by omega) σ1 g1 g2 (fun x σ2 k1 k2 => Kt x σ2 k1 ?_) (fun σ2 l2 l3 l4 k1 k2 k3 => Kf σ2 l2 l3 l4 k1 k2 (fun x hx => ?_))
        · rw [hsp, List.append_assoc]; exact k2.pre g3
        · rw [hsp] at hx
          rcases List.mem_append.mp hx with q | q
          · exact g3 x q
          · exact k3 x q
      · have e17 : σ1 35 17 = nI pl.length := g1.2.2.1.1
        have hlv : (vs ++ [v]).length = vs.length + 1 := by rw [List.length_append, List.length_singleton]
        have hlist : subF β pl (D + 1) vs v ++ upR β pl vs.length vs = subF β pl D (vs ++ [v]) 0 ++ upR β pl (vs ++ [v]).length (vs ++ [v]) := by
          rw [hsp, if_pos g3, sub_F, List.append_assoc, hlv, upR_S, show pl.length - vs.length - 1 = D + 1 by omega]
        have hneq : ¬ nI vs.length = nI (pl.length - 1) := fun q => by
          have := nI_inj (by omega) (by omega) q; omega
        refine ev_iload_n dX5_next_169 rfl ?_
        refine ev_aload_n dX5_next_170 rfl ?_
        refine ev_getI dX5_next_171 fX5_102 ⟨_, rfl, rfl⟩ ?_
        rw [e17]
        refine ev_iconst 1 dX5_next_174 (by decide) ?_
        refine ev_isub dX5_next_175 ?_
        rw [show nI pl.length - 1 = nI (pl.length - 1) from (pk_sub (b := 1) (by omega))]
        refine ev_icmp_ne 181 dX5_next_176 (by decide) (fun c176 => ?_) (fun c176 => absurd c176 hneq)
        refine ev_iinc _ dX5_next_181 rfl rfl (by decide) ?_
        rw [show nI vs.length + Int32.ofInt 1 = nI (vs ++ [v]).length from by rw [hlv]; exact nI_1 _]
        refine ev_goto 42 dX5_next_184 (by decide) ?_
        refine next_head hw hr hp (v0 := 0) (by omega) (by omega) g1 (Or.inl ⟨rfl, g2 _ (by omega) (by omega)⟩) (fun p h1 h2 => g2 p (by omega) h2) (fun σ2 k1 k2 => ?_) _ _ _
        refine IH (vs ++ [v]) (by omega) (lim β pl (vs ++ [v]).length) 0 (by omega) σ2 k1 (fun p h1 h2 => k2 p (by omega) h2) (fun x σ3 j1 j2 => Kt x σ3 j1 (by rw [hlist]; exact j2)) (fun σ3 l2 l3 l4 j1 j2 j3 => ?_)
        have e3 : nI (vs ++ [v]).length + Int32.ofInt (-1) = nI vs.length := by rw [hlv]; exact pk_m1 _
        rw [e3]
        refine ev_goto 42 dX5_next_184 (by decide) ?_
        have i1 := j1.2.2.1.init
        have i2 := j1.2.2.2.1.init
        refine next_head hw hr hp (v0 := v + 1) (by omega) (by omega) ⟨j1.1, j1.2.1, i1.1, i2.1, j1.2.2.2.2⟩ (Or.inr ⟨by omega, i1.2⟩) (by rw [hlv] at j2; exact j2) (fun σ4 q1 q2 => ?_) _ _ _
        refine ih (v + 1) (by omega) σ4 q1 (fun p h1 h2 => q2 p (by omega) h2) (fun x σ5 t1 t2 => Kt x σ5 t1 ?_) (fun σ5 l2 l3 l4 t1 t2 t3 => Kf σ5 l2 l3 l4 t1 t2 (fun x hx => ?_))
        · rw [hsp, List.append_assoc]; exact t2.pre (by rw [if_pos g3, sub_F]; exact j3)
        · rw [hsp, if_pos g3, sub_F] at hx; exact (List.mem_append.mp hx).elim (j3 x) (t3 x)
end MN2
