theorem sum_le {f : Nat → Nat} {c : Nat} : ∀ n, (∀ i, i < n → f i ≤ c) → ((List.range n).map f).sum ≤ c * n
  | 0, _ => by simp
  | n + 1, h => by
    rw [List.range_succ, List.map_append, List.sum_append]
    have := sum_le n (fun i hi => h i (by omega))
    have h2 := h n (by omega)
    simp only [List.map_cons, List.map_nil, List.sum_cons, List.sum_nil]
    rw [Nat.mul_succ]
    omega
theorem stp_le (n a p : Nat) : stp n a p ≤ n := by unfold stp; omega
theorem csP_le {β : ai_M} (h : nF β ≤ 16) (pl : PLt) (vs : List Nat) : csP β pl vs ≤ 16 * vs.length := by
  unfold csP
  refine sum_le _ (fun i _ => ?_)
  unfold pc1
  split
  · exact Nat.le_trans (stp_le _ _ _) h
  · omega
theorem mvP_false (β : ai_M) (pl : PLt) (vs : List Nat) : mvP β false pl vs = 0 := by
  unfold mvP
  have : ∀ i, pm1 β false pl (vs.take i) (vs.getD i 0) = 0 := by
    intro i
    unfold pm1
    split
    · unfold mvB; simp
    · rfl
  have h := sum_le (f := fun p => pm1 β false pl (vs.take p) (vs.getD p 0)) (c := 0) vs.length (fun i _ => by rw [this]; omega)
  omega
/-- the bound: cold, or what a giving weighs -/
def MBd (σ β : ai_M) (mv : Bool) (pl : PLt) (b : Option (List Nat)) : Prop := σ 35 22 = (if mv then 1 else 0) ∧ match b with
  | none => σ 35 24 = -1
  | some x => x.length ≤ 20 ∧ σ 35 24 = nI (csP β pl x) ∧ σ 35 23 = nI (mvP β mv pl x)
def btr (β : ai_M) (mv : Bool) (pl : PLt) (b : Option (List Nat)) (vs : List Nat) : Bool := match b with
  | none => true
  | some x => decide (wtP β mv pl vs < wtP β mv pl x)
theorem mvP_le {β : ai_M} (mv : Bool) (pl : PLt) (vs : List Nat) : mvP β mv pl vs ≤ 1 * vs.length := by
  unfold mvP
  refine sum_le _ (fun i _ => ?_)
  unfold pm1
  split
  · unfold mvB; split <;> omega
  · omega
section MS3
variable {σ β : ai_M} {d L : Nat} {pl : PLt} {vs : List Nat} {mv : Bool} {b : Option (List Nat)}
theorem t_isBetter (hw : WF β) (h : RM σ β) (hp : PLok β pl) (hm : MS σ pl vs) (hv : VL β pl vs) (hb : MBd σ β mv pl b) {k : Int32} (hk : k = nI vs.length - 1) : ev mX5_isBetter (d + 2) 0 [some (.ref 35), some (.int k), none] [] (LY L) σ 0 0 (Rp (LY L) σ (bI (btr β mv pl b vs = true))) := by
  have h20 := hp.1
  have hl := hv.1
  have k1 := csP_le hw.1.2.2.1 pl vs
  have k2 := mvP_le (β := β) mv pl vs
  cases b with
  | none =>
    have e := hb.2
    refine ev_aload_n dX5_isBetter_0 rfl ?_
    refine ev_getI dX5_isBetter_1 fX5_114 ⟨_, rfl, rfl⟩ ?_
    rw [e]
    refine ev_if_ge 9 dX5_isBetter_4 (by decide) (fun c4 => absurd c4 (by decide)) (fun c4 => ?_)
    refine ev_iconst 1 dX5_isBetter_7 (by decide) ?_
    refine ev_ireturn dX5_isBetter_8 rfl rfl rfl ?_
    exact Rp.mk (bI_t rfl)
  | some x =>
    obtain ⟨e22, hx, e24, e23⟩ := hb
    have k3 := csP_le hw.1.2.2.1 pl x
    have k4 := mvP_le (β := β) mv pl x
    have fin : ev mX5_isBetter (d + 2) 25 [some (.ref 35), some (.int k), none] [.int (nI (mvP β mv pl vs))] (LY L) σ 0 0 (Rp (LY L) σ (bI (btr β mv pl (some x) vs = true))) := by
      refine ev_istore_n dX5_isBetter_25 (by decide) ?_
      refine ev_iload_n dX5_isBetter_26 rfl ?_
      refine ev_aload_n dX5_isBetter_27 rfl ?_
      refine ev_getI dX5_isBetter_28 fX5_111 ⟨_, rfl, rfl⟩ ?_
      rw [e23]
      refine ev_icmp_lt 54 dX5_isBetter_31 (by decide) (fun c31 => ?_) (fun c31 => ?_)
      · refine ev_iconst 1 dX5_isBetter_54 (by decide) ?_
        refine ev_goto 59 dX5_isBetter_55 (by decide) ?_
        refine ev_ireturn dX5_isBetter_59 rfl rfl rfl ?_
        try rw [nI_ltI (by omega) (by omega)] at c31
        try rw [nI_eq (by omega) (by omega)] at c39
        try rw [nI_leI (by omega) (by omega)] at c51
        first | exact Rp.mk (bI_t (by rw [btr, decide_eq_true_eq, wtP, wtP]; omega)) | exact Rp.mk (bI_f (by rw [btr, decide_eq_true_eq, wtP, wtP]; omega))
      · refine ev_iload_n dX5_isBetter_34 rfl ?_
        refine ev_aload_n dX5_isBetter_35 rfl ?_
        refine ev_getI dX5_isBetter_36 fX5_111 ⟨_, rfl, rfl⟩ ?_
        rw [e23]
        refine ev_icmp_ne 58 dX5_isBetter_39 (by decide) (fun c39 => ?_) (fun c39 => ?_)
        · refine ev_iconst 0 dX5_isBetter_58 (by decide) ?_
          refine ev_ireturn dX5_isBetter_59 rfl rfl rfl ?_
          try rw [nI_ltI (by omega) (by omega)] at c31
          try rw [nI_eq (by omega) (by omega)] at c39
          try rw [nI_leI (by omega) (by omega)] at c51
          first | exact Rp.mk (bI_t (by rw [btr, decide_eq_true_eq, wtP, wtP]; omega)) | exact Rp.mk (bI_f (by rw [btr, decide_eq_true_eq, wtP, wtP]; omega))
        · refine ev_aload_n dX5_isBetter_42 rfl ?_
          refine ev_iload_n dX5_isBetter_43 rfl ?_
          refine cVp1 dX5_isBetter_44 VX5_128 ⟨_, rfl⟩ rfl rfl (t_costTo hw h hp hm hv hk) ?_
          refine ev_aload_n dX5_isBetter_47 rfl ?_
          refine ev_getI dX5_isBetter_48 fX5_114 ⟨_, rfl, rfl⟩ ?_
          rw [e24]
          refine ev_icmp_ge 58 dX5_isBetter_51 (by decide) (fun c51 => ?_) (fun c51 => ?_)
          · refine ev_iconst 0 dX5_isBetter_58 (by decide) ?_
            refine ev_ireturn dX5_isBetter_59 rfl rfl rfl ?_
            try rw [nI_ltI (by omega) (by omega)] at c31
            try rw [nI_eq (by omega) (by omega)] at c39
            try rw [nI_leI (by omega) (by omega)] at c51
            first | exact Rp.mk (bI_t (by rw [btr, decide_eq_true_eq, wtP, wtP]; omega)) | exact Rp.mk (bI_f (by rw [btr, decide_eq_true_eq, wtP, wtP]; omega))
          · refine ev_iconst 1 dX5_isBetter_54 (by decide) ?_
            refine ev_goto 59 dX5_isBetter_55 (by decide) ?_
            refine ev_ireturn dX5_isBetter_59 rfl rfl rfl ?_
            try rw [nI_ltI (by omega) (by omega)] at c31
            try rw [nI_eq (by omega) (by omega)] at c39
            try rw [nI_leI (by omega) (by omega)] at c51
            first | exact Rp.mk (bI_t (by rw [btr, decide_eq_true_eq, wtP, wtP]; omega)) | exact Rp.mk (bI_f (by rw [btr, decide_eq_true_eq, wtP, wtP]; omega))
    refine ev_aload_n dX5_isBetter_0 rfl ?_
    refine ev_getI dX5_isBetter_1 fX5_114 ⟨_, rfl, rfl⟩ ?_
    rw [e24]
    refine ev_if_ge 9 dX5_isBetter_4 (by decide) (fun c4 => ?_) (fun c4 => absurd (nI_pos' (by omega)) c4)
    refine ev_aload_n dX5_isBetter_9 rfl ?_
    refine ev_getI dX5_isBetter_10 fX5_108 ⟨_, rfl, rfl⟩ ?_
    rw [e22]
    refine ev_if_eq 24 dX5_isBetter_13 (by decide) (fun c13 => ?_) (fun c13 => ?_)
    · refine ev_iconst 0 dX5_isBetter_24 (by decide) ?_
      cases mv with | true => (first | exact fin | exact absurd c13 (by decide)) | false => (first | exact absurd rfl c13 | (have f2 := fin; rw [mvP_false] at f2; exact f2))
    · refine ev_aload_n dX5_isBetter_16 rfl ?_
      refine ev_iload_n dX5_isBetter_17 rfl ?_
      refine cVp1 dX5_isBetter_18 VX5_125 ⟨_, rfl⟩ rfl rfl (t_movesTo hw h hp hm hv hk) ?_
      refine ev_goto 25 dX5_isBetter_21 (by decide) ?_
      cases mv with | true => (first | exact fin | exact absurd c13 (by decide)) | false => (first | exact absurd rfl c13 | (have f2 := fin; rw [mvP_false] at f2; exact f2))
end MS3
