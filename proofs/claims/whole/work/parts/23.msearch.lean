/-! the reference's search: its rows of places and values -/
def rc : Option Nat → Int32
  | none => -1
  | some r => nI r
/-- the places' shape: the first is a unit's; wishes and roles are small -/
def PLok (β : ai_M) (pl : PLt) : Prop := pl.length ≤ 20 ∧ (∀ (p w : Nat) (o : Option Nat), pl[p]? = some (w, o) → w < nW β ∧ ∀ r, o = some r → r < 4) ∧ ∀ (w : Nat) (o : Option Nat), pl[0]? = some (w, o) → o = none
def MS (σ : ai_M) (pl : PLt) (vs : List Nat) : Prop := σ 35 17 = nI pl.length ∧ (∀ (p w : Nat) (o : Option Nat), pl[p]? = some (w, o) → σ 48 p = nI w ∧ σ 49 p = rc o) ∧ ∀ (p v : Nat), vs[p]? = some v → σ 50 p = nI v
theorem rc_m1 {o : Option Nat} (h : ∀ r, o = some r → r < 4) : rc o = -1 ↔ o = none := by
  cases o with
  | none => exact ⟨fun _ => rfl, fun _ => rfl⟩
  | some r =>
    refine ⟨fun q => ?_, fun q => by cases q⟩
    have := h r rfl
    have e : (nI r).toInt = (-1 : Int32).toInt := by rw [show nI r = -1 from q]
    rw [nI_toInt (by omega), cm1n] at e
    omega
theorem isU_iff {pl : PLt} {p w : Nat} {o : Option Nat} (h : pl[p]? = some (w, o)) : isU pl p = true ↔ o = none := by
  unfold isU
  rw [h]
  cases o <;> simp
theorem upI_le (pl : PLt) : ∀ k, upI pl k ≤ k
  | 0 => Nat.le_refl 0
  | k + 1 => by
    unfold upI
    split
    · exact Nat.le_refl _
    · have := upI_le pl k; omega
section MSE
variable {σ β : ai_M} {d L : Nat} {pl : PLt} {vs : List Nat}
theorem up_loop (hp : PLok β pl) (h : MS σ pl vs) {k0 : Int32} : ∀ k, k < pl.length → ev mX5_unitPlace d 2 [some (.ref 35), some (.int k0), some (.int (nI k))] [] (LY L) σ 0 0 (Rp (LY L) σ (nI (upI pl k))) := by
  intro k
  have h20 := hp.1
  induction k with
  | zero =>
    intro hk
    obtain ⟨⟨w, o⟩, hq⟩ : ∃ q, pl[0]? = some q := ⟨_, List.getElem?_eq_getElem hk⟩
    have ho := hp.2.2 w o hq
    subst ho
    have e := (h.2.1 0 w none hq).2
    refine ev_aload_n dX5_unitPlace_2 rfl ?_
    refine ev_getR dX5_unitPlace_3 fX5_53 ⟨_, rfl, rfl⟩ ?_
    refine ev_iload_n dX5_unitPlace_6 rfl ?_
    refine ev_iaload dX5_unitPlace_7 rfl (vp_in_nI (by omega) (by decide)) ?_
    rw [clN (by omega), e]
    refine ev_iconst (-1) dX5_unitPlace_8 (by decide) ?_
    refine ev_icmp_eq 18 dX5_unitPlace_9 (by decide) (fun c9 => ?_) (fun c9 => absurd rfl c9)
    refine ev_iload_n dX5_unitPlace_18 rfl ?_
    refine ev_ireturn dX5_unitPlace_19 rfl rfl rfl ?_
    exact Rp.mk rfl
  | succ k ih =>
    intro hk
    obtain ⟨⟨w, o⟩, hq⟩ : ∃ q, pl[k + 1]? = some q := ⟨_, List.getElem?_eq_getElem hk⟩
    have e := (h.2.1 (k + 1) w o hq).2
    have iff := rc_m1 (hp.2.1 _ w o hq).2
    have iu := isU_iff hq
    refine ev_aload_n dX5_unitPlace_2 rfl ?_
    refine ev_getR dX5_unitPlace_3 fX5_53 ⟨_, rfl, rfl⟩ ?_
    refine ev_iload_n dX5_unitPlace_6 rfl ?_
    refine ev_iaload dX5_unitPlace_7 rfl (vp_in_nI (by omega) (by decide)) ?_
    rw [clN (by omega), e]
    refine ev_iconst (-1) dX5_unitPlace_8 (by decide) ?_
    refine ev_icmp_eq 18 dX5_unitPlace_9 (by decide) (fun c9 => ?_) (fun c9 => ?_)
    · refine ev_iload_n dX5_unitPlace_18 rfl ?_
      refine ev_ireturn dX5_unitPlace_19 rfl rfl rfl ?_
      exact Rp.mk (by rw [upI, if_pos (iu.mpr (iff.mp c9))])
    · refine ev_iinc _ dX5_unitPlace_12 rfl rfl (by decide) ?_
      rw [show nI (k + 1) + Int32.ofInt (-1) = nI k from pk_m1 k]
      refine ev_goto 2 dX5_unitPlace_15 (by decide) ?_
      have hi := ih (by omega)
      have eu : upI pl (k + 1) = upI pl k := by rw [upI, if_neg (fun q => c9 (iff.mpr (iu.mp q)))]
      rw [eu]
      exact hi
theorem t_unitPlace (hp : PLok β pl) (h : MS σ pl vs) {k : Nat} (hk : k < pl.length) : ev mX5_unitPlace d 0 [some (.ref 35), some (.int (nI k)), none] [] (LY L) σ 0 0 (Rp (LY L) σ (nI (upI pl k))) := by
  refine ev_iload_n dX5_unitPlace_0 rfl ?_
  refine ev_istore_n dX5_unitPlace_1 (by decide) ?_
  exact up_loop hp h k hk
theorem t_msteps (hw : WF β) (h : RM σ β) {a p : Nat} (ha : a < nF β) (hp : p < nF β) : ev mX5_steps d 0 [some (.ref 35), some (.int (nI a)), some (.int (nI p)), none] [] (LY L) σ 0 0 (Rp (LY L) σ (nI (stp (nF β) a p))) := by
  have hf16 := hw.1.2.2.1
  have e0 : σ 35 0 = nI (nF β) := h.1.trans hw.1.1
  have fin : ∀ o, o < nF β → o = (if a < p then p - a else a - p) → ev mX5_steps d 14 [some (.ref 35), some (.int (nI a)), some (.int (nI p)), none] [.int (nI o)] (LY L) σ 0 0 (Rp (LY L) σ (nI (stp (nF β) a p))) := by
    intro o ho eo
    refine ev_istore_n dX5_steps_14 (by decide) ?_
    refine ev_iload_n dX5_steps_15 rfl ?_
    refine ev_aload_n dX5_steps_16 rfl ?_
    refine ev_getI dX5_steps_17 fX5_7 ⟨_, rfl, rfl⟩ ?_
    rw [e0]
    refine ev_iload_n dX5_steps_20 rfl ?_
    refine ev_isub dX5_steps_21 ?_
    rw [pk_sub (by omega)]
    refine ev_icmp_ge 29 dX5_steps_22 (by decide) (fun c22 => ?_) (fun c22 => ?_)
    · refine ev_aload_n dX5_steps_29 rfl ?_
      refine ev_getI dX5_steps_30 fX5_7 ⟨_, rfl, rfl⟩ ?_
      rw [e0]
      refine ev_iload_n dX5_steps_33 rfl ?_
      refine ev_isub dX5_steps_34 ?_
      rw [pk_sub (by omega)]
      refine ev_ireturn dX5_steps_35 rfl rfl rfl ?_
      refine Rp.mk ?_
      unfold stp
      rw [← eo]
      first | (rw [nI_leI (by omega) (by omega)] at c22; congr 1; omega)
    · refine ev_iload_n dX5_steps_25 rfl ?_
      refine ev_goto 35 dX5_steps_26 (by decide) ?_
      refine ev_ireturn dX5_steps_35 rfl rfl rfl ?_
      refine Rp.mk ?_
      unfold stp
      rw [← eo]
      first | (rw [nI_leI (by omega) (by omega)] at c22; congr 1; omega)
  refine ev_iload_n dX5_steps_0 rfl ?_
  refine ev_iload_n dX5_steps_1 rfl ?_
  refine ev_icmp_ge 11 dX5_steps_2 (by decide) (fun c2 => ?_) (fun c2 => ?_)
  · refine ev_iload_n dX5_steps_11 rfl ?_
    refine ev_iload_n dX5_steps_12 rfl ?_
    refine ev_isub dX5_steps_13 ?_
    rw [pk_sub (by rw [nI_leI (by omega) (by omega)] at c2; omega)]
    rw [nI_leI (by omega) (by omega)] at c2
    first | exact fin _ (by omega) (by rw [if_pos (by omega)]) | exact fin _ (by omega) (by rw [if_neg (by omega)])
  · refine ev_iload_n dX5_steps_5 rfl ?_
    refine ev_iload_n dX5_steps_6 rfl ?_
    refine ev_isub dX5_steps_7 ?_
    rw [pk_sub (by rw [nI_leI (by omega) (by omega)] at c2; omega)]
    refine ev_goto 14 dX5_steps_8 (by decide) ?_
    rw [nI_leI (by omega) (by omega)] at c2
    first | exact fin _ (by omega) (by rw [if_pos (by omega)]) | exact fin _ (by omega) (by rw [if_neg (by omega)])
end MSE
