/-- a flag -/
def fl (x : Int32) (P : Prop) : Prop := (x = 1 ∧ P) ∨ (x = 0 ∧ ¬ P)
def hu1 (β : ai_M) (w : Nat) : Prop := (¬ β 46 w = -6) ↔ w < nW β
def hf1 (β : ai_M) (w r : Nat) : Prop := (¬ β 47 (4 * w + r) = -6) ↔ (w < nW β ∧ rol β w r = true)
def F1 (β : ai_M) (n : Nat) : Prop := ¬ β 35 14 = 0 ∧ ∀ w, w < n → hu1 β w ∧ ∀ r, r < 4 → hf1 β w r
abbrev hU (β : ai_M) (w : Nat) : Nat := (β 46 w).toNatClampNeg
abbrev hF (β : ai_M) (w r : Nat) : Nat := (β 47 (4 * w + r)).toNatClampNeg
def hvs (β : ai_M) : List Nat := (plA β).map (gvM (hU β) (hF β))
section SDP
variable {β : ai_M}
theorem F1_of (hw : WF β) (h : gvD β = true) (h0 : ¬ β 35 14 = 0) : F1 β 4 := by
  obtain ⟨h1, h2⟩ := gvD_iff.mp h
  have h4 := hw.1.2.2.2.2.2.2.2.2
  refine ⟨h0, fun w hw4 => ⟨?_, fun r hr => ?_⟩⟩
  · have := hN_h hw w hw4
    rw [h1] at this; exact this.symm
  · by_cases q : w < nW β
    · have hf := h2 w q r hr
      unfold fitC at hf
      cases hrol : rol β w r with
      | true =>
        rw [hrol, if_pos rfl, Bool.and_eq_true, decide_eq_true_eq] at hf
        exact ⟨fun _ => ⟨q, hrol⟩, fun _ => hf.1⟩
      | false =>
        rw [hrol, if_neg (by decide), decide_eq_true_eq] at hf
        exact ⟨fun z => absurd hf z, fun z => by rw [hrol] at z; cases z.2⟩
    · have := hf_out hw (k := 4 * w + r) (by omega) (by omega)
      exact ⟨fun z => absurd this z, fun z => absurd z.1 q⟩
theorem hvs_at {p : Nat} {z : Nat × Option Nat} (h : (plA β)[p]? = some z) : (hvs β).getD p 0 = gvM (hU β) (hF β) z := by
  unfold hvs
  rw [List.getD_eq_getElem?_getD, List.getElem?_map, h]; rfl
theorem hvs_len : (hvs β).length = (plA β).length := List.length_map _
theorem ok_F1 (hw : WF β) (h : gvD β = true) (h0 : ¬ β 35 14 = 0) : VG β (plA β) (hvs β) := by
  have h4 := hw.1.2.2.2.2.2.2.2.2
  obtain ⟨h1, h2⟩ := gvD_iff.mp h
  have hF1 := F1_of hw h h0
  have hun : ∀ w, w < nW β → ¬ β 46 w = -6 := fun w q => (hF1.2 w (by omega)).1.mpr q
  have hfn : ∀ w r, w < nW β → r < 4 → rol β w r = true → ¬ β 47 (4 * w + r) = -6 := fun w r q hr hrol => ((hF1.2 w (by omega)).2 r hr).mpr ⟨q, hrol⟩
  have hop : ∀ w r, w < nW β → r < 4 → rol β w r = true → opB β w (hU β w) r (hF β w r) = true := fun w r q hr hrol => by
    have hf := h2 w q r hr
    unfold fitC at hf
    rw [hrol, if_pos rfl, Bool.and_eq_true] at hf
    exact hf.2
  refine ok_VG ⟨fun w q _ => ⟨(hu_nat hw (by omega) (hun w q)).1, ?_⟩, fun w r q _ hr hrol => ⟨(hf_nat hw (by omega) (hfn w r q hr hrol)).1, ?_⟩, fun w w' q _ q' _ e => hu_inj hw (by omega) (by omega) (hun w q) (hun w' q') e, fun w r w' r' q _ hr hrol q' _ hr' hrol' e => ?_⟩
  · obtain ⟨r, hr, hrol⟩ := role_ex hw q
    have := hop w r q hr hrol
    unfold opB at this
    simp only [Bool.and_eq_true] at this
    exact this.1.1.2
  · have := hop w r q hr hrol
    unfold opB at this
    simp only [Bool.and_eq_true] at this
    exact this.2
  · have := hf_inj hw (j := 4 * w + r) (k := 4 * w' + r') (by omega) (by omega) (hfn w r q hr hrol) (hfn w' r' q' hr' hrol') e
    omega
theorem F1_lim (hw : WF β) (hF1 : F1 β 4) {p : Nat} (hp : p < (plA β).length) : (hvs β).getD p 0 < lim β (plA β) p := by
  have h4 := hw.1.2.2.2.2.2.2.2.2
  obtain ⟨⟨w, o⟩, ho⟩ : ∃ z, (plA β)[p]? = some z := ⟨_, List.getElem?_eq_getElem hp⟩
  rw [hvs_at ho]
  obtain ⟨q, -, hi⟩ := pl_inv ho
  rcases hi with ⟨rfl, -⟩ | ⟨r, rfl, hr, hrol, -⟩
  · rw [lim_u ho]; exact (hu_nat hw (by omega) ((hF1.2 w (by omega)).1.mpr q)).1
  · rw [lim_f ho]; exact (hf_nat hw (by omega) (((hF1.2 w (by omega)).2 r hr).mpr ⟨q, hrol⟩)).1
theorem F1_ok (hw : WF β) (hF1 : F1 β 4) (h : ∀ q, q < (plA β).length → fit β (plA β) ((hvs β).take q) ((hvs β).getD q 0) = true) : gvD β = true := by
  have h4 := hw.1.2.2.2.2.2.2.2.2
  have hle := hN_le β
  have hV : VG β (pls β allS) (hvs β) := ⟨hvs_len, fun p hp => ⟨F1_lim hw hF1 hp, h p hp⟩⟩
  have hok := VG_ok hV
  refine gvD_iff.mpr ⟨?_, fun w q r hr => ?_⟩
  · have key : ∀ w, w < 4 → (w < hN β ↔ w < nW β) := fun w q => (hN_h hw w q).trans (hF1.2 w q).1
    rcases Nat.lt_trichotomy (hN β) (nW β) with z | z | z
    · have := (key (hN β) (by omega)).mpr z; omega
    · exact z
    · have := (key (nW β) (by omega)).mp z; omega
  · have hf := (hF1.2 w (by omega)).2 r hr
    unfold fitC
    cases hrol : rol β w r with
    | false =>
      rw [if_neg (by decide), decide_eq_true_eq]
      apply Decidable.byContradiction
      intro z
      have := (hf.mp z).2
      rw [hrol] at this; cases this
    | true =>
      have hne := hf.mpr ⟨q, hrol⟩
      rw [if_pos rfl, decide_eq_true hne, Bool.true_and]
      have a1 := hok.1 w q rfl
      have a2 := hok.2.1 w r q rfl hr hrol
      have e1 : (hvs β).getD (lnU β allS w) 0 = hU β w := hvs_at (z := (w, none)) (pl_unit q rfl)
      have e2 : (hvs β).getD (lnR β allS w r) 0 = hF β w r := hvs_at (z := (w, some r)) (pl_role q rfl hr hrol)
      simp only [e1, e2] at a1 a2
      rw [op_of a1.1 a1.2 a2.1]
      exact a2.2
end SDP
section MSD
variable {β : ai_M} {d L : Nat} {σ : ai_M}
theorem ms_in (hw : WF β) (h : RM σ β) {w : Nat} (hw4 : w < 4) {Q : Option Value → ai_L → ai_M → Prop} (K : ∀ x, fl x (F1 β (w + 1)) → ev mX5_stands (d + 3) 114 [some (.ref 35), some (.int x), some (.int (nI w)), some (.int (nI 4))] [] (LY L) σ 0 0 Q) :
    ∀ n r, r + n = 4 → ∀ x, fl x (F1 β w ∧ hu1 β w ∧ ∀ r', r' < r → hf1 β w r') → ev mX5_stands (d + 3) 48 [some (.ref 35), some (.int x), some (.int (nI w)), some (.int (nI r))] [] (LY L) σ 0 0 Q := by
  have hww := hw.1.w
  have hwb := hw.1.2.2.2.2.2.2.2.2
  have mHf := h.2.2.2.2.2.2.2.2.2.2.2
  have iw : inR (nI w) (β 35 8).toInt ↔ w < nW β := by rw [inR, nI_toInt (by omega), hww]; omega
  intro n
  induction n with
  | zero =>
    intro r hr x hx
    obtain rfl : r = 4 := by omega
    refine ev_iload_n dX5_stands_48 rfl ?_
    refine ev_iconst 4 dX5_stands_49 (by decide) ?_
    refine ev_icmp_ge 114 dX5_stands_50 (by decide) (fun c50 => ?_) (fun c50 => absurd (nI_le (a := 4) (b := 4) (by omega) (by decide)) c50)
    refine K x ?_
    have iff : F1 β (w + 1) ↔ (F1 β w ∧ hu1 β w ∧ ∀ r', r' < 4 → hf1 β w r') := by
      constructor
      · rintro ⟨z1, z2⟩
        exact ⟨⟨z1, fun w' z => z2 w' (by omega)⟩, (z2 w (by omega)).1, (z2 w (by omega)).2⟩
      · rintro ⟨⟨z1, z2⟩, z3, z4⟩
        refine ⟨z1, fun w' z => ?_⟩
        by_cases q : w' = w
        · subst q; exact ⟨z3, z4⟩
        · exact z2 w' (by omega)
    rcases hx with ⟨a, b⟩ | ⟨a, b⟩
    · exact Or.inl ⟨a, iff.mpr b⟩
    · exact Or.inr ⟨a, fun z => b (iff.mp z)⟩
  | succ n ih =>
    intro r hr x hx
    have e4 : 4 * nI w + nI r = nI (4 * w + r) := by rw [show (4 : Int32) = nI 4 from rfl, pk_mul, nI_add]
    have fin : ∀ (x x' : Int32), fl x' (F1 β w ∧ hu1 β w ∧ ∀ r', r' < r + 1 → hf1 β w r') → ev mX5_stands (d + 3) 107 [some (.ref 35), some (.int x), some (.int (nI w)), some (.int (nI r))] [.int x'] (LY L) σ 0 0 Q := by
      intro x x' hx'
      refine ev_istore_n dX5_stands_107 (by decide) ?_
      refine ev_iinc _ dX5_stands_108 rfl rfl (by decide) ?_
      rw [show nI r + Int32.ofInt 1 = nI (r + 1) from nI_1 r]
      refine ev_goto 48 dX5_stands_111 (by decide) ?_
      exact ih (r + 1) (by omega) x' hx'
    have iff : (F1 β w ∧ hu1 β w ∧ ∀ r', r' < r + 1 → hf1 β w r') ↔ (F1 β w ∧ hu1 β w ∧ ∀ r', r' < r → hf1 β w r') ∧ hf1 β w r := by
      constructor
      · rintro ⟨z1, z2, z3⟩
        exact ⟨⟨z1, z2, fun r' z => z3 r' (by omega)⟩, z3 r (by omega)⟩
      · rintro ⟨⟨z1, z2, z3⟩, z4⟩
        refine ⟨z1, z2, fun r' z => ?_⟩
        by_cases q : r' = r
        · subst q; exact z4
        · exact z3 r' (by omega)
    rcases hx with ⟨rfl, hx⟩ | ⟨rfl, hx⟩
    · have ys : hf1 β w r → fl 1 (F1 β w ∧ hu1 β w ∧ ∀ r', r' < r + 1 → hf1 β w r') := fun z => Or.inl ⟨rfl, iff.mpr ⟨hx, z⟩⟩
      have ns : ¬ hf1 β w r → fl 0 (F1 β w ∧ hu1 β w ∧ ∀ r', r' < r + 1 → hf1 β w r') := fun z => Or.inr ⟨rfl, fun y => z (iff.mp y).2⟩
      have ir : (inR (nI r) 4 ∧ (β 42 w).toNatClampNeg.testBit (nI r).toNatClampNeg = true) ↔ rol β w r = true := by
        rw [inR, nI_toInt (by omega), clN (by omega)]
        exact ⟨fun z => z.2, fun z => ⟨⟨by omega, by omega⟩, z⟩⟩
      have y1 : ¬ β 47 (4 * w + r) = -6 → w < nW β → rol β w r = true → hf1 β w r := fun a b c => ⟨fun _ => ⟨b, c⟩, fun _ => a⟩
      have y2 : β 47 (4 * w + r) = -6 → ¬ (w < nW β ∧ rol β w r = true) → hf1 β w r := fun a b => ⟨fun z => absurd a z, fun z => absurd z b⟩
      have n1 : ¬ β 47 (4 * w + r) = -6 → ¬ (w < nW β ∧ rol β w r = true) → ¬ hf1 β w r := fun a b z => b (z.mp a)
      have n2 : β 47 (4 * w + r) = -6 → w < nW β → rol β w r = true → ¬ hf1 β w r := fun a b c z => (z.mpr ⟨b, c⟩) a
      refine ev_iload_n dX5_stands_48 rfl ?_
      refine ev_iconst 4 dX5_stands_49 (by decide) ?_
      refine ev_icmp_ge 114 dX5_stands_50 (by decide) (fun c50 => absurd c50 (nI_ge (b := 4) (by omega) (by decide))) (fun c50 => ?_)
      refine ev_iload_n dX5_stands_53 rfl ?_
      refine ev_if_eq 106 dX5_stands_54 (by decide) (fun c54 => absurd c54 (by decide)) (fun c54 => ?_)
      refine ev_aload_n dX5_stands_57 rfl ?_
      refine ev_getR dX5_stands_58 fX5_47 ⟨_, rfl, rfl⟩ ?_
      refine ev_iconst 4 dX5_stands_61 (by decide) ?_
      refine ev_iload_n dX5_stands_62 rfl ?_
      refine ev_imul dX5_stands_63 ?_
      refine ev_iload_n dX5_stands_64 rfl ?_
      refine ev_iadd dX5_stands_65 ?_
      rw [e4]
      refine ev_iaload dX5_stands_66 rfl (vp_in_nI (by omega) (by decide)) ?_
      rw [clN (by omega), mHf _ (by omega)]
      refine ev_bipush (-6) dX5_stands_67 (by decide) ?_
      refine ev_icmp_eq 76 dX5_stands_69 (by decide) (fun c69 => ?_) (fun c69 => ?_)
      · refine ev_iconst 0 dX5_stands_76 (by decide) ?_
        refine ev_aload_n dX5_stands_77 rfl ?_
        refine ev_iload_n dX5_stands_78 rfl ?_
        refine cVp1 dX5_stands_79 VX5_95 ⟨_, rfl⟩ rfl rfl (t_isWishB (d := d + 1) hw h _) ?_
        refine ev_if_eq 98 dX5_stands_82 (by decide) (fun c82 => ?_) (fun c82 => ?_)
        · refine ev_iconst 0 dX5_stands_98 (by decide) ?_
          refine ev_icmp_ne 106 dX5_stands_99 (by decide) (fun c99 => ?_) (fun c99 => ?_)
          · refine ev_iconst 0 dX5_stands_106 (by decide) ?_
            first | exact absurd rfl c99 | exact absurd c99 (by decide) | exact fin _ _ (ys (y1 c69 (iw.mp (bI_n.mp c82)) (ir.mp (bI_n.mp c91)))) | exact fin _ _ (ns (n2 c69 (iw.mp (bI_n.mp c82)) (ir.mp (bI_n.mp c91)))) | exact fin _ _ (ys (y2 c69 (fun z => bI_0.mp c82 (iw.mpr z.1)))) | exact fin _ _ (ys (y2 c69 (fun z => bI_0.mp c91 (ir.mpr z.2)))) | exact fin _ _ (ns (n1 c69 (fun z => bI_0.mp c82 (iw.mpr z.1)))) | exact fin _ _ (ns (n1 c69 (fun z => bI_0.mp c91 (ir.mpr z.2))))
          · refine ev_iconst 1 dX5_stands_102 (by decide) ?_
            refine ev_goto 107 dX5_stands_103 (by decide) ?_
            first | exact absurd rfl c99 | exact absurd c99 (by decide) | exact fin _ _ (ys (y1 c69 (iw.mp (bI_n.mp c82)) (ir.mp (bI_n.mp c91)))) | exact fin _ _ (ns (n2 c69 (iw.mp (bI_n.mp c82)) (ir.mp (bI_n.mp c91)))) | exact fin _ _ (ys (y2 c69 (fun z => bI_0.mp c82 (iw.mpr z.1)))) | exact fin _ _ (ys (y2 c69 (fun z => bI_0.mp c91 (ir.mpr z.2)))) | exact fin _ _ (ns (n1 c69 (fun z => bI_0.mp c82 (iw.mpr z.1)))) | exact fin _ _ (ns (n1 c69 (fun z => bI_0.mp c91 (ir.mpr z.2))))
        · refine ev_aload_n dX5_stands_85 rfl ?_
          refine ev_iload_n dX5_stands_86 rfl ?_
          refine ev_iload_n dX5_stands_87 rfl ?_
          refine cVp2 dX5_stands_88 VX5_98 ⟨_, rfl⟩ rfl rfl rfl (t_hasRoleB (d := d + 1) hw h (iw.mp (bI_n.mp c82)) _) ?_
          refine ev_if_eq 98 dX5_stands_91 (by decide) (fun c91 => ?_) (fun c91 => ?_)
          · refine ev_iconst 0 dX5_stands_98 (by decide) ?_
            refine ev_icmp_ne 106 dX5_stands_99 (by decide) (fun c99 => ?_) (fun c99 => ?_)
            · refine ev_iconst 0 dX5_stands_106 (by decide) ?_
              first | exact absurd rfl c99 | exact absurd c99 (by decide) | exact fin _ _ (ys (y1 c69 (iw.mp (bI_n.mp c82)) (ir.mp (bI_n.mp c91)))) | exact fin _ _ (ns (n2 c69 (iw.mp (bI_n.mp c82)) (ir.mp (bI_n.mp c91)))) | exact fin _ _ (ys (y2 c69 (fun z => bI_0.mp c82 (iw.mpr z.1)))) | exact fin _ _ (ys (y2 c69 (fun z => bI_0.mp c91 (ir.mpr z.2)))) | exact fin _ _ (ns (n1 c69 (fun z => bI_0.mp c82 (iw.mpr z.1)))) | exact fin _ _ (ns (n1 c69 (fun z => bI_0.mp c91 (ir.mpr z.2))))
            · refine ev_iconst 1 dX5_stands_102 (by decide) ?_
              refine ev_goto 107 dX5_stands_103 (by decide) ?_
              first | exact absurd rfl c99 | exact absurd c99 (by decide) | exact fin _ _ (ys (y1 c69 (iw.mp (bI_n.mp c82)) (ir.mp (bI_n.mp c91)))) | exact fin _ _ (ns (n2 c69 (iw.mp (bI_n.mp c82)) (ir.mp (bI_n.mp c91)))) | exact fin _ _ (ys (y2 c69 (fun z => bI_0.mp c82 (iw.mpr z.1)))) | exact fin _ _ (ys (y2 c69 (fun z => bI_0.mp c91 (ir.mpr z.2)))) | exact fin _ _ (ns (n1 c69 (fun z => bI_0.mp c82 (iw.mpr z.1)))) | exact fin _ _ (ns (n1 c69 (fun z => bI_0.mp c91 (ir.mpr z.2))))
          · refine ev_iconst 1 dX5_stands_94 (by decide) ?_
            refine ev_goto 99 dX5_stands_95 (by decide) ?_
            refine ev_icmp_ne 106 dX5_stands_99 (by decide) (fun c99 => ?_) (fun c99 => ?_)
            · refine ev_iconst 0 dX5_stands_106 (by decide) ?_
              first | exact absurd rfl c99 | exact absurd c99 (by decide) | exact fin _ _ (ys (y1 c69 (iw.mp (bI_n.mp c82)) (ir.mp (bI_n.mp c91)))) | exact fin _ _ (ns (n2 c69 (iw.mp (bI_n.mp c82)) (ir.mp (bI_n.mp c91)))) | exact fin _ _ (ys (y2 c69 (fun z => bI_0.mp c82 (iw.mpr z.1)))) | exact fin _ _ (ys (y2 c69 (fun z => bI_0.mp c91 (ir.mpr z.2)))) | exact fin _ _ (ns (n1 c69 (fun z => bI_0.mp c82 (iw.mpr z.1)))) | exact fin _ _ (ns (n1 c69 (fun z => bI_0.mp c91 (ir.mpr z.2))))
            · refine ev_iconst 1 dX5_stands_102 (by decide) ?_
              refine ev_goto 107 dX5_stands_103 (by decide) ?_
              first | exact absurd rfl c99 | exact absurd c99 (by decide) | exact fin _ _ (ys (y1 c69 (iw.mp (bI_n.mp c82)) (ir.mp (bI_n.mp c91)))) | exact fin _ _ (ns (n2 c69 (iw.mp (bI_n.mp c82)) (ir.mp (bI_n.mp c91)))) | exact fin _ _ (ys (y2 c69 (fun z => bI_0.mp c82 (iw.mpr z.1)))) | exact fin _ _ (ys (y2 c69 (fun z => bI_0.mp c91 (ir.mpr z.2)))) | exact fin _ _ (ns (n1 c69 (fun z => bI_0.mp c82 (iw.mpr z.1)))) | exact fin _ _ (ns (n1 c69 (fun z => bI_0.mp c91 (ir.mpr z.2))))
      · refine ev_iconst 1 dX5_stands_72 (by decide) ?_
        refine ev_goto 77 dX5_stands_73 (by decide) ?_
        refine ev_aload_n dX5_stands_77 rfl ?_
        refine ev_iload_n dX5_stands_78 rfl ?_
        refine cVp1 dX5_stands_79 VX5_95 ⟨_, rfl⟩ rfl rfl (t_isWishB (d := d + 1) hw h _) ?_
        refine ev_if_eq 98 dX5_stands_82 (by decide) (fun c82 => ?_) (fun c82 => ?_)
        · refine ev_iconst 0 dX5_stands_98 (by decide) ?_
          refine ev_icmp_ne 106 dX5_stands_99 (by decide) (fun c99 => ?_) (fun c99 => ?_)
          · refine ev_iconst 0 dX5_stands_106 (by decide) ?_
            first | exact absurd rfl c99 | exact absurd c99 (by decide) | exact fin _ _ (ys (y1 c69 (iw.mp (bI_n.mp c82)) (ir.mp (bI_n.mp c91)))) | exact fin _ _ (ns (n2 c69 (iw.mp (bI_n.mp c82)) (ir.mp (bI_n.mp c91)))) | exact fin _ _ (ys (y2 c69 (fun z => bI_0.mp c82 (iw.mpr z.1)))) | exact fin _ _ (ys (y2 c69 (fun z => bI_0.mp c91 (ir.mpr z.2)))) | exact fin _ _ (ns (n1 c69 (fun z => bI_0.mp c82 (iw.mpr z.1)))) | exact fin _ _ (ns (n1 c69 (fun z => bI_0.mp c91 (ir.mpr z.2))))
          · refine ev_iconst 1 dX5_stands_102 (by decide) ?_
            refine ev_goto 107 dX5_stands_103 (by decide) ?_
            first | exact absurd rfl c99 | exact absurd c99 (by decide) | exact fin _ _ (ys (y1 c69 (iw.mp (bI_n.mp c82)) (ir.mp (bI_n.mp c91)))) | exact fin _ _ (ns (n2 c69 (iw.mp (bI_n.mp c82)) (ir.mp (bI_n.mp c91)))) | exact fin _ _ (ys (y2 c69 (fun z => bI_0.mp c82 (iw.mpr z.1)))) | exact fin _ _ (ys (y2 c69 (fun z => bI_0.mp c91 (ir.mpr z.2)))) | exact fin _ _ (ns (n1 c69 (fun z => bI_0.mp c82 (iw.mpr z.1)))) | exact fin _ _ (ns (n1 c69 (fun z => bI_0.mp c91 (ir.mpr z.2))))
        · refine ev_aload_n dX5_stands_85 rfl ?_
          refine ev_iload_n dX5_stands_86 rfl ?_
          refine ev_iload_n dX5_stands_87 rfl ?_
          refine cVp2 dX5_stands_88 VX5_98 ⟨_, rfl⟩ rfl rfl rfl (t_hasRoleB (d := d + 1) hw h (iw.mp (bI_n.mp c82)) _) ?_
          refine ev_if_eq 98 dX5_stands_91 (by decide) (fun c91 => ?_) (fun c91 => ?_)
          · refine ev_iconst 0 dX5_stands_98 (by decide) ?_
            refine ev_icmp_ne 106 dX5_stands_99 (by decide) (fun c99 => ?_) (fun c99 => ?_)
            · refine ev_iconst 0 dX5_stands_106 (by decide) ?_
              first | exact absurd rfl c99 | exact absurd c99 (by decide) | exact fin _ _ (ys (y1 c69 (iw.mp (bI_n.mp c82)) (ir.mp (bI_n.mp c91)))) | exact fin _ _ (ns (n2 c69 (iw.mp (bI_n.mp c82)) (ir.mp (bI_n.mp c91)))) | exact fin _ _ (ys (y2 c69 (fun z => bI_0.mp c82 (iw.mpr z.1)))) | exact fin _ _ (ys (y2 c69 (fun z => bI_0.mp c91 (ir.mpr z.2)))) | exact fin _ _ (ns (n1 c69 (fun z => bI_0.mp c82 (iw.mpr z.1)))) | exact fin _ _ (ns (n1 c69 (fun z => bI_0.mp c91 (ir.mpr z.2))))
            · refine ev_iconst 1 dX5_stands_102 (by decide) ?_
              refine ev_goto 107 dX5_stands_103 (by decide) ?_
              first | exact absurd rfl c99 | exact absurd c99 (by decide) | exact fin _ _ (ys (y1 c69 (iw.mp (bI_n.mp c82)) (ir.mp (bI_n.mp c91)))) | exact fin _ _ (ns (n2 c69 (iw.mp (bI_n.mp c82)) (ir.mp (bI_n.mp c91)))) | exact fin _ _ (ys (y2 c69 (fun z => bI_0.mp c82 (iw.mpr z.1)))) | exact fin _ _ (ys (y2 c69 (fun z => bI_0.mp c91 (ir.mpr z.2)))) | exact fin _ _ (ns (n1 c69 (fun z => bI_0.mp c82 (iw.mpr z.1)))) | exact fin _ _ (ns (n1 c69 (fun z => bI_0.mp c91 (ir.mpr z.2))))
          · refine ev_iconst 1 dX5_stands_94 (by decide) ?_
            refine ev_goto 99 dX5_stands_95 (by decide) ?_
            refine ev_icmp_ne 106 dX5_stands_99 (by decide) (fun c99 => ?_) (fun c99 => ?_)
            · refine ev_iconst 0 dX5_stands_106 (by decide) ?_
              first | exact absurd rfl c99 | exact absurd c99 (by decide) | exact fin _ _ (ys (y1 c69 (iw.mp (bI_n.mp c82)) (ir.mp (bI_n.mp c91)))) | exact fin _ _ (ns (n2 c69 (iw.mp (bI_n.mp c82)) (ir.mp (bI_n.mp c91)))) | exact fin _ _ (ys (y2 c69 (fun z => bI_0.mp c82 (iw.mpr z.1)))) | exact fin _ _ (ys (y2 c69 (fun z => bI_0.mp c91 (ir.mpr z.2)))) | exact fin _ _ (ns (n1 c69 (fun z => bI_0.mp c82 (iw.mpr z.1)))) | exact fin _ _ (ns (n1 c69 (fun z => bI_0.mp c91 (ir.mpr z.2))))
            · refine ev_iconst 1 dX5_stands_102 (by decide) ?_
              refine ev_goto 107 dX5_stands_103 (by decide) ?_
              first | exact absurd rfl c99 | exact absurd c99 (by decide) | exact fin _ _ (ys (y1 c69 (iw.mp (bI_n.mp c82)) (ir.mp (bI_n.mp c91)))) | exact fin _ _ (ns (n2 c69 (iw.mp (bI_n.mp c82)) (ir.mp (bI_n.mp c91)))) | exact fin _ _ (ys (y2 c69 (fun z => bI_0.mp c82 (iw.mpr z.1)))) | exact fin _ _ (ys (y2 c69 (fun z => bI_0.mp c91 (ir.mpr z.2)))) | exact fin _ _ (ns (n1 c69 (fun z => bI_0.mp c82 (iw.mpr z.1)))) | exact fin _ _ (ns (n1 c69 (fun z => bI_0.mp c91 (ir.mpr z.2))))
    · refine ev_iload_n dX5_stands_48 rfl ?_
      refine ev_iconst 4 dX5_stands_49 (by decide) ?_
      refine ev_icmp_ge 114 dX5_stands_50 (by decide) (fun c50 => absurd c50 (nI_ge (b := 4) (by omega) (by decide))) (fun c50 => ?_)
      refine ev_iload_n dX5_stands_53 rfl ?_
      refine ev_if_eq 106 dX5_stands_54 (by decide) (fun c54 => ?_) (fun c54 => absurd rfl c54)
      refine ev_iconst 0 dX5_stands_106 (by decide) ?_
      exact fin _ _ (Or.inr ⟨rfl, fun z => hx (iff.mp z).1⟩)
theorem ms_out (hw : WF β) (h : RM σ β) {Q : Option Value → ai_L → ai_M → Prop} (K : ∀ x l3, fl x (F1 β 4) → ev mX5_stands (d + 3) 120 [some (.ref 35), some (.int x), some (.int (nI 4)), l3] [] (LY L) σ 0 0 Q) :
    ∀ n w, w + n = 4 → ∀ x l3, fl x (F1 β w) → ev mX5_stands (d + 3) 7 [some (.ref 35), some (.int x), some (.int (nI w)), l3] [] (LY L) σ 0 0 Q := by
  have hww := hw.1.w
  have mHu := h.2.2.2.2.2.2.2.2.2.2.1
  intro n
  induction n with
  | zero =>
    intro w hn x l3 hx
    obtain rfl : w = 4 := by omega
    refine ev_iload_n dX5_stands_7 rfl ?_
    refine ev_iconst 4 dX5_stands_8 (by decide) ?_
    refine ev_icmp_ge 120 dX5_stands_9 (by decide) (fun c9 => ?_) (fun c9 => absurd (nI_le (a := 4) (b := 4) (by omega) (by decide)) c9)
    exact K x _ hx
  | succ n ih =>
    intro w hn x l3 hx
    have iw : inR (nI w) (β 35 8).toInt ↔ w < nW β := by rw [inR, nI_toInt (by omega), hww]; omega
    have fin : ∀ (x x' : Int32) (l3 : Option Value), fl x' (F1 β w ∧ hu1 β w) → ev mX5_stands (d + 3) 45 [some (.ref 35), some (.int x), some (.int (nI w)), l3] [.int x'] (LY L) σ 0 0 Q := by
      intro x x' l3 hx'
      refine ev_istore_n dX5_stands_45 (by decide) ?_
      refine ev_iconst 0 dX5_stands_46 (by decide) ?_
      refine ev_istore_n dX5_stands_47 (by decide) ?_
      refine ms_in hw h (by omega) (fun x2 hx2 => ?_) 4 0 rfl x' ?_
      · refine ev_iinc _ dX5_stands_114 rfl rfl (by decide) ?_
        rw [show nI w + Int32.ofInt 1 = nI (w + 1) from nI_1 w]
        refine ev_goto 7 dX5_stands_117 (by decide) ?_
        exact ih (w + 1) (by omega) x2 _ hx2
      · rcases hx' with ⟨a, b⟩ | ⟨a, b⟩
        · exact Or.inl ⟨a, b.1, b.2, fun r' z => by omega⟩
        · exact Or.inr ⟨a, fun z => b ⟨z.1, z.2.1⟩⟩
    rcases hx with ⟨rfl, hx⟩ | ⟨rfl, hx⟩
    · have ys : hu1 β w → fl 1 (F1 β w ∧ hu1 β w) := fun z => Or.inl ⟨rfl, hx, z⟩
      have ns : ¬ hu1 β w → fl 0 (F1 β w ∧ hu1 β w) := fun z => Or.inr ⟨rfl, fun y => z y.2⟩
      have y1 : ¬ β 46 w = -6 → w < nW β → hu1 β w := fun a b => ⟨fun _ => b, fun _ => a⟩
      have y2 : β 46 w = -6 → ¬ w < nW β → hu1 β w := fun a b => ⟨fun z => absurd a z, fun z => absurd z b⟩
      have n1 : ¬ β 46 w = -6 → ¬ w < nW β → ¬ hu1 β w := fun a b z => b (z.mp a)
      have n2 : β 46 w = -6 → w < nW β → ¬ hu1 β w := fun a b z => (z.mpr b) a
      have w1 : w < nW β → (1 : Int32) = bI (inR (nI w) (β 35 8).toInt) := fun z => bI_t (iw.mpr z)
      have w0 : ¬ w < nW β → (0 : Int32) = bI (inR (nI w) (β 35 8).toInt) := fun z => bI_f (fun y => z (iw.mp y))
      by_cases q : w < nW β
      · refine ev_iload_n dX5_stands_7 rfl ?_
        refine ev_iconst 4 dX5_stands_8 (by decide) ?_
        refine ev_icmp_ge 120 dX5_stands_9 (by decide) (fun c9 => absurd c9 (nI_ge (b := 4) (by omega) (by decide))) (fun c9 => ?_)
        refine ev_iload_n dX5_stands_12 rfl ?_
        refine ev_if_eq 44 dX5_stands_13 (by decide) (fun c13 => absurd c13 (by decide)) (fun c13 => ?_)
        refine ev_aload_n dX5_stands_16 rfl ?_
        refine ev_getR dX5_stands_17 fX5_44 ⟨_, rfl, rfl⟩ ?_
        refine ev_iload_n dX5_stands_20 rfl ?_
        refine ev_iaload dX5_stands_21 rfl (vp_in_nI (by omega) (by decide)) ?_
        rw [clN (by omega), mHu _ (by omega)]
        refine ev_bipush (-6) dX5_stands_22 (by decide) ?_
        refine ev_icmp_eq 31 dX5_stands_24 (by decide) (fun c24 => ?_) (fun c24 => ?_)
        · refine ev_iconst 0 dX5_stands_31 (by decide) ?_
          refine ev_aload_n dX5_stands_32 rfl ?_
          refine ev_iload_n dX5_stands_33 rfl ?_
          refine cVp1 dX5_stands_34 VX5_95 ⟨_, rfl⟩ rfl rfl (t_isWishB (d := d + 1) hw h _) ?_
          rw [← w1 q]
          refine ev_icmp_ne 44 dX5_stands_37 (by decide) (fun c37 => ?_) (fun c37 => ?_)
          · refine ev_iconst 0 dX5_stands_44 (by decide) ?_
            first | exact absurd rfl c37 | exact absurd c37 (by decide) | exact fin _ _ _ (ys (y1 c24 q)) | exact fin _ _ _ (ns (n2 c24 q))
          · refine ev_iconst 1 dX5_stands_40 (by decide) ?_
            refine ev_goto 45 dX5_stands_41 (by decide) ?_
            first | exact absurd rfl c37 | exact absurd c37 (by decide) | exact fin _ _ _ (ys (y1 c24 q)) | exact fin _ _ _ (ns (n2 c24 q))
        · refine ev_iconst 1 dX5_stands_27 (by decide) ?_
          refine ev_goto 32 dX5_stands_28 (by decide) ?_
          refine ev_aload_n dX5_stands_32 rfl ?_
          refine ev_iload_n dX5_stands_33 rfl ?_
          refine cVp1 dX5_stands_34 VX5_95 ⟨_, rfl⟩ rfl rfl (t_isWishB (d := d + 1) hw h _) ?_
          rw [← w1 q]
          refine ev_icmp_ne 44 dX5_stands_37 (by decide) (fun c37 => ?_) (fun c37 => ?_)
          · refine ev_iconst 0 dX5_stands_44 (by decide) ?_
            first | exact absurd rfl c37 | exact absurd c37 (by decide) | exact fin _ _ _ (ys (y1 c24 q)) | exact fin _ _ _ (ns (n2 c24 q))
          · refine ev_iconst 1 dX5_stands_40 (by decide) ?_
            refine ev_goto 45 dX5_stands_41 (by decide) ?_
            first | exact absurd rfl c37 | exact absurd c37 (by decide) | exact fin _ _ _ (ys (y1 c24 q)) | exact fin _ _ _ (ns (n2 c24 q))
      · refine ev_iload_n dX5_stands_7 rfl ?_
        refine ev_iconst 4 dX5_stands_8 (by decide) ?_
        refine ev_icmp_ge 120 dX5_stands_9 (by decide) (fun c9 => absurd c9 (nI_ge (b := 4) (by omega) (by decide))) (fun c9 => ?_)
        refine ev_iload_n dX5_stands_12 rfl ?_
        refine ev_if_eq 44 dX5_stands_13 (by decide) (fun c13 => absurd c13 (by decide)) (fun c13 => ?_)
        refine ev_aload_n dX5_stands_16 rfl ?_
        refine ev_getR dX5_stands_17 fX5_44 ⟨_, rfl, rfl⟩ ?_
        refine ev_iload_n dX5_stands_20 rfl ?_
        refine ev_iaload dX5_stands_21 rfl (vp_in_nI (by omega) (by decide)) ?_
        rw [clN (by omega), mHu _ (by omega)]
        refine ev_bipush (-6) dX5_stands_22 (by decide) ?_
        refine ev_icmp_eq 31 dX5_stands_24 (by decide) (fun c24 => ?_) (fun c24 => ?_)
        · refine ev_iconst 0 dX5_stands_31 (by decide) ?_
          refine ev_aload_n dX5_stands_32 rfl ?_
          refine ev_iload_n dX5_stands_33 rfl ?_
          refine cVp1 dX5_stands_34 VX5_95 ⟨_, rfl⟩ rfl rfl (t_isWishB (d := d + 1) hw h _) ?_
          rw [← w0 q]
          refine ev_icmp_ne 44 dX5_stands_37 (by decide) (fun c37 => ?_) (fun c37 => ?_)
          · refine ev_iconst 0 dX5_stands_44 (by decide) ?_
            first | exact absurd rfl c37 | exact absurd c37 (by decide) | exact fin _ _ _ (ys (y2 c24 q)) | exact fin _ _ _ (ns (n1 c24 q))
          · refine ev_iconst 1 dX5_stands_40 (by decide) ?_
            refine ev_goto 45 dX5_stands_41 (by decide) ?_
            first | exact absurd rfl c37 | exact absurd c37 (by decide) | exact fin _ _ _ (ys (y2 c24 q)) | exact fin _ _ _ (ns (n1 c24 q))
        · refine ev_iconst 1 dX5_stands_27 (by decide) ?_
          refine ev_goto 32 dX5_stands_28 (by decide) ?_
          refine ev_aload_n dX5_stands_32 rfl ?_
          refine ev_iload_n dX5_stands_33 rfl ?_
          refine cVp1 dX5_stands_34 VX5_95 ⟨_, rfl⟩ rfl rfl (t_isWishB (d := d + 1) hw h _) ?_
          rw [← w0 q]
          refine ev_icmp_ne 44 dX5_stands_37 (by decide) (fun c37 => ?_) (fun c37 => ?_)
          · refine ev_iconst 0 dX5_stands_44 (by decide) ?_
            first | exact absurd rfl c37 | exact absurd c37 (by decide) | exact fin _ _ _ (ys (y2 c24 q)) | exact fin _ _ _ (ns (n1 c24 q))
          · refine ev_iconst 1 dX5_stands_40 (by decide) ?_
            refine ev_goto 45 dX5_stands_41 (by decide) ?_
            first | exact absurd rfl c37 | exact absurd c37 (by decide) | exact fin _ _ _ (ys (y2 c24 q)) | exact fin _ _ _ (ns (n1 c24 q))
    · refine ev_iload_n dX5_stands_7 rfl ?_
      refine ev_iconst 4 dX5_stands_8 (by decide) ?_
      refine ev_icmp_ge 120 dX5_stands_9 (by decide) (fun c9 => absurd c9 (nI_ge (b := 4) (by omega) (by decide))) (fun c9 => ?_)
      refine ev_iload_n dX5_stands_12 rfl ?_
      refine ev_if_eq 44 dX5_stands_13 (by decide) (fun c13 => ?_) (fun c13 => absurd rfl c13)
      refine ev_iconst 0 dX5_stands_44 (by decide) ?_
      exact fin _ _ _ (Or.inr ⟨rfl, fun z => hx z.1⟩)
def pfx (β : ai_M) (n : Nat) : Prop := ∀ q, q < n → fit β (plA β) ((hvs β).take q) ((hvs β).getD q 0) = true
theorem ms_end {σ0 σ1 : ai_M} (hf : SFr σ0 σ1) {x : Int32} {P : Prop} (hx : fl x P) {l2 l3 : Option Value} : ev mX5_stands (d + 3) 214 [some (.ref 35), some (.int x), l2, l3] [] (LY L) σ1 0 0 (Ri (LY L) (fun r σ' => fl r P ∧ SFr σ0 σ')) := by
  rcases hx with ⟨rfl, hx⟩ | ⟨rfl, hx⟩
  · refine ev_iload_n dX5_stands_214 rfl ?_
    refine ev_if_eq 222 dX5_stands_215 (by decide) (fun c215 => absurd c215 (by decide)) (fun c215 => ?_)
    refine ev_iconst 1 dX5_stands_218 (by decide) ?_
    refine ev_goto 223 dX5_stands_219 (by decide) ?_
    refine ev_ireturn dX5_stands_223 rfl rfl rfl ?_
    exact Ri.mk ⟨Or.inl ⟨rfl, hx⟩, hf⟩
  · refine ev_iload_n dX5_stands_214 rfl ?_
    refine ev_if_eq 222 dX5_stands_215 (by decide) (fun c215 => ?_) (fun c215 => absurd rfl c215)
    refine ev_iconst 0 dX5_stands_222 (by decide) ?_
    refine ev_ireturn dX5_stands_223 rfl rfl rfl ?_
    exact Ri.mk ⟨Or.inr ⟨rfl, hx⟩, hf⟩
theorem ms_fit (hw : WF β) {σ0 : ai_M} (hr : RM σ0 β) (hF1 : F1 β 4) : ∀ n p, p + n = (plA β).length → ∀ (σ1 : ai_M) (x : Int32) (l3 : Option Value), SFr σ0 σ1 → MS σ1 (plA β) ((hvs β).take p) → fl x (pfx β p) → ev mX5_stands (d + 3) 137 [some (.ref 35), some (.int x), some (.int (nI p)), l3] [] (LY L) σ1 0 0 (Ri (LY L) (fun r σ' => fl r (pfx β (plA β).length) ∧ SFr σ0 σ')) := by
  have hp := pls_ok hw allS
  have h20 : (plA β).length ≤ 20 := hp.1
  have h4 := hw.1.2.2.2.2.2.2.2.2
  have h6 := hw.1.2.2.2.2.1
  have h16 := hw.1.2.2.1
  intro n
  induction n with
  | zero =>
    intro p hn σ1 x l3 hf hm hx
    obtain rfl : p = (plA β).length := by omega
    refine ev_iload_n dX5_stands_137 rfl ?_
    refine ev_aload_n dX5_stands_138 rfl ?_
    refine ev_getI dX5_stands_139 fX5_102 ⟨_, rfl, rfl⟩ ?_
    rw [hm.1]
    refine ev_icmp_ge 214 dX5_stands_142 (by decide) (fun c142 => ?_) (fun c142 => absurd (nI_le (by omega) (by omega)) c142)
    exact ms_end hf hx
  | succ n ih =>
    intro p hn σ1 x l3 hf hm hx
    rcases hx with ⟨rfl, hx⟩ | ⟨rfl, hx⟩
    · have hlen : ((hvs β).take p).length = p := take_len (by rw [hvs_len]; omega)
      have hVL : VL β (plA β) ((hvs β).take p) := ⟨by rw [hlen]; omega, fun q v hv => by
        have hq : q < p := by have := (List.getElem?_eq_some_iff.mp hv).1; omega
        have := F1_lim hw hF1 (p := q) (by omega)
        have e : (hvs β).getD q 0 = v := by rw [← take_getD hq, List.getD_eq_getElem?_getD, hv]; rfl
        rw [e] at this; exact this⟩
      have hlim := F1_lim hw hF1 (p := p) (by omega)
      have hfit := t_fits (d := d + 1) (L := L) hw (hf.RM hr) hp hm (by rw [hlen]; show p < (plA β).length; omega) hVL (v := (hvs β).getD p 0) (by rw [hlen]; exact hlim)
      rw [hlen] at hfit
      obtain ⟨⟨w, o⟩, ho⟩ : ∃ z, (plA β)[p]? = some z := ⟨_, List.getElem?_eq_getElem (by omega)⟩
      have evv := hvs_at ho
      obtain ⟨q, -, hi⟩ := pl_inv ho
      obtain ⟨e48, e49⟩ := hm.2.1 p w o ho
      have hin : vp_in (nI p) 20 := vp_in_nI (by omega) (by decide)
      have ic : (nI p).toNatClampNeg = p := clN (by omega)
      have hm' := hf.RM hr
      have tail : ∀ v : Nat, v = (hvs β).getD p 0 → ev mX5_stands (d + 3) 193 [some (.ref 35), some (.int 1), some (.int (nI p)), l3] [.int (nI v)] (LY L) σ1 0 0 (Ri (LY L) (fun r σ' => fl r (pfx β (plA β).length) ∧ SFr σ0 σ')) := by
        rintro v rfl
        refine ev_istore_n dX5_stands_193 (by decide) ?_
        refine ev_aload_n dX5_stands_194 rfl ?_
        refine ev_iload_n dX5_stands_195 rfl ?_
        refine ev_iload_n dX5_stands_196 rfl ?_
        refine cVp2 dX5_stands_197 VX5_131 ⟨_, rfl⟩ rfl rfl rfl (hfit) ?_
        refine ev_istore_n dX5_stands_200 (by decide) ?_
        refine ev_aload_n dX5_stands_201 rfl ?_
        refine ev_getR dX5_stands_202 fX5_56 ⟨_, rfl, rfl⟩ ?_
        refine ev_iload_n dX5_stands_205 rfl ?_
        refine ev_iload_n dX5_stands_206 rfl ?_
        refine ev_iastore dX5_stands_207 (by decide) rfl hin ?_
        rw [ic]
        refine ev_iinc _ dX5_stands_208 rfl rfl (by decide) ?_
        rw [show nI p + Int32.ofInt 1 = nI (p + 1) from nI_1 p]
        refine ev_goto 137 dX5_stands_211 (by decide) ?_
        refine ih (p + 1) (by omega) _ _ _ (hf.up (by decide)) ?_ ?_
        · rw [take_snoc (by rw [hvs_len]; omega)]
          refine (hm.v50 (by rw [hlen]; exact Nat.le_refl _)).snoc ?_
          rw [hlen]
          show upd (σ1 50) p _ p = _
          rw [upd, if_pos rfl]
        · by_cases z : fit β (plA β) ((hvs β).take p) ((hvs β).getD p 0) = true
          · refine Or.inl ⟨(bI_t z).symm, fun q' hq' => ?_⟩
            by_cases y : q' = p
            · subst y; exact z
            · exact hx q' (by omega)
          · exact Or.inr ⟨(bI_f z).symm, fun y => z (y p (by omega))⟩
      rcases hi with ⟨rfl, -⟩ | ⟨r, rfl, hr4, hrol, -⟩
      · have hne := (hF1.2 w (by omega)).1.mpr q
        have eu := (hu_nat hw (by omega) hne).2
        have mHu := hm'.2.2.2.2.2.2.2.2.2.2.1
        refine ev_iload_n dX5_stands_137 rfl ?_
        refine ev_aload_n dX5_stands_138 rfl ?_
        refine ev_getI dX5_stands_139 fX5_102 ⟨_, rfl, rfl⟩ ?_
        rw [hm.1]
        refine ev_icmp_ge 214 dX5_stands_142 (by decide) (fun c142 => absurd c142 (nI_ge (by omega) (by omega))) (fun c142 => ?_)
        refine ev_iload_n dX5_stands_145 rfl ?_
        refine ev_if_eq 214 dX5_stands_146 (by decide) (fun c146 => absurd c146 (by decide)) (fun c146 => ?_)
        refine ev_aload_n dX5_stands_149 rfl ?_
        refine ev_getR dX5_stands_150 fX5_53 ⟨_, rfl, rfl⟩ ?_
        refine ev_iload_n dX5_stands_153 rfl ?_
        refine ev_iaload dX5_stands_154 rfl hin ?_
        rw [ic, e49]
        refine ev_iconst (-1) dX5_stands_155 (by decide) ?_
        refine ev_icmp_ne 173 dX5_stands_156 (by decide) (fun c156 => absurd rfl c156) (fun c156 => ?_)
        refine ev_aload_n dX5_stands_159 rfl ?_
        refine ev_getR dX5_stands_160 fX5_44 ⟨_, rfl, rfl⟩ ?_
        refine ev_aload_n dX5_stands_163 rfl ?_
        refine ev_getR dX5_stands_164 fX5_50 ⟨_, rfl, rfl⟩ ?_
        refine ev_iload_n dX5_stands_167 rfl ?_
        refine ev_iaload dX5_stands_168 rfl hin ?_
        rw [ic, e48]
        refine ev_iaload dX5_stands_169 rfl (vp_in_nI (by omega) (by decide)) ?_
        rw [clN (by omega), mHu w (by omega), eu]
        refine ev_goto 193 dX5_stands_170 (by decide) ?_
        exact tail _ evv.symm
      · have hne := ((hF1.2 w (by omega)).2 r hr4).mpr ⟨q, hrol⟩
        have ef := (hf_nat hw (by omega) hne).2
        have mHf := hm'.2.2.2.2.2.2.2.2.2.2.2
        have e4 : 4 * nI w + nI r = nI (4 * w + r) := by rw [show (4 : Int32) = nI 4 from rfl, pk_mul, nI_add]
        have iff := rc_m1 (hp.2.1 p w _ ho).2
        have hne1 : ¬ rc (some r) = -1 := fun z => by have := iff.mp z; cases this
        refine ev_iload_n dX5_stands_137 rfl ?_
        refine ev_aload_n dX5_stands_138 rfl ?_
        refine ev_getI dX5_stands_139 fX5_102 ⟨_, rfl, rfl⟩ ?_
        rw [hm.1]
        refine ev_icmp_ge 214 dX5_stands_142 (by decide) (fun c142 => absurd c142 (nI_ge (by omega) (by omega))) (fun c142 => ?_)
        refine ev_iload_n dX5_stands_145 rfl ?_
        refine ev_if_eq 214 dX5_stands_146 (by decide) (fun c146 => absurd c146 (by decide)) (fun c146 => ?_)
        refine ev_aload_n dX5_stands_149 rfl ?_
        refine ev_getR dX5_stands_150 fX5_53 ⟨_, rfl, rfl⟩ ?_
        refine ev_iload_n dX5_stands_153 rfl ?_
        refine ev_iaload dX5_stands_154 rfl hin ?_
        rw [ic, e49]
        refine ev_iconst (-1) dX5_stands_155 (by decide) ?_
        refine ev_icmp_ne 173 dX5_stands_156 (by decide) (fun c156 => ?_) (fun c156 => absurd c156 hne1)
        refine ev_aload_n dX5_stands_173 rfl ?_
        refine ev_getR dX5_stands_174 fX5_47 ⟨_, rfl, rfl⟩ ?_
        refine ev_iconst 4 dX5_stands_177 (by decide) ?_
        refine ev_aload_n dX5_stands_178 rfl ?_
        refine ev_getR dX5_stands_179 fX5_50 ⟨_, rfl, rfl⟩ ?_
        refine ev_iload_n dX5_stands_182 rfl ?_
        refine ev_iaload dX5_stands_183 rfl hin ?_
        rw [ic, e48]
        refine ev_imul dX5_stands_184 ?_
        refine ev_aload_n dX5_stands_185 rfl ?_
        refine ev_getR dX5_stands_186 fX5_53 ⟨_, rfl, rfl⟩ ?_
        refine ev_iload_n dX5_stands_189 rfl ?_
        refine ev_iaload dX5_stands_190 rfl hin ?_
        rw [ic, e49, show rc (some r) = nI r from rfl]
        refine ev_iadd dX5_stands_191 ?_
        rw [e4]
        refine ev_iaload dX5_stands_192 rfl (vp_in_nI (by omega) (by decide)) ?_
        rw [clN (by omega), mHf _ (by omega), ef]
        exact tail _ evv.symm
    · refine ev_iload_n dX5_stands_137 rfl ?_
      refine ev_aload_n dX5_stands_138 rfl ?_
      refine ev_getI dX5_stands_139 fX5_102 ⟨_, rfl, rfl⟩ ?_
      rw [hm.1]
      refine ev_icmp_ge 214 dX5_stands_142 (by decide) (fun c142 => absurd c142 (nI_ge (by omega) (by omega))) (fun c142 => ?_)
      refine ev_iload_n dX5_stands_145 rfl ?_
      refine ev_if_eq 214 dX5_stands_146 (by decide) (fun c146 => ?_) (fun c146 => absurd rfl c146)
      exact ms_end hf (Or.inr ⟨rfl, fun z => hx (fun q' hq' => z q' (by omega))⟩)
theorem tm_stands (hw : WF β) (h : RM σ β) : ev mX5_stands (d + 3) 0 [some (.ref 35), none, none, none] [] (LY L) σ 0 0 (Ri (LY L) (PM (sp_stands β) σ)) := by
  have h4 := hw.1.2.2.2.2.2.2.2.2
  have hpow : 2 ^ nW β ≤ 2 ^ 4 := Nat.pow_le_pow_right (by omega) h4
  have epl : pls β (fun w => (2 ^ nW β - 1).testBit w) = plA β := pls_congr (fun w hlt => by rw [Nat.testBit_two_pow_sub_one]; simp [hlt])
  have e14 := h.2.2.2.2.1
  have h01 : fl (β 35 14) (F1 β 0) := by
    obtain ⟨_, _, _, _, _, _, _, _, q⟩ := hw.2.2.2.2
    rcases q with ⟨q, -⟩ | q
    · exact Or.inr ⟨q, fun z => z.1 q⟩
    · exact Or.inl ⟨q, by rw [q]; decide, fun w z => by omega⟩
  refine ev_aload_n dX5_stands_0 rfl ?_
  refine ev_getI dX5_stands_1 fX5_80 ⟨_, rfl, rfl⟩ ?_
  rw [e14]
  refine ev_istore_n dX5_stands_4 (by decide) ?_
  refine ev_iconst 0 dX5_stands_5 (by decide) ?_
  refine ev_istore_n dX5_stands_6 (by decide) ?_
  refine ms_out hw h (fun x l3 hx => ?_) 4 0 rfl _ _ h01
  rcases hx with ⟨rfl, hx⟩ | ⟨rfl, hx⟩
  · refine ev_iload_n dX5_stands_120 rfl ?_
    refine ev_if_ne 126 dX5_stands_121 (by decide) (fun _ => ?_) (fun c => absurd c (by decide))
    refine ev_aload_n dX5_stands_126 rfl ?_
    refine ev_aload_n dX5_stands_127 rfl ?_
    refine cVp0 dX5_stands_128 VX5_140 ⟨_, rfl⟩ rfl (t_mall hw h) ?_
    refine ev_iconst 0 dX5_stands_131 (by decide) ?_
    refine cVv2 dX5_stands_132 VX5_144 ⟨_, rfl⟩ rfl rfl rfl (t_start (d := d) hw h (by omega) false) ?_
    rintro σ1 ⟨s1, s2, s3, s4⟩
    rw [epl] at s2
    refine ev_iconst 0 dX5_stands_135 (by decide) ?_
    refine ev_istore_n dX5_stands_136 (by decide) ?_
    refine (ms_fit (d := d) (L := L) hw h hx (plA β).length 0 (by omega) σ1 _ _ s1 ⟨s2.1, fun p w o hq => ⟨(s2.2 p w o hq).1, (s2.2 p w o hq).2.1⟩, fun p v hv => by rw [List.take_zero] at hv; cases hv⟩ (Or.inl ⟨rfl, fun q z => by omega⟩)).mono ?_
    rintro r y' σ' ⟨rfl, x, rfl, hfl, hs⟩
    refine Ri.mk (PM.of ?_ (hs.RM h) hs.M)
    rw [sp_stands]
    rcases hfl with ⟨rfl, z⟩ | ⟨rfl, z⟩
    · rw [← bI_t ⟨hx.1, F1_ok hw hx z⟩]
    · rw [← bI_f (fun y => z (fun q' hq' => ((ok_F1 hw y.2 y.1).2 q' hq').2))]
  · refine ev_iload_n dX5_stands_120 rfl ?_
    refine ev_if_ne 126 dX5_stands_121 (by decide) (fun c121 => absurd rfl c121) (fun c121 => ?_)
    refine ev_iconst 0 dX5_stands_124 (by decide) ?_
    refine ev_ireturn dX5_stands_125 rfl rfl rfl ?_
    exact Ri.mk (PM.of (by rw [sp_stands, ← bI_f (fun y => hx (F1_of hw y.2 y.1))]) h FrM.rf)
end MSD
