def bitN (m : Nat) : Nat := cnt (fun i => m.testBit i) 4
def lowB (m b : Nat) : Bool := decide (¬ (nI m &&& (nI m ^^^ nI b)) &&& -(nI m ^^^ nI b) = 0)
def ahB (m b : Nat) : Bool := decide (b = 0) || (decide (bitN m < bitN b) || (decide (bitN m = bitN b) && lowB m b))
def posB (β : ai_M) (m : Nat) : Bool := !(gvA β (fun w => m.testBit w)).isEmpty
def blM (β : ai_M) : Nat → Nat
  | 0 => 0
  | n + 1 => if ahB (n + 1) (blM β n) && !posB β (n + 1) then n + 1 else blM β n
def sp_blame (β : ai_M) : Int32 × ai_M := (nI (blM β (2 ^ nW β - 1)), β)
theorem blM_le (β : ai_M) : ∀ n, blM β n ≤ n
  | 0 => Nat.le_refl 0
  | n + 1 => by
    unfold blM
    have := blM_le β n
    split <;> omega
theorem bitN_le (m : Nat) : bitN m ≤ 4 := by
  unfold bitN
  unfold cnt cnt cnt cnt cnt
  repeat' split
  all_goals omega
section MBL
variable {β : ai_M} {d L : Nat} {σ σ0 : ai_M} {y0 : ai_L}
theorem bits_loop {m : Nat} (hm : m < 2 ^ 31) : ∀ n k, k + n = 4 → ev mX5_bits d 4 [some (.int (nI m)), some (.int (nI (cnt (fun i => m.testBit i) k))), some (.int (nI k))] [] y0 σ 0 0 (Rp y0 σ (nI (bitN m))) := by
  intro n
  induction n with
  | zero =>
    intro k hk
    obtain rfl : k = 4 := by omega
    refine ev_iload_n dX5_bits_4 rfl ?_
    refine ev_iconst 4 dX5_bits_5 (by decide) ?_
    refine ev_icmp_ge 23 dX5_bits_6 (by decide) (fun c6 => ?_) (fun c6 => absurd (nI_le (a := 4) (b := 4) (by omega) (by decide)) c6)
    refine ev_iload_n dX5_bits_23 rfl ?_
    refine ev_ireturn dX5_bits_24 rfl rfl rfl ?_
    exact Rp.mk rfl
  | succ n ih =>
    intro k hk
    have e : nI (cnt (fun i => m.testBit i) k) + nI (m.testBit k).toNat = nI (cnt (fun i => m.testBit i) (k + 1)) := by
      rw [nI_add]
      congr 1
      show _ = (if m.testBit k then 1 else 0) + cnt (fun i => m.testBit i) k
      cases m.testBit k <;> simp <;> omega
    refine ev_iload_n dX5_bits_4 rfl ?_
    refine ev_iconst 4 dX5_bits_5 (by decide) ?_
    refine ev_icmp_ge 23 dX5_bits_6 (by decide) (fun c6 => absurd c6 (nI_ge (b := 4) (by omega) (by decide))) (fun c6 => ?_)
    refine ev_iload_n dX5_bits_9 rfl ?_
    refine ev_iload_n dX5_bits_10 rfl ?_
    refine ev_iload_n dX5_bits_11 rfl ?_
    refine ev_ishr dX5_bits_12 ?_
    refine ev_iconst 1 dX5_bits_13 (by decide) ?_
    refine ev_iand dX5_bits_14 ?_
    rw [bit_at hm (by omega)]
    refine ev_iadd dX5_bits_15 ?_
    rw [e]
    refine ev_istore_n dX5_bits_16 (by decide) ?_
    refine ev_iinc _ dX5_bits_17 rfl rfl (by decide) ?_
    rw [show nI k + Int32.ofInt 1 = nI (k + 1) from nI_1 k]
    refine ev_goto 4 dX5_bits_20 (by decide) ?_
    exact ih (k + 1) (by omega)
theorem t_bits {m : Nat} (hm : m < 2 ^ 31) : ev mX5_bits d 0 [some (.int (nI m)), none, none] [] y0 σ 0 0 (Rp y0 σ (nI (bitN m))) := by
  refine ev_iconst 0 dX5_bits_0 (by decide) ?_
  refine ev_istore_n dX5_bits_1 (by decide) ?_
  refine ev_iconst 0 dX5_bits_2 (by decide) ?_
  refine ev_istore_n dX5_bits_3 (by decide) ?_
  exact bits_loop hm 4 0 rfl
theorem ah_1 {m b : Nat} (h : b = 0) : ahB m b = true := by simp [ahB, h]
theorem ah_2 {m b : Nat} (h : bitN m < bitN b) : ahB m b = true := by simp [ahB, h]
theorem ah_3 {m b : Nat} (h : bitN m = bitN b) (h2 : ¬ (nI m &&& (nI m ^^^ nI b)) &&& -(nI m ^^^ nI b) = 0) : ahB m b = true := by simp [ahB, h, lowB, h2]
theorem ah_4 {m b : Nat} (h0 : ¬ b = 0) (h1 : ¬ bitN m < bitN b) (h : ¬ bitN m = bitN b) : ahB m b = false := by simp [ahB, h0, h1, h]
theorem ah_5 {m b : Nat} (h0 : ¬ b = 0) (h1 : ¬ bitN m < bitN b) (h2 : (nI m &&& (nI m ^^^ nI b)) &&& -(nI m ^^^ nI b) = 0) : ahB m b = false := by simp [ahB, h0, h1, lowB, h2]
theorem blame_loop (hw : WF β) (hr : RM σ0 β) : ∀ n s, s + n = 2 ^ nW β → 1 ≤ s → ∀ (σ1 : ai_M) (l3 l4 : Option Value), SFr σ0 σ1 → ev mX5_blame (d + 4) 4 [some (.ref 35), some (.int (nI (blM β (s - 1)))), some (.int (nI s)), l3, l4] [] (LY L) σ1 0 0 (Ri (LY L) (fun r σ' => r = nI (blM β (2 ^ nW β - 1)) ∧ SFr σ0 σ')) := by
  have h4 := hw.1.2.2.2.2.2.2.2.2
  have hpow : 2 ^ nW β ≤ 2 ^ 4 := Nat.pow_le_pow_right (by omega) h4
  have hpos := Nat.two_pow_pos (nW β)
  intro n
  induction n with
  | zero =>
    intro s hs h1 σ1 l3 l4 hf
    obtain rfl : s = 2 ^ nW β := by omega
    refine ev_iload_n dX5_blame_4 rfl ?_
    refine ev_aload_n dX5_blame_5 rfl ?_
    refine cVp0 dX5_blame_6 VX5_140 ⟨_, rfl⟩ rfl (t_mall hw (hf.RM hr)) ?_
    refine ev_icmp_gt 88 dX5_blame_9 (by decide) (fun c9 => ?_) (fun c9 => absurd (nI_lt (by omega) (by omega)) c9)
    refine ev_iload_n dX5_blame_88 rfl ?_
    refine ev_ireturn dX5_blame_89 rfl rfl rfl ?_
    exact Ri.mk ⟨rfl, hf⟩
  | succ n ih =>
    intro s hs h1 σ1 l3 l4 hf
    have hb := blM_le β (s - 1)
    have k1 := bitN_le s
    have k2 := bitN_le (blM β (s - 1))
    have es : blM β s = if ahB s (blM β (s - 1)) && !posB β s then s else blM β (s - 1) := by
      have : s = (s - 1) + 1 := by omega
      rw [this, blM, Nat.add_sub_cancel]
    have goOn : ∀ (σ2 : ai_M) (q3 q4 : Option Value), SFr σ0 σ2 → ev mX5_blame (d + 4) 82 [some (.ref 35), some (.int (nI (blM β s))), some (.int (nI s)), q3, q4] [] (LY L) σ2 0 0 (Ri (LY L) (fun r σ' => r = nI (blM β (2 ^ nW β - 1)) ∧ SFr σ0 σ')) := by
      intro σ2 q3 q4 hf2
      refine ev_iinc _ dX5_blame_82 rfl rfl (by decide) ?_
      rw [show nI s + Int32.ofInt 1 = nI (s + 1) from nI_1 s]
      refine ev_goto 4 dX5_blame_85 (by decide) ?_
      exact ih (s + 1) (by omega) (by omega) σ2 _ _ hf2
    have fin : ∀ x : Int32, x = bI (ahB s (blM β (s - 1)) = true) → ev mX5_blame (d + 4) 56 [some (.ref 35), some (.int (nI (blM β (s - 1)))), some (.int (nI s)), some (.int (nI s ^^^ nI (blM β (s - 1)))), l4] [.int x] (LY L) σ1 0 0 (Ri (LY L) (fun r σ' => r = nI (blM β (2 ^ nW β - 1)) ∧ SFr σ0 σ')) := by
      intro x hx
      subst hx
      refine ev_istore dX5_blame_56 (by decide) ?_
      refine ev_iload dX5_blame_58 rfl ?_
      refine ev_if_eq 82 dX5_blame_60 (by decide) (fun c60 => ?_) (fun c60 => ?_)
      · rw [bI_0] at c60
        have := goOn σ1 (some (.int (nI s ^^^ nI (blM β (s - 1))))) (some (.int (bI (ahB s (blM β (s - 1)) = true)))) hf
        rw [es, if_neg (by simp [c60])] at this
        exact this
      · rw [bI_n] at c60
        refine ev_aload_n dX5_blame_63 rfl ?_
        refine ev_iload_n dX5_blame_64 rfl ?_
        refine ev_iconst 0 dX5_blame_65 (by decide) ?_
        refine cVv2 dX5_blame_66 VX5_144 ⟨_, rfl⟩ rfl rfl rfl (t_start (d := d + 1) hw (hf.RM hr) (m := s) (by omega) false) ?_
        rintro σ2 ⟨s1, s2, s3, s4⟩
        refine ev_aload_n dX5_blame_69 rfl ?_
        refine cVi0 dX5_blame_70 VX5_148 ⟨_, rfl⟩ rfl (t_next0 (d := d) hw (s1.RM (hf.RM hr)) (pls_ok hw _) s2 s3 s4) ?_
        rintro r σ3 (⟨rfl, k1, k2, k3, k5, k6⟩ | ⟨rfl, y, k1, k2, k3, l1, k4, k5⟩)
        · have hp : posB β s = false := by
            unfold posB gvA
            cases hz : sub β (pls β (fun w => s.testBit w)) (pls β (fun w => s.testBit w)).length [] with
            | nil => rfl
            | cons z l => rw [hz] at k6; have := k6 z List.mem_cons_self; simp [btr] at this
          rw [c60, hp] at es
          refine ev_if_eq 80 dX5_blame_73 (by decide) (fun c73 => ?_) (fun c73 => absurd rfl c73)
          refine ev_iload_n dX5_blame_80 rfl ?_
          refine ev_istore_n dX5_blame_81 (by decide) ?_
          rw [es, if_pos (show (true && !false) = true from rfl)] at goOn
          exact goOn σ3 _ _ ((hf.tr s1).tr k1)
        · have hp : posB β s = true := by
            unfold posB gvA
            rw [k4]; simp
          rw [hp] at es
          rw [if_neg (by simp)] at es
          refine ev_if_eq 80 dX5_blame_73 (by decide) (fun c73 => absurd c73 (by decide)) (fun c73 => ?_)
          refine ev_iload_n dX5_blame_76 rfl ?_
          refine ev_goto 81 dX5_blame_77 (by decide) ?_
          refine ev_istore_n dX5_blame_81 (by decide) ?_
          rw [es] at goOn
          exact goOn σ3 _ _ ((hf.tr s1).tr k1.1)
    refine ev_iload_n dX5_blame_4 rfl ?_
    refine ev_aload_n dX5_blame_5 rfl ?_
    refine cVp0 dX5_blame_6 VX5_140 ⟨_, rfl⟩ rfl (t_mall hw (hf.RM hr)) ?_
    refine ev_icmp_gt 88 dX5_blame_9 (by decide) (fun c9 => absurd c9 (nI_nlt (by omega) (by omega))) (fun c9 => ?_)
    refine ev_iload_n dX5_blame_12 rfl ?_
    refine ev_iload_n dX5_blame_13 rfl ?_
    refine ev_ixor dX5_blame_14 ?_
    refine ev_istore_n dX5_blame_15 (by decide) ?_
    refine ev_iload_n dX5_blame_16 rfl ?_
    refine ev_if_eq 51 dX5_blame_17 (by decide) (fun c17 => ?_) (fun c17 => ?_)
    · refine ev_iconst 1 dX5_blame_51 (by decide) ?_
      refine ev_goto 56 dX5_blame_52 (by decide) ?_
      first | exact fin _ (bI_t (ah_1 (nI_inj (b := 0) (by omega) (by decide) c17))) | exact fin _ (bI_t (ah_2 ((nI_ltI (by omega) (by omega)).mp c28))) | exact fin _ (bI_f (by rw [ah_4 (fun q => c17 (by rw [q]; rfl)) (fun q => c28 ((nI_ltI (by omega) (by omega)).mpr q)) (fun q => c39 (by rw [q]))]; decide)) | exact fin _ (bI_f (by rw [ah_5 (fun q => c17 (by rw [q]; rfl)) (fun q => c28 ((nI_ltI (by omega) (by omega)).mpr q)) c48]; decide)) | exact fin _ (bI_t (ah_3 ((nI_eq (by omega) (by omega)).mp c39) c48))
    · refine ev_iload_n dX5_blame_20 rfl ?_
      refine cSp1 dX5_blame_21 SX5_162 rfl rfl (t_bits (by omega)) ?_
      refine ev_iload_n dX5_blame_24 rfl ?_
      refine cSp1 dX5_blame_25 SX5_162 rfl rfl (t_bits (by omega)) ?_
      refine ev_icmp_lt 51 dX5_blame_28 (by decide) (fun c28 => ?_) (fun c28 => ?_)
      · refine ev_iconst 1 dX5_blame_51 (by decide) ?_
        refine ev_goto 56 dX5_blame_52 (by decide) ?_
        first | exact fin _ (bI_t (ah_1 (nI_inj (b := 0) (by omega) (by decide) c17))) | exact fin _ (bI_t (ah_2 ((nI_ltI (by omega) (by omega)).mp c28))) | exact fin _ (bI_f (by rw [ah_4 (fun q => c17 (by rw [q]; rfl)) (fun q => c28 ((nI_ltI (by omega) (by omega)).mpr q)) (fun q => c39 (by rw [q]))]; decide)) | exact fin _ (bI_f (by rw [ah_5 (fun q => c17 (by rw [q]; rfl)) (fun q => c28 ((nI_ltI (by omega) (by omega)).mpr q)) c48]; decide)) | exact fin _ (bI_t (ah_3 ((nI_eq (by omega) (by omega)).mp c39) c48))
      · refine ev_iload_n dX5_blame_31 rfl ?_
        refine cSp1 dX5_blame_32 SX5_162 rfl rfl (t_bits (by omega)) ?_
        refine ev_iload_n dX5_blame_35 rfl ?_
        refine cSp1 dX5_blame_36 SX5_162 rfl rfl (t_bits (by omega)) ?_
        refine ev_icmp_ne 55 dX5_blame_39 (by decide) (fun c39 => ?_) (fun c39 => ?_)
        · refine ev_iconst 0 dX5_blame_55 (by decide) ?_
          first | exact fin _ (bI_t (ah_1 (nI_inj (b := 0) (by omega) (by decide) c17))) | exact fin _ (bI_t (ah_2 ((nI_ltI (by omega) (by omega)).mp c28))) | exact fin _ (bI_f (by rw [ah_4 (fun q => c17 (by rw [q]; rfl)) (fun q => c28 ((nI_ltI (by omega) (by omega)).mpr q)) (fun q => c39 (by rw [q]))]; decide)) | exact fin _ (bI_f (by rw [ah_5 (fun q => c17 (by rw [q]; rfl)) (fun q => c28 ((nI_ltI (by omega) (by omega)).mpr q)) c48]; decide)) | exact fin _ (bI_t (ah_3 ((nI_eq (by omega) (by omega)).mp c39) c48))
        · refine ev_iload_n dX5_blame_42 rfl ?_
          refine ev_iload_n dX5_blame_43 rfl ?_
          refine ev_iand dX5_blame_44 ?_
          refine ev_iload_n dX5_blame_45 rfl ?_
          refine ev_ineg dX5_blame_46 ?_
          refine ev_iand dX5_blame_47 ?_
          refine ev_if_eq 55 dX5_blame_48 (by decide) (fun c48 => ?_) (fun c48 => ?_)
          · refine ev_iconst 0 dX5_blame_55 (by decide) ?_
            first | exact fin _ (bI_t (ah_1 (nI_inj (b := 0) (by omega) (by decide) c17))) | exact fin _ (bI_t (ah_2 ((nI_ltI (by omega) (by omega)).mp c28))) | exact fin _ (bI_f (by rw [ah_4 (fun q => c17 (by rw [q]; rfl)) (fun q => c28 ((nI_ltI (by omega) (by omega)).mpr q)) (fun q => c39 (by rw [q]))]; decide)) | exact fin _ (bI_f (by rw [ah_5 (fun q => c17 (by rw [q]; rfl)) (fun q => c28 ((nI_ltI (by omega) (by omega)).mpr q)) c48]; decide)) | exact fin _ (bI_t (ah_3 ((nI_eq (by omega) (by omega)).mp c39) c48))
          · refine ev_iconst 1 dX5_blame_51 (by decide) ?_
            refine ev_goto 56 dX5_blame_52 (by decide) ?_
            first | exact fin _ (bI_t (ah_1 (nI_inj (b := 0) (by omega) (by decide) c17))) | exact fin _ (bI_t (ah_2 ((nI_ltI (by omega) (by omega)).mp c28))) | exact fin _ (bI_f (by rw [ah_4 (fun q => c17 (by rw [q]; rfl)) (fun q => c28 ((nI_ltI (by omega) (by omega)).mpr q)) (fun q => c39 (by rw [q]))]; decide)) | exact fin _ (bI_f (by rw [ah_5 (fun q => c17 (by rw [q]; rfl)) (fun q => c28 ((nI_ltI (by omega) (by omega)).mpr q)) c48]; decide)) | exact fin _ (bI_t (ah_3 ((nI_eq (by omega) (by omega)).mp c39) c48))
theorem tm_blame (hw : WF β) (h : RM σ β) : ev mX5_blame (d + 4) 0 [some (.ref 35), none, none, none, none] [] (LY L) σ 0 0 (Ri (LY L) (PM (sp_blame β) σ)) := by
  have hpos := Nat.two_pow_pos (nW β)
  refine ev_iconst 0 dX5_blame_0 (by decide) ?_
  refine ev_istore_n dX5_blame_1 (by decide) ?_
  refine ev_iconst 1 dX5_blame_2 (by decide) ?_
  refine ev_istore_n dX5_blame_3 (by decide) ?_
  refine (blame_loop (d := d) (L := L) (σ0 := σ) hw h (2 ^ nW β - 1) 1 (by omega) (by omega) σ _ _ SFr.rf).mono ?_
  rintro r y' σ' ⟨rfl, x, rfl, rfl, hs⟩
  exact Ri.mk (PM.of rfl (hs.RM h) hs.M)
end MBL
