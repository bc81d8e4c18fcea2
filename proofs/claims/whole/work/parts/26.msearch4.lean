def tkU (pl : PLt) (vs : List Nat) (b : Bool) (v i : Nat) : Bool := (List.range i).any (fun p => (isU pl p == b) && vs.getD p 0 == v)
theorem tkU_S (pl : PLt) (vs : List Nat) (b : Bool) (v i : Nat) : tkU pl vs b v (i + 1) = (tkU pl vs b v i || ((isU pl i == b) && vs.getD i 0 == v)) := by
  unfold tkU
  rw [List.range_succ, List.any_append]
  simp
theorem tkU_mono (pl : PLt) (vs : List Nat) (b : Bool) (v : Nat) {i j : Nat} (h : i ≤ j) (ht : tkU pl vs b v i = true) : tkU pl vs b v j = true := by
  unfold tkU at ht ⊢
  rw [List.any_eq_true] at ht ⊢
  obtain ⟨p, hp, q⟩ := ht
  exact ⟨p, List.mem_range.mpr (by have := List.mem_range.mp hp; omega), q⟩
theorem fs1 {p q : Bool} {P : Prop} [Decidable P] (h : P ∧ p = false) (hq : q = false) : (1 : Int32) = bI (P ∧ (p || q) = false) := bI_t ⟨h.1, by rw [h.2, hq]; rfl⟩
theorem fs0 {p q : Bool} {P : Prop} [Decidable P] (hq : q = true) : (0 : Int32) = bI (P ∧ (p || q) = false) := bI_f (fun h => by rw [hq, Bool.or_true] at h; exact absurd h.2 (by decide))
section MS4
variable {σ β : ai_M} {d L : Nat} {pl : PLt} {vs : List Nat}
theorem fits_loop (hw : WF β) (hp : PLok β pl) (hm : MS σ pl vs) (hl : vs.length < pl.length) {P : Prop} [Decidable P] {v w : Nat} (hv16 : v < 16) (hvs : ∀ (p z : Nat), vs[p]? = some z → z < 16) {u : Bool} :
    ∀ n p, p + n = vs.length → ev mX5_fits d 145 [some (.ref 35), some (.int (nI vs.length)), some (.int (nI v)), some (.int (bI (u = true))), some (.int (nI w)), some (.int (bI (P ∧ tkU pl vs u v p = false))), some (.int (nI p))] [] (LY L) σ 0 0 (Rp (LY L) σ (bI (P ∧ tkB pl vs u v = false))) := by
  have h20 := hp.1
  intro n
  induction n with
  | zero =>
    intro p hpn
    obtain rfl : p = vs.length := by omega
    refine ev_iload dX5_fits_145 rfl ?_
    refine ev_iload_n dX5_fits_147 rfl ?_
    refine ev_icmp_ge 200 dX5_fits_148 (by decide) (fun c148 => ?_) (fun c148 => absurd (nI_le (by omega) (by omega)) c148)
    refine ev_iload dX5_fits_200 rfl ?_
    refine ev_ireturn dX5_fits_202 rfl rfl (bI_z _) ?_
    exact Rp.mk rfl
  | succ n ih =>
    intro p hpn
    obtain ⟨z, hq⟩ : ∃ q, vs[p]? = some q := ⟨_, List.getElem?_eq_getElem (by omega)⟩
    obtain ⟨⟨w1, o⟩, ho⟩ : ∃ q, pl[p]? = some q := ⟨_, List.getElem?_eq_getElem (by omega)⟩
    have e1 := hm.2.1 p w1 o ho
    have e2 := hm.2.2 p z hq
    have hz := hvs p z hq
    have iff := rc_m1 (hp.2.1 p w1 o ho).2
    have iu := isU_iff ho
    have hin : vp_in (nI p) 20 := vp_in_nI (by omega) (by decide)
    have ic : (nI p).toNatClampNeg = p := clN (by omega)
    have egd : vs.getD p 0 = z := by rw [List.getD_eq_getElem?_getD, hq]; rfl
    have fin : ∀ x : Int32, x = bI (P ∧ tkU pl vs u v (p + 1) = false) → ev mX5_fits d 192 [some (.ref 35), some (.int (nI vs.length)), some (.int (nI v)), some (.int (bI (u = true))), some (.int (nI w)), some (.int (bI (P ∧ tkU pl vs u v p = false))), some (.int (nI p))] [.int x] (LY L) σ 0 0 (Rp (LY L) σ (bI (P ∧ tkB pl vs u v = false))) := by
      intro x hx
      subst hx
      refine ev_istore dX5_fits_192 (by decide) ?_
      refine ev_iinc _ dX5_fits_194 rfl rfl (by decide) ?_
      rw [show nI p + Int32.ofInt 1 = nI (p + 1) from nI_1 p]
      refine ev_goto 145 dX5_fits_197 (by decide) ?_
      exact ih (p + 1) (by omega)
    have fin2 : P ∧ tkU pl vs u v p = false → ∀ x : Int32, x = bI (isU pl p = true) → ev mX5_fits d 172 [some (.ref 35), some (.int (nI vs.length)), some (.int (nI v)), some (.int (bI (u = true))), some (.int (nI w)), some (.int (bI (P ∧ tkU pl vs u v p = false))), some (.int (nI p))] [.int x] (LY L) σ 0 0 (Rp (LY L) σ (bI (P ∧ tkB pl vs u v = false))) := by
      intro h0 x hx
      subst hx
      have hne : ¬ bI (isU pl p = true) = bI (u = true) ↔ (isU pl p == u) = false := by cases isU pl p <;> cases u <;> decide
      refine ev_iload_n dX5_fits_172 rfl ?_
      refine ev_icmp_ne 187 dX5_fits_173 (by decide) (fun c173 => ?_) (fun c173 => ?_)
      · refine ev_iconst 1 dX5_fits_187 (by decide) ?_
        refine ev_goto 192 dX5_fits_188 (by decide) ?_
        refine fin _ ?_
        rw [tkU_S, egd]
        first | exact fs1 h0 (by rw [hne.mp c173]; rfl) | exact fs1 h0 (by rw [show (z == v) = false from beq_eq_false_iff_ne.mpr (fun q => c184 (by rw [q])), Bool.and_false]) | exact fs0 (by have ez := nI_inj (by omega) (by omega) c184; have eu : (isU pl p == u) = true := (by cases hx : (isU pl p == u) with | true => rfl | false => exact absurd c173 (hne.mpr hx)); rw [eu, ez, Bool.true_and]; exact beq_self_eq_true v)
      · refine ev_aload_n dX5_fits_176 rfl ?_
        refine ev_getR dX5_fits_177 fX5_56 ⟨_, rfl, rfl⟩ ?_
        refine ev_iload dX5_fits_180 rfl ?_
        refine ev_iaload dX5_fits_182 rfl hin ?_
        rw [ic, e2]
        refine ev_iload_n dX5_fits_183 rfl ?_
        refine ev_icmp_eq 191 dX5_fits_184 (by decide) (fun c184 => ?_) (fun c184 => ?_)
        · refine ev_iconst 0 dX5_fits_191 (by decide) ?_
          refine fin _ ?_
          rw [tkU_S, egd]
          first | exact fs1 h0 (by rw [hne.mp c173]; rfl) | exact fs1 h0 (by rw [show (z == v) = false from beq_eq_false_iff_ne.mpr (fun q => c184 (by rw [q])), Bool.and_false]) | exact fs0 (by have ez := nI_inj (by omega) (by omega) c184; have eu : (isU pl p == u) = true := (by cases hx : (isU pl p == u) with | true => rfl | false => exact absurd c173 (hne.mpr hx)); rw [eu, ez, Bool.true_and]; exact beq_self_eq_true v)
        · refine ev_iconst 1 dX5_fits_187 (by decide) ?_
          refine ev_goto 192 dX5_fits_188 (by decide) ?_
          refine fin _ ?_
          rw [tkU_S, egd]
          first | exact fs1 h0 (by rw [hne.mp c173]; rfl) | exact fs1 h0 (by rw [show (z == v) = false from beq_eq_false_iff_ne.mpr (fun q => c184 (by rw [q])), Bool.and_false]) | exact fs0 (by have ez := nI_inj (by omega) (by omega) c184; have eu : (isU pl p == u) = true := (by cases hx : (isU pl p == u) with | true => rfl | false => exact absurd c173 (hne.mpr hx)); rw [eu, ez, Bool.true_and]; exact beq_self_eq_true v)
    refine ev_iload dX5_fits_145 rfl ?_
    refine ev_iload_n dX5_fits_147 rfl ?_
    refine ev_icmp_ge 200 dX5_fits_148 (by decide) (fun c148 => absurd c148 (nI_ge (by omega) (by omega))) (fun c148 => ?_)
    refine ev_iload dX5_fits_151 rfl ?_
    refine ev_if_eq 200 dX5_fits_153 (by decide) (fun c153 => ?_) (fun c153 => ?_)
    · refine ev_iload dX5_fits_200 rfl ?_
      refine ev_ireturn dX5_fits_202 rfl rfl (bI_z _) ?_
      rw [bI_0] at c153
      refine Rp.mk (bI_congr ⟨fun q => absurd q c153, fun q => absurd ⟨q.1, ?_⟩ c153⟩)
      cases hx : tkU pl vs u v p with | false => rfl | true => exact absurd q.2 (by rw [show tkB pl vs u v = tkU pl vs u v vs.length from rfl, tkU_mono pl vs u v (by omega) hx]; decide)
    · rw [bI_n] at c153
      refine ev_aload_n dX5_fits_156 rfl ?_
      refine ev_getR dX5_fits_157 fX5_53 ⟨_, rfl, rfl⟩ ?_
      refine ev_iload dX5_fits_160 rfl ?_
      refine ev_iaload dX5_fits_162 rfl hin ?_
      rw [ic, e1.2]
      refine ev_iconst (-1) dX5_fits_163 (by decide) ?_
      refine ev_icmp_ne 171 dX5_fits_164 (by decide) (fun c164 => ?_) (fun c164 => ?_)
      · refine ev_iconst 0 dX5_fits_171 (by decide) ?_
        first | exact fin2 c153 _ (bI_f (fun q => c164 (iff.mpr (iu.mp q)))) | exact fin2 c153 _ (bI_t (iu.mpr (iff.mp c164)))
      · refine ev_iconst 1 dX5_fits_167 (by decide) ?_
        refine ev_goto 172 dX5_fits_168 (by decide) ?_
        first | exact fin2 c153 _ (bI_f (fun q => c164 (iff.mpr (iu.mp q)))) | exact fin2 c153 _ (bI_t (iu.mpr (iff.mp c164)))
end MS4
