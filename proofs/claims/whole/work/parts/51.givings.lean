/-! givings as functions; what a giving of all says of a part; enough units; the last slot -/
def gvM (U : Nat → Nat) (F : Nat → Nat → Nat) : Nat × Option Nat → Nat
  | (w, none) => U w
  | (w, some r) => F w r
def okG (β : ai_M) (S : Nat → Bool) (U : Nat → Nat) (F : Nat → Nat → Nat) : Prop := (∀ w, w < nW β → S w = true → U w < nU β ∧ kdB β w (U w) = true) ∧ (∀ w r, w < nW β → S w = true → r < 4 → rol β w r = true → F w r < nF β ∧ okB β w (U w) r (F w r) = true) ∧ (∀ w w', w < nW β → S w = true → w' < nW β → S w' = true → U w = U w' → w = w') ∧ ∀ w r w' r', w < nW β → S w = true → r < 4 → rol β w r = true → w' < nW β → S w' = true → r' < 4 → rol β w' r' = true → F w r = F w' r' → w = w' ∧ r = r'
def VG (β : ai_M) (pl : PLt) (x : List Nat) : Prop := x.length = pl.length ∧ ∀ p, p < pl.length → x.getD p 0 < lim β pl p ∧ fit β pl (x.take p) (x.getD p 0) = true
section GV
variable {β : ai_M} {pl : PLt} {S : Nat → Bool}
theorem take_snoc {x : List Nat} {p : Nat} (h : p < x.length) : x.take (p + 1) = x.take p ++ [x.getD p 0] := by
  rw [List.take_succ, List.getD_eq_getElem?_getD, List.getElem?_eq_getElem h]; rfl
theorem take_getD {x : List Nat} {p q : Nat} (h : q < p) : (x.take p).getD q 0 = x.getD q 0 := by
  simp [List.getD_eq_getElem?_getD, List.getElem?_take, h]
theorem take_len {x : List Nat} {p : Nat} (h : p ≤ x.length) : (x.take p).length = p := by
  rw [List.length_take]; omega
theorem VG_sub {x : List Nat} (h : VG β pl x) : ∀ d, d ≤ pl.length → x ∈ sub β pl d (x.take (pl.length - d)) := by
  intro d
  induction d with
  | zero =>
    intro _
    rw [sub, List.mem_singleton, Nat.sub_zero, ← h.1, List.take_length]
  | succ d ih =>
    intro hd
    have h2 := h.2 (pl.length - (d + 1)) (by omega)
    have hl : (x.take (pl.length - (d + 1))).length = pl.length - (d + 1) := take_len (by rw [h.1]; omega)
    rw [sub, hl]
    refine List.mem_flatMap.mpr ⟨x.getD (pl.length - (d + 1)) 0, List.mem_range.mpr h2.1, ?_⟩
    rw [if_pos h2.2, ← take_snoc (by rw [h.1]; omega), show pl.length - (d + 1) + 1 = pl.length - d by omega]
    exact ih (by omega)
theorem sub_VG0 : ∀ (d : Nat) (vs x : List Nat), x ∈ sub β pl d vs → x.take vs.length = vs ∧ x.length = vs.length + d ∧ ∀ p, vs.length ≤ p → p < vs.length + d → x.getD p 0 < lim β pl p ∧ fit β pl (x.take p) (x.getD p 0) = true := by
  intro d
  induction d with
  | zero =>
    intro vs x h
    rw [sub, List.mem_singleton] at h
    subst h
    exact ⟨List.take_length, rfl, fun p a b => by omega⟩
  | succ d ih =>
    intro vs x h
    rw [sub] at h
    obtain ⟨v, hv, h2⟩ := List.mem_flatMap.mp h
    rw [List.mem_range] at hv
    by_cases hf : fit β pl vs v = true
    · rw [if_pos hf] at h2
      obtain ⟨h3, h4, h5⟩ := ih (vs ++ [v]) x h2
      rw [List.length_append, List.length_singleton] at h3 h4 h5
      have hx : vs.length < x.length := by omega
      rw [take_snoc hx] at h3
      obtain ⟨e1, e2⟩ := List.append_inj' h3 rfl
      have e3 : x.getD vs.length 0 = v := by cases e2; rfl
      refine ⟨e1, by omega, fun p a b => ?_⟩
      rcases Nat.lt_or_ge vs.length p with q | q
      · exact h5 p q (by omega)
      · obtain rfl : p = vs.length := by omega
        rw [e1, e3]; exact ⟨hv, hf⟩
    · rw [if_neg hf] at h2; cases h2
theorem sub_VG {x : List Nat} (h : x ∈ sub β pl pl.length []) : VG β pl x := by
  obtain ⟨-, h2, h3⟩ := sub_VG0 _ _ _ h
  exact ⟨by rw [h2]; exact Nat.zero_add _, fun p hp => h3 p (Nat.zero_le p) (by rw [List.length_nil, Nat.zero_add]; exact hp)⟩
theorem gv_iff {x : List Nat} : x ∈ gvA β S ↔ VG β (pls β S) x := by
  constructor
  · exact sub_VG
  · intro h
    have := VG_sub h (pls β S).length (Nat.le_refl _)
    rw [Nat.sub_self, List.take_zero] at this
    exact this
theorem tkB_f {vs : List Nat} {b : Bool} {v : Nat} : tkB pl vs b v = false ↔ ∀ q, q < vs.length → isU pl q = b → vs.getD q 0 ≠ v := by
  unfold tkB
  rw [List.any_eq_false]
  constructor
  · intro h q hq hb e
    have := h q (List.mem_range.mpr hq)
    rw [hb, e] at this
    simp at this
  · intro h q hq
    have := h q (List.mem_range.mp hq)
    simp only [Bool.and_eq_true, beq_iff_eq, not_and]
    exact this
theorem isU_r {p w r : Nat} (h : pl[p]? = some (w, some r)) : isU pl p = false := by
  cases hq : isU pl p with
  | false => rfl
  | true => have := (isU_iff h).mp hq; cases this
theorem ok_VG {U : Nat → Nat} {F : Nat → Nat → Nat} (h : okG β S U F) : VG β (pls β S) ((pls β S).map (gvM U F)) := by
  refine ⟨List.length_map _, fun p hp => ?_⟩
  have hget : ∀ q z, (pls β S)[q]? = some z → ((pls β S).map (gvM U F)).getD q 0 = gvM U F z := fun q z hz => by
    rw [List.getD_eq_getElem?_getD, List.getElem?_map, hz]; rfl
  obtain ⟨⟨w, o⟩, ho⟩ : ∃ q, (pls β S)[p]? = some q := ⟨_, List.getElem?_eq_getElem hp⟩
  have hl : (((pls β S).map (gvM U F)).take p).length = p := take_len (by rw [List.length_map]; omega)
  rw [hget p _ ho]
  obtain ⟨hw, hS, hi⟩ := pl_inv ho
  rcases hi with ⟨rfl, hpp⟩ | ⟨r, rfl, hr, hrol, hpp⟩
  · have h1 := h.1 w hw hS
    refine ⟨by rw [lim_u ho]; exact h1.1, ?_⟩
    rw [fit_u hw hS (hl.trans hpp)]
    show (kdB β w (U w) && !(tkB (pls β S) _ true (U w))) = true
    rw [h1.2, Bool.true_and, tkB_f.mpr (fun q hq hb => ?_)]
    · rfl
    · rw [hl] at hq
      rw [take_getD hq]
      obtain ⟨⟨w', o'⟩, ho'⟩ : ∃ z, (pls β S)[q]? = some z := ⟨_, List.getElem?_eq_getElem (by omega)⟩
      rw [hget q _ ho']
      obtain ⟨hw', hS', -⟩ := pl_inv ho'
      have := (isU_iff ho').mp hb
      subst this
      intro e
      have := h.2.2.1 w' w hw' hS' hw hS e
      subst this
      have := pl_nodup ho ho'
      omega
  · have h1 := h.2.1 w r hw hS hr hrol
    refine ⟨by rw [lim_f ho]; exact h1.1, ?_⟩
    have hlu : lnU β S w < p := by rw [hpp]; have := lnR_le (β := β) (S := S) w (i := 0) (j := r) (by omega); rw [lnR_0] at this; omega
    rw [fit_r hw hS hr hrol (hl.trans hpp), take_getD hlu, hget _ _ (pl_unit hw hS)]
    show (okB β w (U w) r (F w r) && !(tkB (pls β S) _ false (F w r))) = true
    rw [h1.2, Bool.true_and, tkB_f.mpr (fun q hq hb => ?_)]
    · rfl
    · rw [hl] at hq
      rw [take_getD hq]
      obtain ⟨⟨w', o'⟩, ho'⟩ : ∃ z, (pls β S)[q]? = some z := ⟨_, List.getElem?_eq_getElem (by omega)⟩
      rw [hget q _ ho']
      obtain ⟨hw', hS', hi'⟩ := pl_inv ho'
      rcases hi' with ⟨rfl, -⟩ | ⟨r', rfl, hr', hrol', -⟩
      · rw [(isU_iff ho').mpr rfl] at hb; cases hb
      · intro e
        obtain ⟨rfl, rfl⟩ := h.2.2.2 w' r' w r hw' hS' hr' hrol' hw hS hr hrol e
        have := pl_nodup ho ho'
        omega
theorem VG_ok {x : List Nat} (h : VG β (pls β S) x) : okG β S (fun w => x.getD (lnU β S w) 0) (fun w r => x.getD (lnR β S w r) 0) := by
  have hu : ∀ w, w < nW β → S w = true → x.getD (lnU β S w) 0 < nU β ∧ kdB β w (x.getD (lnU β S w) 0) = true ∧ ∀ q, q < lnU β S w → isU (pls β S) q = true → x.getD q 0 ≠ x.getD (lnU β S w) 0 := by
    intro w hw hS
    have hp := len_u (β := β) hw hS
    have h1 := h.2 _ hp
    have hl : (x.take (lnU β S w)).length = lnU β S w := take_len (by rw [h.1]; omega)
    rw [lim_u (show (pls β S)[lnU β S w]? = some (w, none) from pl_unit hw hS), fit_u hw hS hl, Bool.and_eq_true] at h1
    have h2 := tkB_f.mp (by simpa using h1.2.2)
    rw [hl] at h2
    exact ⟨h1.1, h1.2.1, fun q hq hb => by have := h2 q hq hb; rw [take_getD hq] at this; exact this⟩
  have hf : ∀ w r, w < nW β → S w = true → r < 4 → rol β w r = true → x.getD (lnR β S w r) 0 < nF β ∧ okB β w (x.getD (lnU β S w) 0) r (x.getD (lnR β S w r) 0) = true ∧ ∀ q, q < lnR β S w r → isU (pls β S) q = false → x.getD q 0 ≠ x.getD (lnR β S w r) 0 := by
    intro w r hw hS hr hrol
    have hp := len_r (β := β) hw hS hr hrol
    have h1 := h.2 _ hp
    have hl : (x.take (lnR β S w r)).length = lnR β S w r := take_len (by rw [h.1]; omega)
    have hlu : lnU β S w < lnR β S w r := by have := lnR_le (β := β) (S := S) w (i := 0) (j := r) (by omega); rw [lnR_0] at this; omega
    rw [lim_f (show (pls β S)[lnR β S w r]? = some (w, some r) from pl_role hw hS hr hrol), fit_r hw hS hr hrol hl, take_getD hlu, Bool.and_eq_true] at h1
    have h2 := tkB_f.mp (by simpa using h1.2.2)
    rw [hl] at h2
    exact ⟨h1.1, h1.2.1, fun q hq hb => by have := h2 q hq hb; rw [take_getD hq] at this; exact this⟩
  refine ⟨fun w hw hS => ⟨(hu w hw hS).1, (hu w hw hS).2.1⟩, fun w r hw hS hr hrol => ⟨(hf w r hw hS hr hrol).1, (hf w r hw hS hr hrol).2.1⟩, fun w w' hw hS hw' hS' e => ?_, fun w r w' r' hw hS hr hrol hw' hS' hr' hrol' e => ?_⟩
  · rcases Nat.lt_trichotomy (lnU β S w) (lnU β S w') with q | q | q
    · exact absurd e ((hu w' hw' hS').2.2 _ q ((isU_iff (pl_unit hw hS)).mpr rfl))
    · have h1 := pl_unit (β := β) (S := S) hw hS
      rw [q, pl_unit hw' hS'] at h1
      cases h1; rfl
    · exact absurd e.symm ((hu w hw hS).2.2 _ q ((isU_iff (pl_unit hw' hS')).mpr rfl))
  · rcases Nat.lt_trichotomy (lnR β S w r) (lnR β S w' r') with q | q | q
    · exact absurd e ((hf w' r' hw' hS' hr' hrol').2.2 _ q (isU_r (pl_role hw hS hr hrol)))
    · have h1 := pl_role (β := β) (S := S) hw hS hr hrol
      rw [q, pl_role hw' hS' hr' hrol'] at h1
      cases h1; exact ⟨rfl, rfl⟩
    · exact absurd e.symm ((hf w r hw hS hr hrol).2.2 _ q (isU_r (pl_role hw' hS' hr' hrol')))
theorem pos_iff : gvA β S ≠ [] ↔ ∃ U F, okG β S U F := by
  constructor
  · intro h
    obtain ⟨x, hx⟩ := List.exists_mem_of_ne_nil _ h
    exact ⟨_, _, VG_ok (gv_iff.mp hx)⟩
  · rintro ⟨U, F, h⟩
    exact List.ne_nil_of_mem (gv_iff.mpr (ok_VG h))
theorem okG.sub {T : Nat → Bool} {U : Nat → Nat} {F : Nat → Nat → Nat} (h : okG β S U F) (hT : ∀ w, T w = true → S w = true) : okG β T U F :=
  ⟨fun w hw q => h.1 w hw (hT w q), fun w r hw q => h.2.1 w r hw (hT w q), fun w w' hw q hw' q' => h.2.2.1 w w' hw (hT w q) hw' (hT w' q'), fun w r w' r' hw q hr hrol hw' q' => h.2.2.2 w r w' r' hw (hT w q) hr hrol hw' (hT w' q')⟩
end GV
-- a one-to-one map and numbers of those that hold
theorem cnt_take {q : Nat → Bool} {a : Nat} (hq : q a = true) : ∀ n, a < n → cnt (fun i => q i && !(i == a)) n + 1 = cnt q n
  | 0, h => by omega
  | n + 1, h => by
    unfold cnt
    rcases Nat.lt_or_ge a n with z | z
    · have ih := cnt_take hq n z
      have e : (n == a) = false := beq_eq_false_iff_ne.mpr (by omega)
      rw [e]
      simp only [Bool.not_false, Bool.and_true]
      omega
    · obtain rfl : a = n := by omega
      have e : cnt (fun i => q i && !(i == a)) a = cnt q a := cnt_cong (fun i hi => by
        rw [show (i == a) = false from beq_eq_false_iff_ne.mpr (by omega)]; simp)
      rw [e, hq]
      simp
      omega
theorem cnt_inj {p : Nat → Bool} {f : Nat → Nat} {M : Nat} : ∀ (n : Nat) (q : Nat → Bool), (∀ i, i < n → p i = true → f i < M ∧ q (f i) = true) → (∀ i j, i < n → j < n → p i = true → p j = true → f i = f j → i = j) → cnt p n ≤ cnt q M
  | 0, q, _, _ => Nat.zero_le _
  | n + 1, q, h1, h2 => by
    have ec : cnt p (n + 1) = (if p n then 1 else 0) + cnt p n := rfl
    rw [ec]
    by_cases hp : p n
    · rw [if_pos hp]
      have h3 := h1 n (by omega) hp
      have := cnt_take h3.2 M h3.1
      have ih := cnt_inj (p := p) (f := f) (M := M) n (fun i => q i && !(i == f n)) (fun i hi hpi => ⟨(h1 i (by omega) hpi).1, by
        rw [(h1 i (by omega) hpi).2, Bool.true_and, show (f i == f n) = false from beq_eq_false_iff_ne.mpr (fun e => by have := h2 i n (by omega) (by omega) hpi hp e; omega)]; rfl⟩) (fun i j hi hj => h2 i j (by omega) (by omega))
      omega
    · rw [if_neg hp, Nat.zero_add]
      exact cnt_inj n q (fun i hi => h1 i (by omega)) (fun i j hi hj => h2 i j (by omega) (by omega))
section GV2
variable {β : ai_M} {m : Nat}
theorem en_nil (h : enB β m (nW β) = false) : gvA β (mS m) = [] := by
  apply Decidable.byContradiction
  intro hne
  obtain ⟨U, F, ho⟩ := pos_iff.mp hne
  unfold enB at h
  rw [List.all_eq_false] at h
  obtain ⟨w, hw, h2⟩ := h
  have h3 : okC β (β 41 w) (nU β) < okW β (β 41 w) m (nW β) := by
    simp only [Bool.or_eq_true, Bool.not_eq_true', decide_eq_true_eq, not_or] at h2
    omega
  have : okW β (β 41 w) m (nW β) ≤ okC β (β 41 w) (nU β) := by
    unfold okW okC
    refine cnt_inj (f := U) (nW β) _ (fun i hi hp => ?_) (fun i j hi hj hp hq e => ?_)
    · rw [Bool.and_eq_true, decide_eq_true_eq] at hp
      have := ho.1 i hi hp.1
      refine ⟨this.1, ?_⟩
      have hk := of_decide_eq_true this.2
      rw [decide_eq_true_eq, hk]; exact hp.2
    · rw [Bool.and_eq_true] at hp hq
      exact ho.2.2.1 i j hi hp.1 hj hq.1 e
  omega
theorem lsN_last : ∀ K, (∃ k, k < K ∧ wsK β m k = true) → ∃ k, k < K ∧ wsK β m k = true ∧ lsN β m K = nI k ∧ ∀ j, k < j → j < K → wsK β m j = false
  | 0, h => by obtain ⟨k, h1, -⟩ := h; omega
  | K + 1, h => by
    by_cases hk : wsK β m K = true
    · exact ⟨K, by omega, hk, by rw [lsN, if_pos hk], fun j a b => by omega⟩
    · obtain ⟨k, h1, h2⟩ := h
      have hne : k ≠ K := fun e => hk (e ▸ h2)
      obtain ⟨k', a, b, c, e⟩ := lsN_last K ⟨k, by omega, h2⟩
      refine ⟨k', by omega, b, by rw [lsN, if_neg hk]; exact c, fun j q1 q2 => ?_⟩
      by_cases z : j = K
      · subst z; simpa using hk
      · exact e j q1 (by omega)
theorem ln_mono {w r w' r' : Nat} (hm : m.testBit w = true) (hr : r < 4) (hr' : r' < 4) (hrol : rol β w r = true) (h : 4 * w + r < 4 * w' + r') : lnR β (mS m) w r < lnR β (mS m) w' r' := by
  rcases Nat.lt_or_ge w w' with q | q
  · have h1 := lnR_le (β := β) (S := mS m) w (i := r + 1) (j := 4) (by omega)
    rw [lnR_y hrol] at h1
    have h2 := lnU_le (β := β) (S := mS m) (i := w + 1) (j := w') q
    rw [lnU_y (S := mS m) hm] at h2
    have h3 := lnR_le (β := β) (S := mS m) w' (i := 0) (j := r') (by omega)
    rw [lnR_0] at h3
    omega
  · obtain rfl : w = w' := by omega
    have h1 := lnR_le (β := β) (S := mS m) w (i := r + 1) (j := r') (by omega)
    rw [lnR_y hrol] at h1
    omega
theorem role_ex (hw : WF β) {w : Nat} (h : w < nW β) : ∃ r, r < 4 ∧ rol β w r = true := by
  obtain ⟨-, h2, h3⟩ := rolN hw h
  unfold rol
  generalize (β 42 w).toNatClampNeg = R at *
  have : ∀ R, R ≤ 15 → 1 ≤ R → ∃ r, r < 4 ∧ R.testBit r = true := by decide
  exact this R h2 h3
theorem ls_ok (hw : WF β) {σ : ai_M} (h : σ 14 11 = lsN β m (4 * nW β)) : LSl σ β m := by
  have h4 := hw.1.2.2.2.2.2.2.2.2
  intro w r hlt hr hm hrol
  have hk : wsK β m (4 * w + r) = true := by
    unfold wsK
    rw [show (4 * w + r) / 4 = w by omega, show (4 * w + r) % 4 = r by omega, hm, hrol]; rfl
  obtain ⟨k, a1, a2, a3, a4⟩ := lsN_last (β := β) (m := m) (4 * nW β) ⟨4 * w + r, by omega, hk⟩
  rw [h, a3, nI_eq (by omega) (by omega)]
  have hp := len_r (β := β) (S := mS m) hlt hm hr hrol
  constructor
  · intro e
    subst e
    apply Decidable.byContradiction
    intro hne
    have hlt2 : lnR β (mS m) w r + 1 < (pls β (mS m)).length := by
      have : (plM β m).length = (pls β (mS m)).length := rfl
      omega
    obtain ⟨⟨w', o'⟩, ho⟩ : ∃ z, (pls β (mS m))[lnR β (mS m) w r + 1]? = some z := ⟨_, List.getElem?_eq_getElem hlt2⟩
    obtain ⟨b1, b2, b3⟩ := pl_inv ho
    have key : ∃ r', r' < 4 ∧ rol β w' r' = true ∧ lnR β (mS m) w r < lnR β (mS m) w' r' := by
      rcases b3 with ⟨-, b3⟩ | ⟨r', -, c1, c2, c3⟩
      · obtain ⟨r', c1, c2⟩ := role_ex hw b1
        have := lnR_le (β := β) (S := mS m) w' (i := 0) (j := r') (by omega)
        rw [lnR_0] at this
        exact ⟨r', c1, c2, by omega⟩
      · exact ⟨r', c1, c2, by omega⟩
    obtain ⟨r', c1, c2, c3⟩ := key
    have hgt : 4 * w + r < 4 * w' + r' := by
      rcases Nat.lt_trichotomy (4 * w + r) (4 * w' + r') with q | q | q
      · exact q
      · obtain ⟨rfl, rfl⟩ : w = w' ∧ r = r' := by omega
        omega
      · have := ln_mono (β := β) (m := m) b2 c1 hr c2 q
        omega
    have := a4 (4 * w' + r') hgt (by omega)
    unfold wsK at this
    rw [show (4 * w' + r') / 4 = w' by omega, show (4 * w' + r') % 4 = r' by omega, c2, show m.testBit w' = true from b2] at this
    cases this
  · intro e
    rcases Nat.lt_trichotomy k (4 * w + r) with q | q | q
    · have := a4 _ q (by omega)
      rw [hk] at this; cases this
    · exact q
    · unfold wsK at a2
      rw [Bool.and_eq_true] at a2
      have h1 := ln_mono (β := β) (m := m) (w := w) (r := r) (w' := k / 4) (r' := k % 4) hm hr (by omega) hrol (by omega)
      have h2 := len_r (β := β) (S := mS m) (w := k / 4) (r := k % 4) (by omega) a2.1 (by omega) a2.2
      have : (plM β m).length = (pls β (mS m)).length := rfl
      omega
end GV2
