/-! where the places lie; what goes on from a prefix; lower bounds -/
abbrev lnU (β : ai_M) (S : Nat → Bool) (w : Nat) : Nat := (plsU β S w).length
abbrev lnR (β : ai_M) (S : Nat → Bool) (w j : Nat) : Nat := lnU β S w + (plR β w j).length
section PL
variable {β : ai_M} {S : Nat → Bool}
theorem lnR_0 (w : Nat) : lnR β S w 0 = lnU β S w + 1 := rfl
theorem lnR_y {w j : Nat} (h : rol β w j = true) : lnR β S w (j + 1) = lnR β S w j + 1 := by
  unfold lnR; rw [plR_S, if_pos h, List.length_append]; rfl
theorem lnR_n {w j : Nat} (h : rol β w j = false) : lnR β S w (j + 1) = lnR β S w j := by
  unfold lnR; rw [plR_S, if_neg (by rw [h]; decide), List.append_nil]
theorem lnR_le (w : Nat) {i j : Nat} (h : i ≤ j) : lnR β S w i ≤ lnR β S w j := by
  induction j with
  | zero => obtain rfl : i = 0 := by omega
            exact Nat.le_refl _
  | succ j ih =>
    rcases Nat.lt_or_ge i (j + 1) with q | q
    · have := ih (by omega)
      cases hr : rol β w j
      · rw [lnR_n hr]; exact this
      · rw [lnR_y hr]; omega
    · obtain rfl : i = j + 1 := by omega
      exact Nat.le_refl _
theorem lnU_y {w : Nat} (h : S w = true) : lnU β S (w + 1) = lnR β S w 4 := by
  unfold lnU lnR; rw [plsU_S, if_pos h, List.length_append]
theorem lnU_n {w : Nat} (h : S w = false) : lnU β S (w + 1) = lnU β S w := by
  unfold lnU; rw [plsU_S, if_neg (by rw [h]; decide), List.append_nil]
theorem lnU_le {i j : Nat} (h : i ≤ j) : lnU β S i ≤ lnU β S j := by
  induction j with
  | zero => obtain rfl : i = 0 := by omega
            exact Nat.le_refl _
  | succ j ih =>
    rcases Nat.lt_or_ge i (j + 1) with q | q
    · have := ih (by omega)
      cases hr : S j
      · rw [lnU_n hr]; exact this
      · have h2 := lnR_le (β := β) (S := S) j (i := 0) (j := 4) (by omega)
        rw [lnR_0] at h2
        rw [lnU_y hr]; omega
    · obtain rfl : i = j + 1 := by omega
      exact Nat.le_refl _
theorem plR_pre (w : Nat) {i j : Nat} (h : i ≤ j) : plR β w i <+: plR β w j := by
  induction j with
  | zero => obtain rfl : i = 0 := by omega
            exact List.prefix_refl _
  | succ j ih =>
    rcases Nat.lt_or_ge i (j + 1) with q | q
    · rw [plR_S]; exact (ih (by omega)).trans (List.prefix_append _ _)
    · obtain rfl : i = j + 1 := by omega
      exact List.prefix_refl _
theorem plsU_pre {i j : Nat} (h : i ≤ j) : plsU β S i <+: plsU β S j := by
  induction j with
  | zero => obtain rfl : i = 0 := by omega
            exact List.prefix_refl _
  | succ j ih =>
    rcases Nat.lt_or_ge i (j + 1) with q | q
    · rw [plsU_S]; exact (ih (by omega)).trans (List.prefix_append _ _)
    · obtain rfl : i = j + 1 := by omega
      exact List.prefix_refl _
theorem pre_get {a b : PLt} (h : a <+: b) {i : Nat} {x : Nat × Option Nat} (hx : a[i]? = some x) : b[i]? = some x := by
  obtain ⟨t, rfl⟩ := h
  rw [List.getElem?_append_left (List.getElem?_eq_some_iff.mp hx).1]; exact hx
theorem pl_unit {w n : Nat} (hw : w < n) (h : S w = true) : (plsU β S n)[lnU β S w]? = some (w, none) := by
  refine pre_get (plsU_pre (i := w + 1) hw) ?_
  rw [plsU_S, if_pos h, List.getElem?_append_right (Nat.le_refl _), Nat.sub_self]
  rfl
theorem pl_role {w r n : Nat} (hw : w < n) (h : S w = true) (hr : r < 4) (hrol : rol β w r = true) : (plsU β S n)[lnR β S w r]? = some (w, some r) := by
  refine pre_get (plsU_pre (i := w + 1) hw) ?_
  rw [plsU_S, if_pos h, List.getElem?_append_right (Nat.le_add_right _ _), Nat.add_sub_cancel_left]
  refine pre_get (plR_pre w (i := r + 1) hr) ?_
  rw [plR_S, if_pos hrol, List.getElem?_append_right (Nat.le_refl _), Nat.sub_self]
  rfl
theorem plR_inv {w : Nat} : ∀ {j p w' : Nat} {o : Option Nat}, (plR β w j)[p]? = some (w', o) → w' = w ∧ ((o = none ∧ p = 0) ∨ ∃ r, o = some r ∧ r < j ∧ rol β w r = true ∧ p = (plR β w r).length) := by
  intro j
  induction j with
  | zero =>
    intro p w' o h
    cases p with
    | zero => cases h; exact ⟨rfl, Or.inl ⟨rfl, rfl⟩⟩
    | succ p => cases h
  | succ j ih =>
    intro p w' o h
    rw [plR_S] at h
    rcases Nat.lt_or_ge p (plR β w j).length with q | q
    · rw [List.getElem?_append_left q] at h
      obtain ⟨h1, h2⟩ := ih h
      refine ⟨h1, ?_⟩
      rcases h2 with h2 | ⟨r, a, b, c⟩
      · exact Or.inl h2
      · exact Or.inr ⟨r, a, by omega, c⟩
    · rw [List.getElem?_append_right q] at h
      by_cases hr : rol β w j
      · rw [if_pos hr] at h
        cases hz : p - (plR β w j).length with
        | zero => rw [hz] at h; cases h; exact ⟨rfl, Or.inr ⟨j, rfl, by omega, hr, by omega⟩⟩
        | succ z => rw [hz] at h; cases h
      · rw [if_neg hr] at h; cases h
theorem pl_inv : ∀ {n p w : Nat} {o : Option Nat}, (plsU β S n)[p]? = some (w, o) → w < n ∧ S w = true ∧ ((o = none ∧ p = lnU β S w) ∨ ∃ r, o = some r ∧ r < 4 ∧ rol β w r = true ∧ p = lnR β S w r) := by
  intro n
  induction n with
  | zero => intro p w o h; simp [plsU] at h
  | succ n ih =>
    intro p w o h
    rw [plsU_S] at h
    rcases Nat.lt_or_ge p (lnU β S n) with q | q
    · rw [List.getElem?_append_left q] at h
      obtain ⟨h1, h2⟩ := ih h
      exact ⟨by omega, h2⟩
    · rw [List.getElem?_append_right q] at h
      by_cases hs : S n
      · rw [if_pos hs] at h
        obtain ⟨rfl, h2⟩ := plR_inv h
        refine ⟨by omega, hs, ?_⟩
        rcases h2 with ⟨h2, h3⟩ | ⟨r, a, b, c, e⟩
        · exact Or.inl ⟨h2, by unfold lnU at q ⊢; omega⟩
        · exact Or.inr ⟨r, a, b, c, by unfold lnR; unfold lnU at q ⊢; omega⟩
      · rw [if_neg hs] at h; cases h
theorem pl_nodup {n p q : Nat} {z : Nat × Option Nat} (h1 : (plsU β S n)[p]? = some z) (h2 : (plsU β S n)[q]? = some z) : p = q := by
  obtain ⟨w, o⟩ := z
  obtain ⟨-, -, a⟩ := pl_inv h1
  obtain ⟨-, -, b⟩ := pl_inv h2
  rcases a with ⟨rfl, a⟩ | ⟨r, rfl, -, -, a⟩ <;> rcases b with ⟨e, b⟩ | ⟨r', e, -, -, b⟩ <;> cases e <;> omega
end PL
/-- all givings that go on from a prefix -/
def gon (β : ai_M) (S : Nat → Bool) (vs : List Nat) : List (List Nat) := sub β (pls β S) ((pls β S).length - vs.length) vs
theorem pls_U (β : ai_M) (S : Nat → Bool) : pls β S = plsU β S (nW β) := rfl
section GON
variable {β : ai_M} {S : Nat → Bool} {vs : List Nat}
theorem gon_end (h : vs.length = lnU β S (nW β)) : gon β S vs = [vs] := by
  unfold gon
  rw [show (pls β S).length - vs.length = 0 from by rw [h]; exact Nat.sub_self _]
  rfl
theorem gon_F (h : vs.length < (pls β S).length) : gon β S vs = subF β (pls β S) ((pls β S).length - vs.length - 1) vs 0 := by
  unfold gon
  rw [← sub_F]
  congr 1; omega
theorem gonF_lt {v : Nat} (hv : v < lim β (pls β S) vs.length) : subF β (pls β S) ((pls β S).length - vs.length - 1) vs v = (if fit β (pls β S) vs v then gon β S (vs ++ [v]) else []) ++ subF β (pls β S) ((pls β S).length - vs.length - 1) vs (v + 1) := by
  rw [subF_lt hv]
  congr 1
  unfold gon
  rw [List.length_append, List.length_singleton, Nat.sub_add_eq]
theorem gon_mem (h : vs.length < (pls β S).length) {x : List Nat} (hx : x ∈ gon β S vs) : ∃ v, v < lim β (pls β S) vs.length ∧ fit β (pls β S) vs v = true ∧ x ∈ gon β S (vs ++ [v]) := by
  rw [gon_F h] at hx
  unfold subF at hx
  obtain ⟨v, hv, h2⟩ := List.mem_flatMap.mp hx
  rw [List.mem_range'] at hv
  obtain ⟨i, hi, rfl⟩ := hv
  split at h2
  · rename_i hf
    refine ⟨_, by omega, hf, ?_⟩
    unfold gon
    rw [List.length_append, List.length_singleton, Nat.sub_add_eq]; exact h2
  · cases h2
/-- the last unit's place before a role's -/
theorem up_role {w r : Nat} (hw : w < nW β) (h : S w = true) (hr : r < 4) (hrol : rol β w r = true) : upI (pls β S) (lnR β S w r) = lnU β S w := by
  have key : ∀ i, lnU β S w + i ≤ lnR β S w r → upI (pls β S) (lnU β S w + i) = lnU β S w := by
    intro i
    induction i with
    | zero =>
      intro _
      have hu := (isU_iff (pl_unit (β := β) (S := S) hw h)).mpr rfl
      cases hz : lnU β S w with
      | zero => rfl
      | succ z => rw [hz] at hu; rw [Nat.add_zero, upI, pls_U, if_pos hu]
    | succ i ih =>
      intro hi
      have hno : isU (pls β S) (lnU β S w + i + 1) = false := by
        cases hq : isU (pls β S) (lnU β S w + i + 1) with
        | false => rfl
        | true =>
          unfold isU at hq
          split at hq
          · rename_i w' e
            obtain ⟨a, b, c⟩ := pl_inv e
            rcases c with ⟨-, c⟩ | ⟨r', c, -⟩
            · rcases Nat.lt_trichotomy w' w with q | q | q
              · have := lnU_le (β := β) (S := S) (i := w') (j := w) (by omega); omega
              · subst q; omega
              · have h1 := lnU_le (β := β) (S := S) (i := w + 1) (j := w') q
                rw [lnU_y h] at h1
                have h2 := lnR_le (β := β) (S := S) w (i := r + 1) (j := 4) hr
                rw [lnR_y hrol] at h2
                omega
            · cases c
          · cases hq
      show upI (pls β S) (lnU β S w + i + 1) = _
      rw [upI, if_neg (by rw [hno]; decide)]
      exact ih (by omega)
  have := key (lnR β S w r - lnU β S w) (by unfold lnR; omega)
  rw [show lnU β S w + (lnR β S w r - lnU β S w) = lnR β S w r by unfold lnR; omega] at this
  exact this
theorem cu_role {w r : Nat} (hw : w < nW β) (h : S w = true) (hr : r < 4) (hrol : rol β w r = true) (hl : vs.length = lnR β S w r) : cuB (pls β S) vs = vs.getD (lnU β S w) 0 := by
  unfold cuB
  rw [hl, up_role hw h hr hrol]
theorem getD_snoc {i v : Nat} (h : i < vs.length) : (vs ++ [v]).getD i 0 = vs.getD i 0 := by
  simp [List.getD_eq_getElem?_getD, List.getElem?_append_left h]
theorem getD_last {v : Nat} : (vs ++ [v]).getD vs.length 0 = v := by
  simp [List.getD_eq_getElem?_getD]
theorem tkB_S (pl : PLt) (vs : List Nat) (b : Bool) (x v : Nat) : tkB pl (vs ++ [x]) b v = (tkB pl vs b v || ((isU pl vs.length == b) && x == v)) := by
  unfold tkB
  rw [List.length_append, List.length_singleton, List.range_succ, List.any_append]
  congr 1
  · have : ∀ l : List Nat, (∀ p ∈ l, p < vs.length) → l.any (fun p => (isU pl p == b) && (vs ++ [x]).getD p 0 == v) = l.any (fun p => (isU pl p == b) && vs.getD p 0 == v) := by
      intro l
      induction l with
      | nil => intro _; rfl
      | cons p l ih =>
        intro hl
        rw [List.any_cons, List.any_cons, ih (fun q hq => hl q (List.mem_cons_of_mem _ hq)), getD_snoc (hl p List.mem_cons_self)]
    exact this _ (fun p hp => List.mem_range.mp hp)
  · rw [List.any_cons, List.any_nil, Bool.or_false, getD_last]
theorem fit_u {w v : Nat} (hw : w < nW β) (h : S w = true) (hl : vs.length = lnU β S w) : fit β (pls β S) vs v = (kdB β w v && !(tkB (pls β S) vs true v)) := by
  unfold fit
  rw [hl, pls_U, pl_unit hw h]
theorem fit_r {w r v : Nat} (hw : w < nW β) (h : S w = true) (hr : r < 4) (hrol : rol β w r = true) (hl : vs.length = lnR β S w r) : fit β (pls β S) vs v = (okB β w (vs.getD (lnU β S w) 0) r v && !(tkB (pls β S) vs false v)) := by
  unfold fit
  rw [cu_role hw h hr hrol hl]
  rw [hl, pls_U, pl_role hw h hr hrol]
theorem wt_u {mv : Bool} {w v : Nat} (hw : w < nW β) (h : S w = true) (hl : vs.length = lnU β S w) : wtP β mv (pls β S) (vs ++ [v]) = wtP β mv (pls β S) vs := by
  rw [wtP_S]
  unfold pm1 pc1
  rw [hl, pls_U, pl_unit hw h]
  rfl
theorem wt_r {mv : Bool} {w r v : Nat} (hw : w < nW β) (h : S w = true) (hr : r < 4) (hrol : rol β w r = true) (hl : vs.length = lnR β S w r) : wtP β mv (pls β S) (vs ++ [v]) = wtP β mv (pls β S) vs + wgB β mv w (vs.getD (lnU β S w) 0) r v := by
  rw [wtP_S]
  unfold pm1 pc1
  rw [cu_role hw h hr hrol hl]
  rw [hl, pls_U, pl_role hw h hr hrol]
  unfold wgB
  simp only []
  omega
theorem len_u {w : Nat} (hw : w < nW β) (h : S w = true) : lnU β S w < (pls β S).length := (List.getElem?_eq_some_iff.mp (pl_unit hw h)).1
theorem len_r {w r : Nat} (hw : w < nW β) (h : S w = true) (hr : r < 4) (hrol : rol β w r = true) : lnR β S w r < (pls β S).length := (List.getElem?_eq_some_iff.mp (pl_role hw h hr hrol)).1
end GON
/-- no less than this do the last n roles of a wish weigh, then the last n wishes -/
def rsB (β : ai_M) (mv : Bool) (w u : Nat) : Nat → Nat
  | 0 => 0
  | n + 1 => rsB β mv w u n + lfB β mv w u (3 - n)
def mnU (β : ai_M) (mv : Bool) (w : Nat) : Nat → Nat
  | 0 => 1000000
  | u + 1 => min (mnU β mv w u) (rsB β mv w u 4)
def ltB (β : ai_M) (mv : Bool) (S : Nat → Bool) (w : Nat) : Nat := if S w then mnU β mv w (nU β) else 0
def wsB (β : ai_M) (mv : Bool) (S : Nat → Bool) : Nat → Nat
  | 0 => 0
  | n + 1 => wsB β mv S n + ltB β mv S (nW β - (n + 1))
theorem mnU_le {β : ai_M} {mv : Bool} {w : Nat} : ∀ {n u : Nat}, u < n → mnU β mv w n ≤ rsB β mv w u 4
  | 0, u, h => by omega
  | n + 1, u, h => by
    unfold mnU
    rcases Nat.lt_or_ge u n with q | q
    · have := mnU_le (β := β) (mv := mv) (w := w) q; omega
    · obtain rfl : u = n := by omega
      omega
theorem mnU_top {β : ai_M} {mv : Bool} {w : Nat} : ∀ n, mnU β mv w n ≤ 1000000
  | 0 => Nat.le_refl _
  | n + 1 => by unfold mnU; have := mnU_top (β := β) (mv := mv) (w := w) n; omega
theorem lfB_top {β : ai_M} (mv : Bool) (w u r : Nat) : lfB β mv w u r ≤ 1000000 := by
  unfold lfB
  have := lfN_le (β := β) mv w u r (nF β)
  split <;> omega
theorem rsB_top {β : ai_M} (mv : Bool) (w u : Nat) : ∀ n, rsB β mv w u n ≤ 1000000 * n
  | 0 => Nat.le_refl _
  | n + 1 => by
    have := rsB_top (β := β) mv w u n
    have h2 := lfB_top (β := β) mv w u (3 - n)
    unfold rsB; omega
theorem wsB_top {β : ai_M} (mv : Bool) (S : Nat → Bool) : ∀ n, wsB β mv S n ≤ 1000000 * n
  | 0 => Nat.le_refl _
  | n + 1 => by
    have := wsB_top (β := β) mv S n
    have h2 : ltB β mv S (nW β - (n + 1)) ≤ 1000000 := by unfold ltB; have := mnU_top (β := β) (mv := mv) (w := nW β - (n + 1)) (nU β); split <;> omega
    unfold wsB; omega
theorem lfN_low {β : ai_M} {mv : Bool} {w u r : Nat} : ∀ {n f : Nat}, f < n → opB β w u r f = true → lfN β mv w u r n ≤ wgB β mv w u r f
  | 0, f, h, _ => by omega
  | n + 1, f, h, ho => by
    unfold lfN
    rcases Nat.lt_or_ge f n with q | q
    · have := lfN_low (β := β) (mv := mv) q ho
      split <;> omega
    · obtain rfl : f = n := by omega
      rw [if_pos ho]; omega
theorem rs_skip {β : ai_M} {mv : Bool} {w u : Nat} : ∀ {n r r' : Nat}, r + n = 4 → r ≤ r' → r' ≤ 4 → (∀ i, r ≤ i → i < r' → rol β w i = false) → rsB β mv w u n = rsB β mv w u (4 - r') := by
  intro n
  induction n with
  | zero => intro r r' h1 h2 h3 _; rw [show 4 - r' = 0 by omega]
  | succ n ih =>
    intro r r' h1 h2 h3 h4
    rcases Nat.lt_or_ge r r' with q | q
    · rw [rsB, ih (r := r + 1) (r' := r') (by omega) q h3 (fun i a b => h4 i (by omega) b)]
      have : lfB β mv w u (3 - n) = 0 := by unfold lfB; rw [show 3 - n = r by omega, h4 r (Nat.le_refl r) q]; rfl
      omega
    · rw [show 4 - r' = n + 1 by omega]
theorem ln_skip {β : ai_M} {S : Nat → Bool} {w r : Nat} : ∀ {r' : Nat}, r ≤ r' → (∀ i, r ≤ i → i < r' → rol β w i = false) → lnR β S w r' = lnR β S w r := by
  intro r'
  induction r' with
  | zero => intro h1 _; rw [show r = 0 by omega]
  | succ r' ih =>
    intro h1 h2
    rcases Nat.lt_or_ge r (r' + 1) with q | q
    · rw [lnR_n (h2 r' (by omega) (by omega)), ih (by omega) (fun i a b => h2 i a (by omega))]
    · rw [show r = r' + 1 by omega]
theorem nxR_spec (p : Nat → Bool) : ∀ n r, r ≤ nxR p r n ∧ nxR p r n ≤ r + n ∧ (∀ i, r ≤ i → i < nxR p r n → p i = false) ∧ (nxR p r n < r + n → p (nxR p r n) = true)
  | 0, r => ⟨Nat.le_refl r, Nat.le_refl r, fun i a b => by unfold nxR at b; omega, fun a => by unfold nxR at a; omega⟩
  | n + 1, r => by
    unfold nxR
    by_cases h : p r
    · rw [if_pos h]
      exact ⟨Nat.le_refl r, by omega, fun i a b => by omega, fun _ => h⟩
    · rw [if_neg h]
      obtain ⟨h1, h2, h3, h4⟩ := nxR_spec p n (r + 1)
      refine ⟨by omega, by omega, fun i a b => ?_, fun a => h4 (by omega)⟩
      rcases Nat.lt_or_ge r i with q | q
      · exact h3 i q b
      · obtain rfl : i = r := by omega
        simpa using h
section LOW
variable {β : ai_M} {S : Nat → Bool} {mv : Bool}
theorem op_of {w u r f : Nat} (hu : u < nU β) (hk : kdB β w u = true) (hf : f < nF β) : opB β w u r f = okB β w u r f := by
  unfold opB
  rw [hk]; simp [hu, hf]
theorem lowF {n w : Nat} (hwn : w + n + 1 = nW β) (hS : S w = true) (IU : ∀ vs x, vs.length = lnU β S (w + 1) → x ∈ gon β S vs → wtP β mv (pls β S) vs + wsB β mv S n ≤ wtP β mv (pls β S) x) :
    ∀ (j r : Nat), r + j = 4 → ∀ (vs : List Nat) (u : Nat) (x : List Nat), vs.length = lnR β S w r → vs.getD (lnU β S w) 0 = u → u < nU β → kdB β w u = true → x ∈ gon β S vs → wtP β mv (pls β S) vs + rsB β mv w u j + wsB β mv S n ≤ wtP β mv (pls β S) x := by
  intro j
  induction j with
  | zero =>
    intro r hr vs u x hl hu1 hu2 hk hx
    obtain rfl : r = 4 := by omega
    have := IU vs x (by rw [lnU_y hS]; exact hl) hx
    simpa [rsB] using this
  | succ j ih =>
    intro r hr vs u x hl hu1 hu2 hk hx
    cases hrol : rol β w r with
    | false =>
      have := ih (r + 1) (by omega) vs u x (by rw [lnR_n hrol]; exact hl) hu1 hu2 hk hx
      have e : lfB β mv w u (3 - j) = 0 := by unfold lfB; rw [show 3 - j = r by omega, hrol]; rfl
      rw [rsB, e]; omega
    | true =>
      have hlt : vs.length < (pls β S).length := by rw [hl]; exact len_r (by omega) hS (by omega) hrol
      obtain ⟨f, hf, hfit, hx2⟩ := gon_mem hlt hx
      have hpl : (pls β S)[vs.length]? = some (w, some r) := by rw [hl]; exact pl_role (by omega) hS (by omega) hrol
      rw [lim_f hpl] at hf
      rw [fit_r (by omega) hS (by omega) hrol hl, hu1, Bool.and_eq_true] at hfit
      have hlu : lnU β S w < vs.length := by rw [hl]; have := lnR_le (β := β) (S := S) w (i := 0) (j := r) (by omega); rw [lnR_0] at this; omega
      have := ih (r + 1) (by omega) (vs ++ [f]) u x (by rw [lnR_y hrol, List.length_append, hl]; rfl) (by rw [getD_snoc hlu]; exact hu1) hu2 hk hx2
      rw [wt_r (by omega) hS (by omega) hrol hl, hu1] at this
      have hlow := lfN_low (mv := mv) hf ((op_of hu2 hk hf).trans hfit.1)
      have e : lfB β mv w u (3 - j) = lfN β mv w u r (nF β) := by unfold lfB; rw [show 3 - j = r by omega, hrol]; rfl
      rw [rsB, e]; omega
theorem lowU : ∀ (n w : Nat), w + n = nW β → ∀ (vs x : List Nat), vs.length = lnU β S w → x ∈ gon β S vs → wtP β mv (pls β S) vs + wsB β mv S n ≤ wtP β mv (pls β S) x := by
  intro n
  induction n with
  | zero =>
    intro w hw vs x hl hx
    obtain rfl : w = nW β := by omega
    rw [gon_end hl, List.mem_singleton] at hx
    subst hx
    exact Nat.le_refl _
  | succ n ih =>
    intro w hw vs x hl hx
    have ew : nW β - (n + 1) = w := by omega
    cases hS : S w with
    | false =>
      have := ih (w + 1) (by omega) vs x (by rw [lnU_n hS]; exact hl) hx
      have e : ltB β mv S w = 0 := by unfold ltB; rw [hS]; rfl
      rw [wsB, ew, e]; omega
    | true =>
      have hlt : vs.length < (pls β S).length := by rw [hl]; exact len_u (by omega) hS
      obtain ⟨u, hu, hfit, hx2⟩ := gon_mem hlt hx
      have hpl : (pls β S)[vs.length]? = some (w, none) := by rw [hl]; exact pl_unit (by omega) hS
      rw [lim_u hpl] at hu
      rw [fit_u (by omega) hS hl, Bool.and_eq_true] at hfit
      have := lowF (mv := mv) (n := n) (w := w) (by omega) hS (fun vs x => ih (w + 1) (by omega) vs x) 4 0 rfl (vs ++ [u]) u x (by rw [lnR_0, List.length_append, hl]; rfl) (by rw [← hl]; exact getD_last) hu hfit.1 hx2
      rw [wt_u (by omega) hS hl] at this
      have h2 := mnU_le (β := β) (mv := mv) (w := w) hu
      have e : ltB β mv S w = mnU β mv w (nU β) := by unfold ltB; rw [hS]; rfl
      rw [wsB, ew, e]; omega
/-- a unit of another kind: nothing goes -/
theorem rs_bad {w u : Nat} (hw : WF β) (hlt : w < nW β) (hk : kdB β w u = false) : 1000000 ≤ rsB β mv w u 4 := by
  have hn : ∀ r n, lfN β mv w u r n = 1000000 := by
    intro r n
    induction n with
    | zero => rfl
    | succ n ih =>
      have : opB β w u r n = false := by unfold opB; rw [hk]; simp
      rw [lfN, if_neg (by rw [this]; decide)]; exact ih
  obtain ⟨-, h2, h3⟩ := rolN hw hlt
  have hex : ∃ r, r < 4 ∧ rol β w r = true := by
    unfold rol
    generalize (β 42 w).toNatClampNeg = R at *
    have : ∀ R, R ≤ 15 → 1 ≤ R → ∃ r, r < 4 ∧ R.testBit r = true := by decide
    exact this R h2 h3
  obtain ⟨r, hr, hrol⟩ := hex
  have e : lfB β mv w u r = 1000000 := by unfold lfB; rw [hrol]; exact hn r _
  have e4 : rsB β mv w u 4 = lfB β mv w u 3 + lfB β mv w u 2 + lfB β mv w u 1 + lfB β mv w u 0 := by simp [rsB]
  rw [e4]
  rcases (by omega : r = 0 ∨ r = 1 ∨ r = 2 ∨ r = 3) with q | q | q | q <;> subst q <;> omega
theorem sumL_le {f : Nat → Nat} {c : Nat} (h : ∀ i, f i ≤ c) : ∀ n, ((List.range n).map f).sum ≤ c * n
  | 0 => by simp
  | n + 1 => by
    rw [List.range_succ, List.map_append, List.sum_append]
    have := sumL_le h n
    have h2 := h n
    rw [Nat.mul_add]
    simp only [List.map_cons, List.map_nil, List.sum_cons, List.sum_nil]
    omega
theorem csP_top (h16 : nF β ≤ 16) (pl : PLt) (vs : List Nat) : csP β pl vs ≤ 16 * vs.length := by
  refine sumL_le (fun i => ?_) _
  unfold pc1
  split
  · rename_i w r e
    exact Nat.le_trans (stp_le _ _ _) h16
  · omega
theorem mvP_top (mv : Bool) (pl : PLt) (vs : List Nat) : mvP β mv pl vs ≤ 1 * vs.length := by
  refine sumL_le (fun i => ?_) _
  unfold pm1
  split
  · exact mvB_le _ _ _ _ _ _
  · omega
theorem wtP_top (h16 : nF β ≤ 16) (mv : Bool) (pl : PLt) (vs : List Nat) : wtP β mv pl vs ≤ 1016 * vs.length := by
  have h1 := csP_top h16 pl vs
  have h2 := mvP_top (β := β) mv pl vs
  unfold wtP
  omega
theorem sub_len {pl : PLt} : ∀ (d : Nat) (vs x : List Nat), x ∈ sub β pl d vs → x.length = vs.length + d
  | 0, vs, x, h => by rw [sub, List.mem_singleton] at h; subst h; rfl
  | d + 1, vs, x, h => by
    rw [sub] at h
    obtain ⟨v, -, h2⟩ := List.mem_flatMap.mp h
    split at h2
    · have := sub_len d _ x h2
      rw [List.length_append, List.length_singleton] at this; omega
    · cases h2
end LOW
