/-! GIVINGS: places (a wish's unit, then its roles), values by place; all givings that go on from a prefix, in order -/
abbrev PLt : Type := List (Nat × Option Nat)
def rol (β : ai_M) (w r : Nat) : Bool := (β 42 w).toNatClampNeg.testBit r
def plW (β : ai_M) (w : Nat) : PLt := (w, none) :: ((List.range 4).filter (rol β w)).map (fun r => (w, some r))
def pls (β : ai_M) (S : Nat → Bool) : PLt := (List.range (nW β)).flatMap (fun w => if S w then plW β w else [])
def okB (β : ai_M) (w u r f : Nat) : Bool := canB β f u r && (decide (β 43 w = 0) || decide (β 36 f = β 43 w)) && (decide (β 45 (4 * w + r) = -6) || decide (β 45 (4 * w + r) = nI f))
def kdB (β : ai_M) (w u : Nat) : Bool := decide (β 37 u = β 41 w)
def isU (pl : PLt) (p : Nat) : Bool := match pl[p]? with
  | some (_, none) => true
  | _ => false
/-- v is taken at a place of that kind -/
def tkB (pl : PLt) (vs : List Nat) (b : Bool) (v : Nat) : Bool := (List.range vs.length).any (fun p => (isU pl p == b) && vs.getD p 0 == v)
/-- the last unit place up to k -/
def upI (pl : PLt) : Nat → Nat
  | 0 => 0
  | k + 1 => if isU pl (k + 1) then k + 1 else upI pl k
/-- the unit of the last unit place -/
def cuB (pl : PLt) (vs : List Nat) : Nat := vs.getD (upI pl vs.length) 0
def fit (β : ai_M) (pl : PLt) (vs : List Nat) (v : Nat) : Bool := match pl[vs.length]? with
  | some (w, none) => kdB β w v && !(tkB pl vs true v)
  | some (w, some r) => okB β w (cuB pl vs) r v && !(tkB pl vs false v)
  | none => false
def lim (β : ai_M) (pl : PLt) (k : Nat) : Nat := match pl[k]? with
  | some (_, none) => nU β
  | _ => nF β
def sub (β : ai_M) (pl : PLt) : Nat → List Nat → List (List Nat)
  | 0, vs => [vs]
  | d + 1, vs => (List.range (lim β pl vs.length)).flatMap (fun v => if fit β pl vs v then sub β pl d (vs ++ [v]) else [])
/-- those whose next value is v0 at least -/
def subF (β : ai_M) (pl : PLt) (d : Nat) (vs : List Nat) (v0 : Nat) : List (List Nat) := (List.range' v0 (lim β pl vs.length - v0)).flatMap (fun v => if fit β pl vs v then sub β pl d (vs ++ [v]) else [])
theorem sub_F (β : ai_M) (pl : PLt) (d : Nat) (vs : List Nat) : sub β pl (d + 1) vs = subF β pl d vs 0 := by
  unfold subF
  rw [sub, List.range_eq_range']
  rfl
theorem subF_ge {β : ai_M} {pl : PLt} {d : Nat} {vs : List Nat} {v : Nat} (h : lim β pl vs.length ≤ v) : subF β pl d vs v = [] := by
  unfold subF
  rw [show lim β pl vs.length - v = 0 by omega]
  rfl
theorem subF_lt {β : ai_M} {pl : PLt} {d : Nat} {vs : List Nat} {v : Nat} (h : v < lim β pl vs.length) : subF β pl d vs v = (if fit β pl vs v then sub β pl d (vs ++ [v]) else []) ++ subF β pl d vs (v + 1) := by
  unfold subF
  rw [show lim β pl vs.length - v = (lim β pl vs.length - (v + 1)) + 1 by omega, List.range'_succ, List.flatMap_cons]
/-- steps from a wish's place, the shorter way round -/
def stp (n a p : Nat) : Nat := min (if a < p then p - a else a - p) (n - (if a < p then p - a else a - p))
def cst (β : ai_M) (w f : Nat) : Nat := stp (nF β) f (β 44 w).toNatClampNeg
def mvB (β : ai_M) (mv : Bool) (w u r f : Nat) : Nat := if mv && decide (β 46 w ≠ -6) && !(decide (β 46 w = nI u) && decide (β 47 (4 * w + r) = nI f)) then 1 else 0
/-- a place's own cost and moves, its value v behind the prefix vs -/
def pc1 (β : ai_M) (pl : PLt) (vs : List Nat) (v : Nat) : Nat := match pl[vs.length]? with
  | some (w, some _) => cst β w v
  | _ => 0
def pm1 (β : ai_M) (mv : Bool) (pl : PLt) (vs : List Nat) (v : Nat) : Nat := match pl[vs.length]? with
  | some (w, some r) => mvB β mv w (cuB pl vs) r v
  | _ => 0
/-- cost and moves of a prefix -/
def csP (β : ai_M) (pl : PLt) (vs : List Nat) : Nat := ((List.range vs.length).map (fun p => pc1 β pl (vs.take p) (vs.getD p 0))).sum
def mvP (β : ai_M) (mv : Bool) (pl : PLt) (vs : List Nat) : Nat := ((List.range vs.length).map (fun p => pm1 β mv pl (vs.take p) (vs.getD p 0))).sum
def wtP (β : ai_M) (mv : Bool) (pl : PLt) (vs : List Nat) : Nat := 1000 * mvP β mv pl vs + csP β pl vs
theorem sumS {f g : Nat → Nat} {n : Nat} (h : ∀ i, i < n → f i = g i) : ((List.range n).map f).sum = ((List.range n).map g).sum := by
  congr 1
  apply List.map_congr_left
  intro i hi
  exact h i (List.mem_range.mp hi)
theorem csP_S (β : ai_M) (pl : PLt) (vs : List Nat) (v : Nat) : csP β pl (vs ++ [v]) = csP β pl vs + pc1 β pl vs v := by
  unfold csP
  rw [List.length_append, List.length_singleton, List.range_succ, List.map_append, List.sum_append]
  congr 1
  · refine sumS (fun i hi => ?_)
    rw [List.take_append_of_le_length (by omega)]
    congr 1
    simp [List.getD_eq_getElem?_getD, List.getElem?_append_left hi]
  · simp [List.getD_eq_getElem?_getD]
theorem mvP_S (β : ai_M) (mv : Bool) (pl : PLt) (vs : List Nat) (v : Nat) : mvP β mv pl (vs ++ [v]) = mvP β mv pl vs + pm1 β mv pl vs v := by
  unfold mvP
  rw [List.length_append, List.length_singleton, List.range_succ, List.map_append, List.sum_append]
  congr 1
  · refine sumS (fun i hi => ?_)
    rw [List.take_append_of_le_length (by omega)]
    congr 1
    simp [List.getD_eq_getElem?_getD, List.getElem?_append_left hi]
  · simp [List.getD_eq_getElem?_getD]
theorem wtP_S (β : ai_M) (mv : Bool) (pl : PLt) (vs : List Nat) (v : Nat) : wtP β mv pl (vs ++ [v]) = wtP β mv pl vs + (1000 * pm1 β mv pl vs v + pc1 β pl vs v) := by
  unfold wtP
  rw [csP_S, mvP_S]
  omega
/-- whatever goes on from vs weighs no less -/
theorem sub_wt {β : ai_M} {mv : Bool} {pl : PLt} : ∀ (d : Nat) (vs x : List Nat), x ∈ sub β pl d vs → wtP β mv pl vs ≤ wtP β mv pl x
  | 0, vs, x, h => by
    rw [sub, List.mem_singleton] at h
    subst h; exact Nat.le_refl _
  | d + 1, vs, x, h => by
    rw [sub] at h
    obtain ⟨v, -, h2⟩ := List.mem_flatMap.mp h
    split at h2
    · have := sub_wt (mv := mv) d (vs ++ [v]) x h2
      rw [wtP_S] at this
      omega
    · cases h2
/-- the first least -/
def stB (wt : List Nat → Nat) (b : Option (List Nat)) (x : List Nat) : Option (List Nat) := match b with
  | none => some x
  | some y => if wt x < wt y then some x else some y
def bst (wt : List Nat → Nat) (b : Option (List Nat)) (l : List (List Nat)) : Option (List Nat) := l.foldl (stB wt) b
theorem bst_nil (wt : List Nat → Nat) (b : Option (List Nat)) : bst wt b [] = b := rfl
theorem bst_app (wt : List Nat → Nat) (b : Option (List Nat)) (l m : List (List Nat)) : bst wt b (l ++ m) = bst wt (bst wt b l) m := List.foldl_append
/-- nothing better: it stays -/
theorem bst_no {wt : List Nat → Nat} {y : List Nat} : ∀ {l : List (List Nat)}, (∀ x ∈ l, wt y ≤ wt x) → bst wt (some y) l = some y
  | [], _ => rfl
  | x :: l, h => by
    show bst wt (stB wt (some y) x) l = _
    rw [stB, if_neg (by have := h x List.mem_cons_self; omega)]
    exact bst_no (fun z hz => h z (List.mem_cons_of_mem _ hz))
/-- the wishes, all of them -/
abbrev allS : Nat → Bool := fun _ => true
def gvA (β : ai_M) (S : Nat → Bool) : List (List Nat) := sub β (pls β S) (pls β S).length []
def bestB (β : ai_M) (mv : Bool) : Option (List Nat) := bst (wtP β mv (pls β allS)) none (gvA β allS)
/-- units by wish, feet by slot, of values by places -/
def uR (pl : PLt) (x : List Nat) : Nat → Nat → Int32
  | 0, _ => -6
  | n + 1, w => match pl[n]? with
    | some (w', none) => if w = w' then nI (x.getD n 0) else uR pl x n w
    | _ => uR pl x n w
def fR (pl : PLt) (x : List Nat) : Nat → Nat → Int32
  | 0, _ => -6
  | n + 1, k => match pl[n]? with
    | some (w', some r) => if k = 4 * w' + r then nI (x.getD n 0) else fR pl x n k
    | _ => fR pl x n k
def uOf (pl : PLt) (x : List Nat) (w : Nat) : Int32 := uR pl x x.length w
def fOf (pl : PLt) (x : List Nat) (k : Nat) : Int32 := fR pl x x.length k
/-- THE BEST GIVING as the cache holds it -/
def Bst : BS := fun β c U F => match bestB β false with
  | none => c = -6 ∧ (∀ w, w < 4 → U w = -6) ∧ ∀ k, k < 16 → F k = -6
  | some x => c = nI (csP β (pls β allS) x) ∧ (∀ w, w < 4 → U w = uOf (pls β allS) x w) ∧ ∀ k, k < 16 → F k = fOf (pls β allS) x k
