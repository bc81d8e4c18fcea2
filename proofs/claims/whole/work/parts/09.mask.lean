/-! sets of small numbers as bits of an int; fa_, fb_, s_ rows: out of kit/laws, pasted -/
theorem fa_and (a b : Nat) : nI a &&& nI b = nI (a &&& b) := by
  apply Int32.toBitVec_inj.1
  show BitVec.ofNat 32 a &&& BitVec.ofNat 32 b = BitVec.ofNat 32 (a &&& b)
  apply BitVec.eq_of_getLsbD_eq
  intro i hi
  simp [hi]
theorem fa_or (a b : Nat) : nI a ||| nI b = nI (a ||| b) := by
  apply Int32.toBitVec_inj.1
  show BitVec.ofNat 32 a ||| BitVec.ofNat 32 b = BitVec.ofNat 32 (a ||| b)
  apply BitVec.eq_of_getLsbD_eq
  intro i hi
  simp [hi]
theorem fa_xor (a b : Nat) : nI a ^^^ nI b = nI (a ^^^ b) := by
  apply Int32.toBitVec_inj.1
  show BitVec.ofNat 32 a ^^^ BitVec.ofNat 32 b = BitVec.ofNat 32 (a ^^^ b)
  apply BitVec.eq_of_getLsbD_eq
  intro i hi
  simp [hi]
theorem s_l : ∀ n, n < 32 → ((nI n &&& 31).toBitVec.smod 32).toNat = n := by decide +kernel
theorem s_u : ∀ n, n < 32 → (((nI n).toUInt32 &&& Int32.toUInt32 31).toBitVec % 32).toNat = n := by decide +kernel
def mk (p : Nat → Bool) : Nat → Nat
  | 0 => 0
  | n + 1 => (if p n then 2 ^ n else 0) + mk p n
theorem mk_lt (p : Nat → Bool) : ∀ n, mk p n < 2 ^ n
  | 0 => by simp [mk]
  | n + 1 => by
    have h := mk_lt p n
    unfold mk
    rw [Nat.pow_succ]
    split <;> omega
theorem mk_bit (p : Nat → Bool) : ∀ n i, (mk p n).testBit i = (decide (i < n) && p i)
  | 0, i => by simp [mk]
  | n + 1, i => by
    have h := mk_bit p n i
    have hl := mk_lt p n
    unfold mk
    by_cases hp : p n
    · rw [if_pos hp]
      rcases Nat.lt_trichotomy i n with hi | hi | hi
      · rw [Nat.testBit_two_pow_add_gt hi, h]
        simp [hi, Nat.lt_succ_of_lt hi]
      · subst hi
        rw [Nat.testBit_two_pow_add_eq, Nat.testBit_lt_two_pow hl]
        simp [hp]
      · rw [Nat.testBit_lt_two_pow]
        · simp [show ¬ i < n + 1 by omega]
        · have : 2 ^ (n + 1) ≤ 2 ^ i := Nat.pow_le_pow_right (by omega) (by omega)
          rw [Nat.pow_succ] at this
          omega
    · rw [if_neg hp, Nat.zero_add, h]
      rcases Nat.lt_trichotomy i n with hi | hi | hi
      · simp [hi, Nat.lt_succ_of_lt hi]
      · subst hi; simp [hp]
      · simp [show ¬ i < n by omega, show ¬ i < n + 1 by omega]
theorem mk_eq {p : Nat → Bool} {n a : Nat} (h : ∀ i, a.testBit i = (decide (i < n) && p i)) : a = mk p n :=
  Nat.eq_of_testBit_eq (fun i => by rw [h, mk_bit])
theorem mk_cong {p q : Nat → Bool} {n : Nat} (h : ∀ i, i < n → p i = q i) : mk p n = mk q n :=
  mk_eq (fun i => by
    rw [mk_bit]
    by_cases hi : i < n
    · rw [h i hi]
    · simp [hi])
theorem mk_of {a n : Nat} (h : a < 2 ^ n) : a = mk (fun i => a.testBit i) n := mk_eq (fun i => by
  by_cases hi : i < n
  · simp [hi]
  · have : 2 ^ n ≤ 2 ^ i := Nat.pow_le_pow_right (by omega) (by omega)
    rw [Nat.testBit_lt_two_pow (by omega)]; simp [hi])
theorem mk_small {p : Nat → Bool} {n : Nat} (hn : n ≤ 16) : mk p n < 65536 := Nat.lt_of_lt_of_le (mk_lt p n) (Nat.pow_le_pow_right (by omega) hn : 2 ^ n ≤ 2 ^ 16)
/-- one bit of a number -/
theorem bit_at {a f : Nat} (ha : a < 2 ^ 31) (hf : f < 32) : (nI a >>> (nI f &&& 31)) &&& 1 = nI (a.testBit f).toNat := by
  rw [pk_shrN ha _ f (s_l f hf), show (1 : Int32) = nI 1 from rfl, fa_and, Nat.and_one_is_mod]
  congr 1
  rw [Nat.testBit_eq_decide_div_mod_eq]
  rcases Nat.mod_two_eq_zero_or_one (a / 2 ^ f) with h | h <;> simp [h]
theorem nI_ne01 : ¬ nI 1 = 0 := by decide
theorem bit_0 {a f : Nat} (ha : a < 2 ^ 31) (hf : f < 32) : (nI a >>> (nI f &&& 31)) &&& 1 = 0 ↔ a.testBit f = false := by
  rw [bit_at ha hf]
  cases a.testBit f
  · simp [nI_0]
  · simp [nI_ne01]
theorem bit_1 {a f : Nat} (ha : a < 2 ^ 31) (hf : f < 32) : (nI a >>> (nI f &&& 31)) &&& 1 = 1 ↔ a.testBit f = true := by
  rw [bit_at ha hf]
  cases a.testBit f
  · simp only [Bool.toNat_false, nI_0]
    exact ⟨fun h => absurd h (by decide), fun h => absurd h (by decide)⟩
  · exact ⟨fun _ => rfl, fun _ => rfl⟩
theorem mk_test {p : Nat → Bool} {n f : Nat} (hn : n ≤ 16) (hf : f < n) : (nI (mk p n) >>> (nI f &&& 31)) &&& 1 = 0 ↔ p f = false := by
  have := mk_small (p := p) hn
  rw [bit_0 (by omega) (by omega), mk_bit]
  simp [hf]
theorem one_shl {f : Nat} (hf : f < 31) : (1 : Int32) <<< (nI f &&& 31) = nI (2 ^ f) := by
  have h : 2 ^ f < 2 ^ 31 := Nat.pow_lt_pow_right (by omega) hf
  rw [show (1 : Int32) = nI 1 from rfl, pk_shlN _ f (s_l f (by omega)) (by omega), Nat.one_mul]
theorem mk_one {n f : Nat} (hf : f < n) : 2 ^ f = mk (fun i => i == f) n := mk_eq (fun i => by
  rw [Nat.testBit_two_pow]
  by_cases h : f = i
  · subst h; simp [hf]
  · simp [h, Ne.symm h])
theorem mk_and (p q : Nat → Bool) (n : Nat) : nI (mk p n) &&& nI (mk q n) = nI (mk (fun i => p i && q i) n) := by
  rw [fa_and]
  congr 1
  exact mk_eq (fun i => by rw [Nat.testBit_and, mk_bit, mk_bit]; by_cases h : i < n <;> simp [h])
theorem mk_or (p q : Nat → Bool) (n : Nat) : nI (mk p n) ||| nI (mk q n) = nI (mk (fun i => p i || q i) n) := by
  rw [fa_or]
  congr 1
  exact mk_eq (fun i => by rw [Nat.testBit_or, mk_bit, mk_bit]; by_cases h : i < n <;> simp [h])
theorem m1_nI : (-1 : Int32) = nI 4294967295 := by decide
theorem mk_andnot (p q : Nat → Bool) {n : Nat} (hn : n ≤ 16) : nI (mk p n) &&& (nI (mk q n) ^^^ (-1)) = nI (mk (fun i => p i && !q i) n) := by
  rw [m1_nI, fa_xor, fa_and]
  congr 1
  refine mk_eq (fun i => ?_)
  rw [Nat.testBit_and, Nat.testBit_xor, mk_bit, mk_bit, show 4294967295 = 2 ^ 32 - 1 from rfl, Nat.testBit_two_pow_sub_one]
  by_cases h : i < n
  · simp [h, show i < 32 by omega]
  · simp [h]
theorem mk_set (p : Nat → Bool) {n f : Nat} (hn : n ≤ 16) (hf : f < n) : nI (mk p n) ||| ((1 : Int32) <<< (nI f &&& 31)) = nI (mk (fun i => p i || i == f) n) := by
  rw [one_shl (by omega), mk_one hf, mk_or]
theorem mk_clear (p : Nat → Bool) {n f : Nat} (hn : n ≤ 16) (hf : f < n) : nI (mk p n) &&& (((1 : Int32) <<< (nI f &&& 31)) ^^^ (-1)) = nI (mk (fun i => p i && !(i == f)) n) := by
  rw [one_shl (by omega), mk_one hf, mk_andnot _ _ hn]
theorem mk_single {n f : Nat} (hn : n ≤ 16) (hf : f < n) : (1 : Int32) <<< (nI f &&& 31) = nI (mk (fun i => i == f) n) := by
  rw [one_shl (by omega), mk_one hf]
theorem mk_none (n : Nat) : nI (mk (fun _ => false) n) = 0 := by
  rw [← mk_eq (a := 0) (n := n) (p := fun _ => false) (fun i => by simp)]; rfl
def cnt (p : Nat → Bool) : Nat → Nat
  | 0 => 0
  | n + 1 => (if p n then 1 else 0) + cnt p n
