theorem ushN {a n : Nat} (ha : a < 2 ^ 31) (hn : n < 32) : ((nI a).toUInt32 >>> ((nI n).toUInt32 &&& Int32.toUInt32 31)).toInt32 = nI (a / 2 ^ n) := by
  apply Int32.toBitVec_inj.1
  show (BitVec.ofNat 32 a) >>> ((((nI n).toUInt32 &&& Int32.toUInt32 31).toBitVec % 32)) = BitVec.ofNat 32 (a / 2 ^ n)
  apply BitVec.eq_of_toNat_eq
  rw [BitVec.ushiftRight_eq', BitVec.toNat_ushiftRight, s_u n hn, BitVec.toNat_ofNat, BitVec.toNat_ofNat, Nat.shiftRight_eq_div_pow, Nat.mod_eq_of_lt (a := a) (by omega)]
  have : a / 2 ^ n ≤ a := Nat.div_le_self _ _
  rw [Nat.mod_eq_of_lt (by omega)]
def bcN (n : Nat) : Nat :=
  let a1 := n - ((n / 2) &&& 1431655765)
  let a2 := (a1 &&& 858993459) + ((a1 / 4) &&& 858993459)
  let a3 := (a2 + a2 / 16) &&& 252645135
  let a4 := a3 + a3 / 256
  let a5 := a4 + a4 / 65536
  a5 &&& 63
def pop : Nat → Nat → Nat
  | 0, _ => 0
  | k + 1, n => n % 2 + pop k (n / 2)
theorem and_sp (x y M m : Nat) (hy : y < 256) (hm : m < 256) : (256 * x + y) &&& (256 * M + m) = 256 * (x &&& M) + (y &&& m) := by
  have h1 := Nat.and_mod_two_pow (a := 256 * x + y) (b := 256 * M + m) (n := 8)
  have h2 := Nat.and_div_two_pow (a := 256 * x + y) (b := 256 * M + m) (n := 8)
  rw [show (2 : Nat) ^ 8 = 256 from rfl] at h1 h2
  rw [show (256 * x + y) % 256 = y by omega, show (256 * M + m) % 256 = m by omega] at h1
  rw [show (256 * x + y) / 256 = x by omega, show (256 * M + m) / 256 = M by omega] at h2
  omega
def cb1 (b : Nat) : Nat := b - ((b / 2) &&& 85)
def cb2 (b : Nat) : Nat := (b &&& 51) + ((b / 4) &&& 51)
def cb3 (b : Nat) : Nat := (b + b / 16) &&& 15
theorem kb1 : ∀ b, b < 256 → (128 * 0 + b / 2) &&& 85 = (b / 2) &&& 85 ∧ (128 * 1 + b / 2) &&& 85 = (b / 2) &&& 85 ∧ (b / 2) &&& 5592405 = (b / 2) &&& 85 ∧ cb1 b < 256 ∧ (b / 2) &&& 85 ≤ b := by decide +kernel
theorem kb2 : ∀ b, b < 256 → (∀ z, z < 4 → (64 * z + b / 4) &&& 51 = (b / 4) &&& 51) ∧ (b / 4) &&& 3355443 = (b / 4) &&& 51 ∧ b &&& 3355443 = b &&& 51 := by decide +kernel
theorem kb3 : ∀ b, b < 256 → (∀ z, z < 5 → (cb2 (cb1 b) + 16 * z + cb2 (cb1 b) / 16) &&& 15 = cb3 (cb2 (cb1 b)) ∧ cb2 (cb1 b) + 16 * z + cb2 (cb1 b) / 16 < 256) ∧ cb2 (cb1 b) % 16 < 5 ∧ (cb2 (cb1 b) + cb2 (cb1 b) / 16) &&& 986895 = cb3 (cb2 (cb1 b)) ∧ cb3 (cb2 (cb1 b)) = pop 8 b ∧ pop 8 b < 9 := by decide +kernel
theorem kb4 : ∀ b, b < 17 → b &&& 63 = b := by decide +kernel
theorem pop_sp (j : Nat) : ∀ (k b a : Nat), b < 2 ^ k → pop (k + j) (2 ^ k * a + b) = pop k b + pop j a
  | 0, b, a, h => by
    have : b = 0 := by simpa using h
    subst this
    simp [pop]
  | k + 1, b, a, h => by
    have h2 : b / 2 < 2 ^ k := by rw [Nat.pow_succ] at h; omega
    have ih := pop_sp j k (b / 2) a h2
    have e0 : 2 ^ (k + 1) * a = 2 * (2 ^ k * a) := by rw [Nat.pow_succ, Nat.mul_comm (2 ^ k) 2, Nat.mul_assoc]
    have e1 : (2 ^ (k + 1) * a + b) % 2 = b % 2 := by rw [e0]; omega
    have e2 : (2 ^ (k + 1) * a + b) / 2 = 2 ^ k * a + b / 2 := by rw [e0]; omega
    rw [show k + 1 + j = (k + j) + 1 by omega, pop, e1, e2, ih, pop]
    omega
theorem bcN_pop (a : Nat) (ha : a < 256) (b : Nat) (hb : b < 256) : bcN (256 * a + b) = pop 16 (256 * a + b) := by
  obtain ⟨p1, p2, p3, p4, p5⟩ := kb1 a ha
  obtain ⟨q1, q2, q3, q4, q5⟩ := kb1 b hb
  have s1 : 256 * a + b - (((256 * a + b) / 2) &&& 1431655765) = 256 * cb1 a + cb1 b := by
    rw [show (256 * a + b) / 2 = 256 * (a / 2) + (128 * (a % 2) + b / 2) by omega, show 1431655765 = 256 * 5592405 + 85 from rfl, and_sp _ _ _ _ (by omega) (by decide), p3]
    have : (128 * (a % 2) + b / 2) &&& 85 = (b / 2) &&& 85 := by rcases Nat.mod_two_eq_zero_or_one a with h | h <;> rw [h] <;> assumption
    rw [this]
    unfold cb1
    omega
  unfold bcN
  simp only []
  rw [s1]
  have s2 : ((256 * cb1 a + cb1 b) &&& 858993459) + (((256 * cb1 a + cb1 b) / 4) &&& 858993459) = 256 * cb2 (cb1 a) + cb2 (cb1 b) := by
    obtain ⟨u1, u2, u3⟩ := kb2 (cb1 a) p4
    obtain ⟨v1, v2, v3⟩ := kb2 (cb1 b) q4
    rw [show (256 * cb1 a + cb1 b) / 4 = 256 * (cb1 a / 4) + (64 * (cb1 a % 4) + cb1 b / 4) by omega, show 858993459 = 256 * 3355443 + 51 from rfl, and_sp _ _ _ _ (by omega) (by decide), and_sp _ _ _ _ (by omega) (by decide), u2, u3, v1 _ (by omega)]
    unfold cb2
    omega
  rw [s2]
  obtain ⟨x1, x2, x3, x4, x5⟩ := kb3 a ha
  obtain ⟨y1, y2, y3, y4, y5⟩ := kb3 b hb
  have s3 : (256 * cb2 (cb1 a) + cb2 (cb1 b) + (256 * cb2 (cb1 a) + cb2 (cb1 b)) / 16) &&& 252645135 = 256 * pop 8 a + pop 8 b := by
    obtain ⟨w1, w2⟩ := y1 (cb2 (cb1 a) % 16) x2
    rw [show 256 * cb2 (cb1 a) + cb2 (cb1 b) + (256 * cb2 (cb1 a) + cb2 (cb1 b)) / 16 = 256 * (cb2 (cb1 a) + cb2 (cb1 a) / 16) + (cb2 (cb1 b) + 16 * (cb2 (cb1 a) % 16) + cb2 (cb1 b) / 16) by omega, show 252645135 = 256 * 986895 + 15 from rfl, and_sp _ _ _ _ w2 (by decide), x3, w1, x4, y4]
  rw [s3, show (256 * pop 8 a + pop 8 b) / 256 = pop 8 a by omega, show (256 * pop 8 a + pop 8 b + pop 8 a) / 65536 = 0 by omega, show 256 * pop 8 a + pop 8 b + pop 8 a + 0 = 256 * pop 8 a + (pop 8 b + pop 8 a) by omega, show (63 : Nat) = 256 * 0 + 63 from rfl, and_sp _ _ _ _ (by omega) (by decide), Nat.and_zero, kb4 _ (by omega)]
  have := pop_sp 8 8 b a hb
  rw [show 256 * a + b = 2 ^ 8 * a + b from rfl]
  rw [this]; omega
theorem pop_top : ∀ (k m c : Nat), m < 2 ^ k → c ≤ 1 → pop (k + 1) (c * 2 ^ k + m) = c + pop k m
  | 0, m, c, h, hc => by
    have : m = 0 := by simpa using h
    subst this
    simp only [pop, Nat.pow_zero]
    omega
  | k + 1, m, c, h, hc => by
    have h2 : m / 2 < 2 ^ k := by rw [Nat.pow_succ] at h; omega
    have ih := pop_top k (m / 2) c h2 hc
    have e1 : (c * 2 ^ (k + 1) + m) % 2 = m % 2 := by rw [Nat.pow_succ, ← Nat.mul_assoc]; omega
    have e2 : (c * 2 ^ (k + 1) + m) / 2 = c * 2 ^ k + m / 2 := by rw [Nat.pow_succ, ← Nat.mul_assoc]; omega
    rw [pop, e1, e2, ih]
    show _ = c + (m % 2 + pop k (m / 2))
    omega
theorem pop_mk (p : Nat → Bool) : ∀ n, pop n (mk p n) = cnt p n
  | 0 => rfl
  | n + 1 => by
    have ih := pop_mk p n
    have hl := mk_lt p n
    by_cases h : p n
    · have := pop_top n (mk p n) 1 hl (by omega)
      rw [mk, if_pos h, cnt, if_pos h, ← ih, ← this, Nat.one_mul]
    · have := pop_top n (mk p n) 0 hl (by omega)
      rw [mk, if_neg h, cnt, if_neg h, ← ih]
      rw [Nat.zero_mul] at this
      exact this
theorem bcN_mk (p : Nat → Bool) : bcN (mk p 16) = cnt p 16 := by
  have h := mk_small (p := p) (n := 16) (by decide)
  have := bcN_pop (mk p 16 / 256) (by omega) (mk p 16 % 256) (by omega)
  rw [Nat.div_add_mod] at this
  rw [this, pop_mk]
section BC
variable {y : ai_L} {σ : ai_M} {d : Nat}
theorem and_le' (a b : Nat) : a &&& b ≤ a := Nat.and_le_left
theorem t_bitCount {n : Nat} (hn : n < 65536) : ev mJ6_bitCount_0f7a4 d 0 [some (.int (nI n))] [] y σ 0 0 (Rp y σ (nI (bcN n))) := by
  have f1 := and_le' (n / 2) 1431655765
  have f2 := and_le' (n - ((n / 2) &&& 1431655765)) 858993459
  have f3 := and_le' ((n - ((n / 2) &&& 1431655765)) / 4) 858993459
  have f4 := and_le' (((n - ((n / 2) &&& 1431655765)) &&& 858993459) + (((n - ((n / 2) &&& 1431655765)) / 4) &&& 858993459) + (((n - ((n / 2) &&& 1431655765)) &&& 858993459) + (((n - ((n / 2) &&& 1431655765)) / 4) &&& 858993459)) / 16) 252645135
  have g1 : ((nI n).toUInt32 >>> ((1 : Int32).toUInt32 &&& Int32.toUInt32 31)).toInt32 = nI (n / 2) := ushN (n := 1) (by omega) (by decide)
  refine ev_iload_n dJ6_bitCount_0f7a4_0 rfl ?_
  refine ev_iload_n dJ6_bitCount_0f7a4_1 rfl ?_
  refine ev_iconst 1 dJ6_bitCount_0f7a4_2 (by decide) ?_
  refine ev_iushr dJ6_bitCount_0f7a4_3 ?_
  rw [g1]
  refine ev_ldcw 1431655765 dJ6_bitCount_0f7a4_4 kJ6_265 ?_
  refine ev_iand dJ6_bitCount_0f7a4_7 ?_
  rw [show (1431655765 : Int32) = nI 1431655765 from rfl, fa_and]
  refine ev_isub dJ6_bitCount_0f7a4_8 ?_
  rw [pk_sub (by omega)]
  unfold bcN
  simp only []
  generalize ha1 : n - ((n / 2) &&& 1431655765) = a1 at *
  have g2 : ((nI a1).toUInt32 >>> ((2 : Int32).toUInt32 &&& Int32.toUInt32 31)).toInt32 = nI (a1 / 4) := ushN (n := 2) (by omega) (by decide)
  refine ev_istore_n dJ6_bitCount_0f7a4_9 (by decide) ?_
  refine ev_iload_n dJ6_bitCount_0f7a4_10 rfl ?_
  refine ev_ldcw 858993459 dJ6_bitCount_0f7a4_11 kJ6_266 ?_
  refine ev_iand dJ6_bitCount_0f7a4_14 ?_
  rw [show (858993459 : Int32) = nI 858993459 from rfl, fa_and]
  refine ev_iload_n dJ6_bitCount_0f7a4_15 rfl ?_
  refine ev_iconst 2 dJ6_bitCount_0f7a4_16 (by decide) ?_
  refine ev_iushr dJ6_bitCount_0f7a4_17 ?_
  rw [g2]
  refine ev_ldcw 858993459 dJ6_bitCount_0f7a4_18 kJ6_266 ?_
  refine ev_iand dJ6_bitCount_0f7a4_21 ?_
  rw [show (858993459 : Int32) = nI 858993459 from rfl, fa_and]
  refine ev_iadd dJ6_bitCount_0f7a4_22 ?_
  rw [nI_add]
  generalize ha2 : (a1 &&& 858993459) + ((a1 / 4) &&& 858993459) = a2 at *
  have g3 : ((nI a2).toUInt32 >>> ((4 : Int32).toUInt32 &&& Int32.toUInt32 31)).toInt32 = nI (a2 / 16) := ushN (n := 4) (by omega) (by decide)
  refine ev_istore_n dJ6_bitCount_0f7a4_23 (by decide) ?_
  refine ev_iload_n dJ6_bitCount_0f7a4_24 rfl ?_
  refine ev_iload_n dJ6_bitCount_0f7a4_25 rfl ?_
  refine ev_iconst 4 dJ6_bitCount_0f7a4_26 (by decide) ?_
  refine ev_iushr dJ6_bitCount_0f7a4_27 ?_
  rw [g3]
  refine ev_iadd dJ6_bitCount_0f7a4_28 ?_
  rw [nI_add]
  refine ev_ldcw 252645135 dJ6_bitCount_0f7a4_29 kJ6_267 ?_
  refine ev_iand dJ6_bitCount_0f7a4_32 ?_
  rw [show (252645135 : Int32) = nI 252645135 from rfl, fa_and]
  generalize ha3 : (a2 + a2 / 16) &&& 252645135 = a3 at *
  have g4 : ((nI a3).toUInt32 >>> ((8 : Int32).toUInt32 &&& Int32.toUInt32 31)).toInt32 = nI (a3 / 256) := ushN (n := 8) (by omega) (by decide)
  refine ev_istore_n dJ6_bitCount_0f7a4_33 (by decide) ?_
  refine ev_iload_n dJ6_bitCount_0f7a4_34 rfl ?_
  refine ev_iload_n dJ6_bitCount_0f7a4_35 rfl ?_
  refine ev_bipush 8 dJ6_bitCount_0f7a4_36 (by decide) ?_
  refine ev_iushr dJ6_bitCount_0f7a4_38 ?_
  rw [g4]
  refine ev_iadd dJ6_bitCount_0f7a4_39 ?_
  rw [nI_add]
  generalize ha4 : a3 + a3 / 256 = a4 at *
  have g5 : ((nI a4).toUInt32 >>> ((16 : Int32).toUInt32 &&& Int32.toUInt32 31)).toInt32 = nI (a4 / 65536) := ushN (n := 16) (by omega) (by decide)
  refine ev_istore_n dJ6_bitCount_0f7a4_40 (by decide) ?_
  refine ev_iload_n dJ6_bitCount_0f7a4_41 rfl ?_
  refine ev_iload_n dJ6_bitCount_0f7a4_42 rfl ?_
  refine ev_bipush 16 dJ6_bitCount_0f7a4_43 (by decide) ?_
  refine ev_iushr dJ6_bitCount_0f7a4_45 ?_
  rw [g5]
  refine ev_iadd dJ6_bitCount_0f7a4_46 ?_
  rw [nI_add]
  refine ev_istore_n dJ6_bitCount_0f7a4_47 (by decide) ?_
  refine ev_iload_n dJ6_bitCount_0f7a4_48 rfl ?_
  refine ev_bipush 63 dJ6_bitCount_0f7a4_49 (by decide) ?_
  refine ev_iand dJ6_bitCount_0f7a4_51 ?_
  rw [show (63 : Int32) = nI 63 from rfl, fa_and]
  refine ev_ireturn dJ6_bitCount_0f7a4_52 rfl rfl rfl ?_
  exact Rp.mk rfl
end BC
