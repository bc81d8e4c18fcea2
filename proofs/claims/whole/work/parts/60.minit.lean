/-! the reference's constructor and the first book -/
def P35 (L : Nat) : ai_L := (LY L).take 35
def miS (σ σ' : ai_M) : Prop := σ' 35 0 = 8 ∧ σ' 35 2 = 0 ∧ σ' 35 4 = 0 ∧ σ' 35 8 = 0 ∧ σ' 35 14 = 0 ∧ (∀ i, i < 16 → σ' 36 i = 1) ∧ (∀ i, i < 4 → σ' 46 i = -6) ∧ (∀ i, i < 16 → σ' 47 i = -6) ∧ ∀ c, c < 35 → σ' c = σ c
section INI5
variable {d L : Nat} {σ : ai_M}
theorem P35_len : (P35 L).length = 35 := rfl
theorem P35_end : P35 L ++ [.inr (5, [none, some (some (35 + 1)), none, some (some (35 + 2)), none, some (some (35 + 3)), some (some (35 + 4)), some (some (35 + 5)), none, some (some (35 + 6)), some (some (35 + 7)), some (some (35 + 8)), some (some (35 + 9)), some (some (35 + 10)), none, some (some (35 + 11)), some (some (35 + 12)), none, some (some (35 + 13)), some (some (35 + 14)), some (some (35 + 15)), none, none, none, none, some (some (35 + 16)), some (some (35 + 17))]), .inl 16, .inl 6, .inl 30, .inl 30, .inl 30, .inl 4, .inl 4, .inl 4, .inl 4, .inl 16, .inl 4, .inl 16, .inl 20, .inl 20, .inl 20, .inl 4, .inl 16] = LY L := rfl
theorem t_X5_init : ev mX5_init (d + 2) 0 [some (.ref 35)] [] (P35 L ++ [.inr (5, nf5)]) σ 0 0 (fun r y' σ' => r = none ∧ y' = LY L ∧ miS σ σ') := by
  have hP : (P35 L).length = 35 := P35_len
  refine ev_aload_n dX5_init_0 rfl ?_
  refine ev_obj dX5_init_1 oX5_1 (Nat.le_of_ble_eq_true rfl) ?_
  refine ev_aload_n dX5_init_4 rfl ?_
  refine ev_bipush 8 dX5_init_5 (by decide) ?_
  refine ev_putI dX5_init_7 fX5_7 ⟨_, getA0 hP, rfl⟩ rfl rfl ?_
  refine ev_aload_n dX5_init_10 rfl ?_
  refine ev_bipush 16 dX5_init_11 (by decide) ?_
  refine ev_nA 16 1 [.inr (5, [none, some none, none, some none, none, some none, some none, some none, none, some none, some none, some none, some none, some none, none, some none, some none, none, some none, some none, some none, none, none, none, none, some none, some none]), .inl 16] hP dX5_init_13 (by decide) (by decide) (by decide) (by decide) (by decide) rfl rfl ?_
  refine ev_pR [none, some (some (35 + 1)), none, some none, none, some none, some none, some none, none, some none, some none, some none, some none, some none, none, some none, some none, none, some none, some none, some none, none, none, none, none, some none, some none] hP dX5_init_15 fX5_13 rfl cls5 rfl (fun _ => rfl) (fun _ => rfl) rfl ?_
  refine ev_aload_n dX5_init_18 rfl ?_
  refine ev_bipush 6 dX5_init_19 (by decide) ?_
  refine ev_nA 6 2 [.inr (5, [none, some (some (35 + 1)), none, some none, none, some none, some none, some none, none, some none, some none, some none, some none, some none, none, some none, some none, none, some none, some none, some none, none, none, none, none, some none, some none]), .inl 16, .inl 6] hP dX5_init_21 (by decide) (by decide) (by decide) (by decide) (by decide) rfl rfl ?_
  refine ev_pR [none, some (some (35 + 1)), none, some (some (35 + 2)), none, some none, some none, some none, none, some none, some none, some none, some none, some none, none, some none, some none, none, some none, some none, some none, none, none, none, none, some none, some none] hP dX5_init_23 fX5_17 rfl cls5 rfl (fun _ => rfl) (fun _ => rfl) rfl ?_
  refine ev_aload_n dX5_init_26 rfl ?_
  refine ev_bipush 30 dX5_init_27 (by decide) ?_
  refine ev_nA 30 3 [.inr (5, [none, some (some (35 + 1)), none, some (some (35 + 2)), none, some none, some none, some none, none, some none, some none, some none, some none, some none, none, some none, some none, none, some none, some none, some none, none, none, none, none, some none, some none]), .inl 16, .inl 6, .inl 30] hP dX5_init_29 (by decide) (by decide) (by decide) (by decide) (by decide) rfl rfl ?_
  refine ev_pR [none, some (some (35 + 1)), none, some (some (35 + 2)), none, some (some (35 + 3)), some none, some none, none, some none, some none, some none, some none, some none, none, some none, some none, none, some none, some none, some none, none, none, none, none, some none, some none] hP dX5_init_31 fX5_20 rfl cls5 rfl (fun _ => rfl) (fun _ => rfl) rfl ?_
  refine ev_aload_n dX5_init_34 rfl ?_
  refine ev_bipush 30 dX5_init_35 (by decide) ?_
  refine ev_nA 30 4 [.inr (5, [none, some (some (35 + 1)), none, some (some (35 + 2)), none, some (some (35 + 3)), some none, some none, none, some none, some none, some none, some none, some none, none, some none, some none, none, some none, some none, some none, none, none, none, none, some none, some none]), .inl 16, .inl 6, .inl 30, .inl 30] hP dX5_init_37 (by decide) (by decide) (by decide) (by decide) (by decide) rfl rfl ?_
  refine ev_pR [none, some (some (35 + 1)), none, some (some (35 + 2)), none, some (some (35 + 3)), some (some (35 + 4)), some none, none, some none, some none, some none, some none, some none, none, some none, some none, none, some none, some none, some none, none, none, none, none, some none, some none] hP dX5_init_39 fX5_23 rfl cls5 rfl (fun _ => rfl) (fun _ => rfl) rfl ?_
  refine ev_aload_n dX5_init_42 rfl ?_
  refine ev_bipush 30 dX5_init_43 (by decide) ?_
  refine ev_nA 30 5 [.inr (5, [none, some (some (35 + 1)), none, some (some (35 + 2)), none, some (some (35 + 3)), some (some (35 + 4)), some none, none, some none, some none, some none, some none, some none, none, some none, some none, none, some none, some none, some none, none, none, none, none, some none, some none]), .inl 16, .inl 6, .inl 30, .inl 30, .inl 30] hP dX5_init_45 (by decide) (by decide) (by decide) (by decide) (by decide) rfl rfl ?_
  refine ev_pR [none, some (some (35 + 1)), none, some (some (35 + 2)), none, some (some (35 + 3)), some (some (35 + 4)), some (some (35 + 5)), none, some none, some none, some none, some none, some none, none, some none, some none, none, some none, some none, some none, none, none, none, none, some none, some none] hP dX5_init_47 fX5_26 rfl cls5 rfl (fun _ => rfl) (fun _ => rfl) rfl ?_
  refine ev_aload_n dX5_init_50 rfl ?_
  refine ev_iconst 4 dX5_init_51 (by decide) ?_
  refine ev_nA 4 6 [.inr (5, [none, some (some (35 + 1)), none, some (some (35 + 2)), none, some (some (35 + 3)), some (some (35 + 4)), some (some (35 + 5)), none, some none, some none, some none, some none, some none, none, some none, some none, none, some none, some none, some none, none, none, none, none, some none, some none]), .inl 16, .inl 6, .inl 30, .inl 30, .inl 30, .inl 4] hP dX5_init_52 (by decide) (by decide) (by decide) (by decide) (by decide) rfl rfl ?_
  refine ev_pR [none, some (some (35 + 1)), none, some (some (35 + 2)), none, some (some (35 + 3)), some (some (35 + 4)), some (some (35 + 5)), none, some (some (35 + 6)), some none, some none, some none, some none, none, some none, some none, none, some none, some none, some none, none, none, none, none, some none, some none] hP dX5_init_54 fX5_29 rfl cls5 rfl (fun _ => rfl) (fun _ => rfl) rfl ?_
  refine ev_aload_n dX5_init_57 rfl ?_
  refine ev_iconst 4 dX5_init_58 (by decide) ?_
  refine ev_nA 4 7 [.inr (5, [none, some (some (35 + 1)), none, some (some (35 + 2)), none, some (some (35 + 3)), some (some (35 + 4)), some (some (35 + 5)), none, some (some (35 + 6)), some none, some none, some none, some none, none, some none, some none, none, some none, some none, some none, none, none, none, none, some none, some none]), .inl 16, .inl 6, .inl 30, .inl 30, .inl 30, .inl 4, .inl 4] hP dX5_init_59 (by decide) (by decide) (by decide) (by decide) (by decide) rfl rfl ?_
  refine ev_pR [none, some (some (35 + 1)), none, some (some (35 + 2)), none, some (some (35 + 3)), some (some (35 + 4)), some (some (35 + 5)), none, some (some (35 + 6)), some (some (35 + 7)), some none, some none, some none, none, some none, some none, none, some none, some none, some none, none, none, none, none, some none, some none] hP dX5_init_61 fX5_32 rfl cls5 rfl (fun _ => rfl) (fun _ => rfl) rfl ?_
  refine ev_aload_n dX5_init_64 rfl ?_
  refine ev_iconst 4 dX5_init_65 (by decide) ?_
  refine ev_nA 4 8 [.inr (5, [none, some (some (35 + 1)), none, some (some (35 + 2)), none, some (some (35 + 3)), some (some (35 + 4)), some (some (35 + 5)), none, some (some (35 + 6)), some (some (35 + 7)), some none, some none, some none, none, some none, some none, none, some none, some none, some none, none, none, none, none, some none, some none]), .inl 16, .inl 6, .inl 30, .inl 30, .inl 30, .inl 4, .inl 4, .inl 4] hP dX5_init_66 (by decide) (by decide) (by decide) (by decide) (by decide) rfl rfl ?_
  refine ev_pR [none, some (some (35 + 1)), none, some (some (35 + 2)), none, some (some (35 + 3)), some (some (35 + 4)), some (some (35 + 5)), none, some (some (35 + 6)), some (some (35 + 7)), some (some (35 + 8)), some none, some none, none, some none, some none, none, some none, some none, some none, none, none, none, none, some none, some none] hP dX5_init_68 fX5_35 rfl cls5 rfl (fun _ => rfl) (fun _ => rfl) rfl ?_
  refine ev_aload_n dX5_init_71 rfl ?_
  refine ev_iconst 4 dX5_init_72 (by decide) ?_
  refine ev_nA 4 9 [.inr (5, [none, some (some (35 + 1)), none, some (some (35 + 2)), none, some (some (35 + 3)), some (some (35 + 4)), some (some (35 + 5)), none, some (some (35 + 6)), some (some (35 + 7)), some (some (35 + 8)), some none, some none, none, some none, some none, none, some none, some none, some none, none, none, none, none, some none, some none]), .inl 16, .inl 6, .inl 30, .inl 30, .inl 30, .inl 4, .inl 4, .inl 4, .inl 4] hP dX5_init_73 (by decide) (by decide) (by decide) (by decide) (by decide) rfl rfl ?_
  refine ev_pR [none, some (some (35 + 1)), none, some (some (35 + 2)), none, some (some (35 + 3)), some (some (35 + 4)), some (some (35 + 5)), none, some (some (35 + 6)), some (some (35 + 7)), some (some (35 + 8)), some (some (35 + 9)), some none, none, some none, some none, none, some none, some none, some none, none, none, none, none, some none, some none] hP dX5_init_75 fX5_38 rfl cls5 rfl (fun _ => rfl) (fun _ => rfl) rfl ?_
  refine ev_aload_n dX5_init_78 rfl ?_
  refine ev_bipush 16 dX5_init_79 (by decide) ?_
  refine ev_nA 16 10 [.inr (5, [none, some (some (35 + 1)), none, some (some (35 + 2)), none, some (some (35 + 3)), some (some (35 + 4)), some (some (35 + 5)), none, some (some (35 + 6)), some (some (35 + 7)), some (some (35 + 8)), some (some (35 + 9)), some none, none, some none, some none, none, some none, some none, some none, none, none, none, none, some none, some none]), .inl 16, .inl 6, .inl 30, .inl 30, .inl 30, .inl 4, .inl 4, .inl 4, .inl 4, .inl 16] hP dX5_init_81 (by decide) (by decide) (by decide) (by decide) (by decide) rfl rfl ?_
  refine ev_pR [none, some (some (35 + 1)), none, some (some (35 + 2)), none, some (some (35 + 3)), some (some (35 + 4)), some (some (35 + 5)), none, some (some (35 + 6)), some (some (35 + 7)), some (some (35 + 8)), some (some (35 + 9)), some (some (35 + 10)), none, some none, some none, none, some none, some none, some none, none, none, none, none, some none, some none] hP dX5_init_83 fX5_41 rfl cls5 rfl (fun _ => rfl) (fun _ => rfl) rfl ?_
  refine ev_aload_n dX5_init_86 rfl ?_
  refine ev_iconst 4 dX5_init_87 (by decide) ?_
  refine ev_nA 4 11 [.inr (5, [none, some (some (35 + 1)), none, some (some (35 + 2)), none, some (some (35 + 3)), some (some (35 + 4)), some (some (35 + 5)), none, some (some (35 + 6)), some (some (35 + 7)), some (some (35 + 8)), some (some (35 + 9)), some (some (35 + 10)), none, some none, some none, none, some none, some none, some none, none, none, none, none, some none, some none]), .inl 16, .inl 6, .inl 30, .inl 30, .inl 30, .inl 4, .inl 4, .inl 4, .inl 4, .inl 16, .inl 4] hP dX5_init_88 (by decide) (by decide) (by decide) (by decide) (by decide) rfl rfl ?_
  refine ev_pR [none, some (some (35 + 1)), none, some (some (35 + 2)), none, some (some (35 + 3)), some (some (35 + 4)), some (some (35 + 5)), none, some (some (35 + 6)), some (some (35 + 7)), some (some (35 + 8)), some (some (35 + 9)), some (some (35 + 10)), none, some (some (35 + 11)), some none, none, some none, some none, some none, none, none, none, none, some none, some none] hP dX5_init_90 fX5_44 rfl cls5 rfl (fun _ => rfl) (fun _ => rfl) rfl ?_
  refine ev_aload_n dX5_init_93 rfl ?_
  refine ev_bipush 16 dX5_init_94 (by decide) ?_
  refine ev_nA 16 12 [.inr (5, [none, some (some (35 + 1)), none, some (some (35 + 2)), none, some (some (35 + 3)), some (some (35 + 4)), some (some (35 + 5)), none, some (some (35 + 6)), some (some (35 + 7)), some (some (35 + 8)), some (some (35 + 9)), some (some (35 + 10)), none, some (some (35 + 11)), some none, none, some none, some none, some none, none, none, none, none, some none, some none]), .inl 16, .inl 6, .inl 30, .inl 30, .inl 30, .inl 4, .inl 4, .inl 4, .inl 4, .inl 16, .inl 4, .inl 16] hP dX5_init_96 (by decide) (by decide) (by decide) (by decide) (by decide) rfl rfl ?_
  refine ev_pR [none, some (some (35 + 1)), none, some (some (35 + 2)), none, some (some (35 + 3)), some (some (35 + 4)), some (some (35 + 5)), none, some (some (35 + 6)), some (some (35 + 7)), some (some (35 + 8)), some (some (35 + 9)), some (some (35 + 10)), none, some (some (35 + 11)), some (some (35 + 12)), none, some none, some none, some none, none, none, none, none, some none, some none] hP dX5_init_98 fX5_47 rfl cls5 rfl (fun _ => rfl) (fun _ => rfl) rfl ?_
  refine ev_aload_n dX5_init_101 rfl ?_
  refine ev_bipush 20 dX5_init_102 (by decide) ?_
  refine ev_nA 20 13 [.inr (5, [none, some (some (35 + 1)), none, some (some (35 + 2)), none, some (some (35 + 3)), some (some (35 + 4)), some (some (35 + 5)), none, some (some (35 + 6)), some (some (35 + 7)), some (some (35 + 8)), some (some (35 + 9)), some (some (35 + 10)), none, some (some (35 + 11)), some (some (35 + 12)), none, some none, some none, some none, none, none, none, none, some none, some none]), .inl 16, .inl 6, .inl 30, .inl 30, .inl 30, .inl 4, .inl 4, .inl 4, .inl 4, .inl 16, .inl 4, .inl 16, .inl 20] hP dX5_init_104 (by decide) (by decide) (by decide) (by decide) (by decide) rfl rfl ?_
  refine ev_pR [none, some (some (35 + 1)), none, some (some (35 + 2)), none, some (some (35 + 3)), some (some (35 + 4)), some (some (35 + 5)), none, some (some (35 + 6)), some (some (35 + 7)), some (some (35 + 8)), some (some (35 + 9)), some (some (35 + 10)), none, some (some (35 + 11)), some (some (35 + 12)), none, some (some (35 + 13)), some none, some none, none, none, none, none, some none, some none] hP dX5_init_106 fX5_50 rfl cls5 rfl (fun _ => rfl) (fun _ => rfl) rfl ?_
  refine ev_aload_n dX5_init_109 rfl ?_
  refine ev_bipush 20 dX5_init_110 (by decide) ?_
  refine ev_nA 20 14 [.inr (5, [none, some (some (35 + 1)), none, some (some (35 + 2)), none, some (some (35 + 3)), some (some (35 + 4)), some (some (35 + 5)), none, some (some (35 + 6)), some (some (35 + 7)), some (some (35 + 8)), some (some (35 + 9)), some (some (35 + 10)), none, some (some (35 + 11)), some (some (35 + 12)), none, some (some (35 + 13)), some none, some none, none, none, none, none, some none, some none]), .inl 16, .inl 6, .inl 30, .inl 30, .inl 30, .inl 4, .inl 4, .inl 4, .inl 4, .inl 16, .inl 4, .inl 16, .inl 20, .inl 20] hP dX5_init_112 (by decide) (by decide) (by decide) (by decide) (by decide) rfl rfl ?_
  refine ev_pR [none, some (some (35 + 1)), none, some (some (35 + 2)), none, some (some (35 + 3)), some (some (35 + 4)), some (some (35 + 5)), none, some (some (35 + 6)), some (some (35 + 7)), some (some (35 + 8)), some (some (35 + 9)), some (some (35 + 10)), none, some (some (35 + 11)), some (some (35 + 12)), none, some (some (35 + 13)), some (some (35 + 14)), some none, none, none, none, none, some none, some none] hP dX5_init_114 fX5_53 rfl cls5 rfl (fun _ => rfl) (fun _ => rfl) rfl ?_
  refine ev_aload_n dX5_init_117 rfl ?_
  refine ev_bipush 20 dX5_init_118 (by decide) ?_
  refine ev_nA 20 15 [.inr (5, [none, some (some (35 + 1)), none, some (some (35 + 2)), none, some (some (35 + 3)), some (some (35 + 4)), some (some (35 + 5)), none, some (some (35 + 6)), some (some (35 + 7)), some (some (35 + 8)), some (some (35 + 9)), some (some (35 + 10)), none, some (some (35 + 11)), some (some (35 + 12)), none, some (some (35 + 13)), some (some (35 + 14)), some none, none, none, none, none, some none, some none]), .inl 16, .inl 6, .inl 30, .inl 30, .inl 30, .inl 4, .inl 4, .inl 4, .inl 4, .inl 16, .inl 4, .inl 16, .inl 20, .inl 20, .inl 20] hP dX5_init_120 (by decide) (by decide) (by decide) (by decide) (by decide) rfl rfl ?_
  refine ev_pR [none, some (some (35 + 1)), none, some (some (35 + 2)), none, some (some (35 + 3)), some (some (35 + 4)), some (some (35 + 5)), none, some (some (35 + 6)), some (some (35 + 7)), some (some (35 + 8)), some (some (35 + 9)), some (some (35 + 10)), none, some (some (35 + 11)), some (some (35 + 12)), none, some (some (35 + 13)), some (some (35 + 14)), some (some (35 + 15)), none, none, none, none, some none, some none] hP dX5_init_122 fX5_56 rfl cls5 rfl (fun _ => rfl) (fun _ => rfl) rfl ?_
  refine ev_aload_n dX5_init_125 rfl ?_
  refine ev_iconst 4 dX5_init_126 (by decide) ?_
  refine ev_nA 4 16 [.inr (5, [none, some (some (35 + 1)), none, some (some (35 + 2)), none, some (some (35 + 3)), some (some (35 + 4)), some (some (35 + 5)), none, some (some (35 + 6)), some (some (35 + 7)), some (some (35 + 8)), some (some (35 + 9)), some (some (35 + 10)), none, some (some (35 + 11)), some (some (35 + 12)), none, some (some (35 + 13)), some (some (35 + 14)), some (some (35 + 15)), none, none, none, none, some none, some none]), .inl 16, .inl 6, .inl 30, .inl 30, .inl 30, .inl 4, .inl 4, .inl 4, .inl 4, .inl 16, .inl 4, .inl 16, .inl 20, .inl 20, .inl 20, .inl 4] hP dX5_init_127 (by decide) (by decide) (by decide) (by decide) (by decide) rfl rfl ?_
  refine ev_pR [none, some (some (35 + 1)), none, some (some (35 + 2)), none, some (some (35 + 3)), some (some (35 + 4)), some (some (35 + 5)), none, some (some (35 + 6)), some (some (35 + 7)), some (some (35 + 8)), some (some (35 + 9)), some (some (35 + 10)), none, some (some (35 + 11)), some (some (35 + 12)), none, some (some (35 + 13)), some (some (35 + 14)), some (some (35 + 15)), none, none, none, none, some (some (35 + 16)), some none] hP dX5_init_129 fX5_59 rfl cls5 rfl (fun _ => rfl) (fun _ => rfl) rfl ?_
  refine ev_aload_n dX5_init_132 rfl ?_
  refine ev_bipush 16 dX5_init_133 (by decide) ?_
  refine ev_nA 16 17 [.inr (5, [none, some (some (35 + 1)), none, some (some (35 + 2)), none, some (some (35 + 3)), some (some (35 + 4)), some (some (35 + 5)), none, some (some (35 + 6)), some (some (35 + 7)), some (some (35 + 8)), some (some (35 + 9)), some (some (35 + 10)), none, some (some (35 + 11)), some (some (35 + 12)), none, some (some (35 + 13)), some (some (35 + 14)), some (some (35 + 15)), none, none, none, none, some (some (35 + 16)), some none]), .inl 16, .inl 6, .inl 30, .inl 30, .inl 30, .inl 4, .inl 4, .inl 4, .inl 4, .inl 16, .inl 4, .inl 16, .inl 20, .inl 20, .inl 20, .inl 4, .inl 16] hP dX5_init_135 (by decide) (by decide) (by decide) (by decide) (by decide) rfl rfl ?_
  refine ev_pR [none, some (some (35 + 1)), none, some (some (35 + 2)), none, some (some (35 + 3)), some (some (35 + 4)), some (some (35 + 5)), none, some (some (35 + 6)), some (some (35 + 7)), some (some (35 + 8)), some (some (35 + 9)), some (some (35 + 10)), none, some (some (35 + 11)), some (some (35 + 12)), none, some (some (35 + 13)), some (some (35 + 14)), some (some (35 + 15)), none, none, none, none, some (some (35 + 16)), some (some (35 + 17))] hP dX5_init_137 fX5_62 rfl cls5 rfl (fun _ => rfl) (fun _ => rfl) rfl ?_
  refine ev_aload_n dX5_init_140 rfl ?_
  rw [P35_end]
  refine cVv0 dX5_init_141 VX5_65 ⟨_, rfl⟩ rfl (t_begin (d := d)) ?_
  rintro σ1 ⟨b0, b1, b2, b3, b4, b5, b6, b7, b8⟩
  refine ev_ret dX5_init_144 rfl rfl ?_
  refine ⟨rfl, rfl, ?_, b1, b2, b3, b4, b5, b6, b7, fun c hc => ?_⟩
  · rw [b0]; rfl
  · rw [b8 c (by omega) (by omega) (by omega) (by omega)]
    simp only [ai_new, ai_up]
    repeat rw [if_neg (by omega)]
theorem wf_0 {β : ai_M} (h0 : β 35 0 = 8) (h1 : β 35 2 = 0) (h2 : β 35 4 = 0) (h3 : β 35 8 = 0) (h4 : β 35 14 = 0) (h6 : ∀ i, i < 4 → β 46 i = -6) (h7 : ∀ i, i < 16 → β 47 i = -6) : WF β := by
  have e0 : nF β = 8 := by unfold nF; rw [h0]; rfl
  have e1 : nU β = 0 := by unfold nU; rw [h1]; rfl
  have e2 : nM β = 0 := by unfold nM; rw [h2]; rfl
  have e3 : nW β = 0 := by unfold nW; rw [h3]; rfl
  refine ⟨⟨by rw [e0, h0]; rfl, by omega, by omega, by rw [e1, h1]; rfl, by omega, by rw [e2, h2]; rfl, by omega, by rw [e3, h3]; rfl, by omega⟩, fun i hi => by omega, fun i hi => by omega, fun k hk => by omega, 0, by omega, fun w hw => by omega, fun w _ q => h6 w q, fun w v hw => by omega, fun k q => Or.inl (h7 k q), fun k _ q => h7 k q, fun j k q1 q2 _ hne => absurd (h7 j q1) hne, Or.inl ⟨h4, rfl⟩⟩
theorem RB_0 {σ : ai_M} (hf : fiS 2 σ σ) (hm : miS σ σ) : RB σ σ := by
  obtain ⟨f1, f2, f3, f4, f5, f6, f7, f8, f9, f10, f11, -⟩ := hf
  obtain ⟨m0, m1, m2, m3, m4, m5, m6, m7, -⟩ := hm
  have e1 : nU σ = 0 := by unfold nU; rw [m1]; rfl
  have e2 : nM σ = 0 := by unfold nM; rw [m2]; rfl
  have e3 : nW σ = 0 := by unfold nW; rw [m3]; rfl
  have eh : hN σ = 0 := by
    have : hN σ = cnt (fun w => decide (w < 0)) 4 := cnt_cong (fun w hw => by rw [m6 w hw]; rfl)
    rw [this]; rfl
  refine ⟨⟨f1.trans m0.symm, f2.trans m1.symm, f3.trans m2.symm, f6.trans m3.symm⟩, fun i hi => (f4 i hi).trans (m5 i hi).symm, fun i hi => by omega, fun i hi => by omega, fun u r hu hr => ?_, fun i hi => by omega, fun k hk => by omega, f7.trans m4.symm, by rw [eh]; exact f8, fun i hi => (f9 i hi).trans (m6 i hi).symm, fun k hk => (f10 k hk).trans (m7 k hk).symm⟩
  have := f5 (4 * u + r) (by omega)
  rw [show σ 7 (4 * u + r) = 0 from this, ← mk_none 16]
  exact mkI_cong (fun f _ => by unfold canB; rw [e2]; rfl)
theorem RM_0 {σ : ai_M} : RM σ σ := ⟨rfl, rfl, rfl, rfl, rfl, fun _ _ => rfl, fun _ _ => rfl, fun _ _ => ⟨rfl, rfl, rfl⟩, fun _ _ => ⟨rfl, rfl, rfl, rfl⟩, fun _ _ => rfl, fun _ _ => rfl, fun _ _ => rfl⟩
end INI5
/-- what holds between the calls -/
def LI (xs : Nat → Int32) (σ : ai_M) : Prop := ∃ β, WF β ∧ RB σ β ∧ rcC Bst σ β ∧ RM σ β ∧ σ 0 = xs ∧ σ 1 = ai_tb
theorem RM_fr {σ σ1 β : ai_M} (h : RM σ β) (e : FrC σ σ1) : RM σ1 β := by
  unfold RM
  rw [e 35 (by omega), e 36 (by omega), e 37 (by omega), e 38 (by omega), e 39 (by omega), e 40 (by omega), e 41 (by omega), e 42 (by omega), e 43 (by omega), e 44 (by omega), e 45 (by omega), e 46 (by omega), e 47 (by omega)]
  exact h
theorem LI_step {xs : Nat → Int32} {σ σ1 σ2 : ai_M} {sp : Int32 × ai_M} {r1 r2 : Int32} (hw : WF sp.2) (h1 : PC Bst sp σ r1 σ1) (h2 : PM sp σ1 r2 σ2) (h0 : σ 0 = xs) (ht : σ 1 = ai_tb) : LI xs σ2 := by
  obtain ⟨-, p2, p3, p4⟩ := h1
  obtain ⟨-, q2, q3⟩ := h2
  exact ⟨sp.2, hw, p2.keep (fun c _ => q3 c (by omega)), p3.keep (fun c _ => q3 c (by omega)), q2, ((q3 0 (by omega)).trans (p4 0 (by omega))).trans h0, ((q3 1 (by omega)).trans (p4 1 (by omega))).trans ht⟩
section WFZ
variable {β : ai_M}
theorem wf_kind (hw : WF β) (u : Int32) : WF (sp_kind β u).2 := by unfold sp_kind; split <;> exact hw
theorem wf_about (hw : WF β) (k w : Int32) : WF (sp_about β k w).2 := by unfold sp_about; split <;> exact hw
theorem wf_wished (hw : WF β) (w q : Int32) : WF (sp_wished β w q).2 := by unfold sp_wished; split <;> exact hw
theorem wf_held (hw : WF β) (w r : Int32) : WF (sp_held β w r).2 := by
  unfold sp_held
  split
  · exact hw
  · split <;> exact hw
theorem wf_told (hw : WF β) (q : Int32) : WF (sp_told β q).2 := hw
theorem wf_best (hw : WF β) : WF (sp_best β).2 := hw
theorem wf_given (hw : WF β) (w r : Int32) : WF (sp_given β w r).2 := by
  unfold sp_given
  split
  · exact hw
  · split <;> exact hw
theorem wf_crossings (hw : WF β) : WF (sp_crossings β).2 := hw
theorem wf_blame (hw : WF β) : WF (sp_blame β).2 := hw
theorem wf_many (hw : WF β) : WF (sp_many β).2 := hw
theorem wf_setting (hw : WF β) (i : Int32) : WF (sp_setting β i).2 := hw
theorem wf_stands (hw : WF β) : WF (sp_stands β).2 := hw
theorem wf_trial (hw : WF β) (k R v p : Int32) : WF (sp_trial β k R v p).2 := by
  have hw4 := hw.1.2.2.2.2.2.2.2.2
  rcases wish_cases β k R v p with ⟨z0, z1, z2, z3⟩ | ⟨z0, -⟩
  · have en : nW (sp_wish β k R v p).2 = nW β + 1 := by rw [sp_wish, if_neg (fun q => q z1), if_neg (fun q => q z2), if_neg z3]; exact clN (by omega)
    rw [sp_trial, if_neg (fun q => q z0)]
    exact wf_back (wf_wish hw k R v p) (by omega)
  · rw [sp_trial, if_pos z0]; exact hw
theorem wf_hold (hw : WF β) : WF (sp_hold β).2 := by
  cases hb : bestB β false with
  | none => rw [sp_hold, hb]; exact hw
  | some y => rw [sp_hold, hb]; exact wf_take hw (best_mem hb)
theorem wf_change (hw : WF β) : WF (sp_change β).2 := by
  by_cases hz : β 35 14 = 0
  · rw [sp_change, if_pos hz]; exact hw
  · cases hb : bestB β true with
    | none => rw [sp_change, if_neg hz, hb]; exact hw
    | some y => rw [sp_change, if_neg hz, hb]; exact wf_take hw (best_mem hb)
end WFZ
