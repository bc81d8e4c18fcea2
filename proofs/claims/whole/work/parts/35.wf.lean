section WFS
variable {β : ai_M}
theorem opt.mono {x : Int32} {n m : Nat} (h : opt x n) (hnm : n ≤ m) : opt x m := by
  rcases h with h | ⟨f, h1, h2⟩
  · exact Or.inl h
  · exact Or.inr ⟨f, by omega, h2⟩
theorem wf_volt (hw : WF β) (f v : Int32) : WF (sp_volt β f v).2 := by
  unfold sp_volt
  split
  · exact hw
  · split
    · exact hw
    · exact hw
theorem wf_unit (hw : WF β) (k : Int32) : WF (sp_unit β k).2 := by
  unfold sp_unit
  split
  · exact hw
  · split
    · exact hw
    · rename_i h6
      obtain ⟨hN, hU, hW, hX, h, h4, a1, a2, a3, a4, a5, a6, a7⟩ := id hw
      have hle := hN.2.2.2.2.1
      have en : nU (ai_up (ai_up β 37 (nU β) k) 35 2 (nI (nU β + 1))) = nU β + 1 := clN (by omega)
      refine ⟨⟨hN.1, hN.2.1, hN.2.2.1, ?_, by rw [en]; omega, hN.2.2.2.2.2⟩, ?_, hW, hX, h, h4, ?_, a2, a3, a4, a5, a6, a7⟩
      · rw [en]; rfl
      · intro i hi
        obtain ⟨f, u, r, q1, q2, q3⟩ := hU i hi
        exact ⟨f, u, r, q1, by rw [en]; omega, q3⟩
      · intro w hw'
        obtain ⟨u, q1, q2⟩ := a1 w hw'
        exact ⟨u, by rw [en]; omega, q2⟩
theorem wf_use (hw : WF β) (f u r : Int32) : WF (sp_use β f u r).2 := by
  unfold sp_use
  split
  · exact hw
  · split
    · exact hw
    · split
      · exact hw
      · split
        · exact hw
        · rename_i q1 q2 q3 q4
          obtain ⟨hN, hU, hW, hX, hH⟩ := id hw
          have q1' := Decidable.not_not.mp q1
          have q2' := Decidable.not_not.mp q2
          have hle := hN.2.2.2.2.2.2.1
          have en : nM (ai_up (ai_up (ai_up (ai_up β 38 (nM β) f) 39 (nM β) u) 40 (nM β) r) 35 4 (nI (nM β + 1))) = nM β + 1 := clN (by omega)
          refine ⟨⟨hN.1, hN.2.1, hN.2.2.1, hN.2.2.2.1, hN.2.2.2.2.1, by rw [en]; rfl, by rw [en]; omega, hN.2.2.2.2.2.2.2⟩, ?_, hW, hX, hH⟩
          intro i hi
          rw [en] at hi
          show ∃ f' u' r', f' < nF β ∧ u' < nU β ∧ r' < 4 ∧ upd (β 38) (nM β) f i = _ ∧ upd (β 39) (nM β) u i = _ ∧ upd (β 40) (nM β) r i = _
          unfold upd
          by_cases hz : i = nM β
          · obtain ⟨f', g1, g2, -⟩ := inRn (k := nF β) (by rw [← hN.f]; exact q1'.1)
            obtain ⟨u', g3, g4, -⟩ := inRn (k := nU β) (by rw [← hN.u]; exact q1'.2)
            obtain ⟨r', g5, g6, -⟩ := inR4 q2'
            exact ⟨f', u', r', g1, g3, g5, by rw [if_pos hz]; exact g2, by rw [if_pos hz]; exact g4, by rw [if_pos hz]; exact g6⟩
          · obtain ⟨f', u', r', g⟩ := hU i (by omega)
            exact ⟨f', u', r', g.1, g.2.1, g.2.2.1, by rw [if_neg hz]; exact g.2.2.2.1, by rw [if_neg hz]; exact g.2.2.2.2.1, by rw [if_neg hz]; exact g.2.2.2.2.2⟩
theorem wf_wish (hw : WF β) (k R v p : Int32) : WF (sp_wish β k R v p).2 := by
  unfold sp_wish
  split
  · exact hw
  · split
    · exact hw
    · split
      · exact hw
      · rename_i q1 q2 q3
        obtain ⟨hN, hU, hW, hX, hH⟩ := id hw
        have q1' := Decidable.not_not.mp q1
        have q2' := Decidable.not_not.mp q2
        have hle := hN.2.2.2.2.2.2.2.2
        have en : nW (ai_up (ai_set (ai_up (ai_up (ai_up (ai_up β 41 (nW β) k) 42 (nW β) R) 43 (nW β) v) 44 (nW β) p) 45 (fun j => if 4 * nW β ≤ j ∧ j < 4 * nW β + 4 then -6 else β 45 j)) 35 8 (nI (nW β + 1))) = nW β + 1 := clN (by omega)
        refine ⟨⟨hN.1, hN.2.1, hN.2.2.1, hN.2.2.2.1, hN.2.2.2.2.1, hN.2.2.2.2.2.1, hN.2.2.2.2.2.2.1, by rw [en]; rfl, by rw [en]; omega⟩, hU, ?_, ?_, hH⟩
        · intro i hi
          rw [en] at hi
          show (∃ R', 1 ≤ R' ∧ R' ≤ 15 ∧ upd (β 42) (nW β) R i = nI R') ∧ ∃ p', p' < nF β ∧ upd (β 44) (nW β) p i = nI p'
          unfold upd
          by_cases hz : i = nW β
          · obtain ⟨p', g1, g2, -⟩ := inRn (k := nF β) (by rw [← hN.f]; exact q1')
            have h1 := q2'.2.1
            simp only [inn, Int32.le_iff_toInt_le, c1n, c15n] at h1
            have h2 := clampI (x := R) (by omega)
            exact ⟨⟨R.toNatClampNeg, by omega, by omega, by rw [if_pos hz]; exact nnI (by omega)⟩, p', g1, by rw [if_pos hz]; exact g2⟩
          · rw [if_neg hz, if_neg hz]; exact hW i (by omega)
        · intro j hj
          rw [en] at hj
          show opt (if 4 * nW β ≤ j ∧ j < 4 * nW β + 4 then -6 else β 45 j) (nF β)
          by_cases hz : 4 * nW β ≤ j ∧ j < 4 * nW β + 4
          · rw [if_pos hz]; exact Or.inl rfl
          · rw [if_neg hz]; exact hX j (by omega)
theorem wf_back (hw : WF β) {n : Nat} (h : n ≤ nW β) : WF (ai_up β 35 8 (nI n)) := by
  obtain ⟨hN, hU, hW, hX, hH⟩ := id hw
  have hle := hN.2.2.2.2.2.2.2.2
  have en : nW (ai_up β 35 8 (nI n)) = n := clN (by omega)
  exact ⟨⟨hN.1, hN.2.1, hN.2.2.1, hN.2.2.2.1, hN.2.2.2.2.1, hN.2.2.2.2.2.1, hN.2.2.2.2.2.2.1, by rw [en]; rfl, by rw [en]; omega⟩, hU, fun i hi => hW i (by rw [en] at hi; omega), fun j hj => hX j (by rw [en] at hj; omega), hH⟩
theorem wf_drop (hw : WF β) : WF (sp_drop β).2 := by
  unfold sp_drop
  split
  · exact hw
  · exact wf_back hw (by omega)
theorem wf_fix (hw : WF β) (w r f : Int32) : WF (sp_fix β w r f).2 := by
  unfold sp_fix
  split
  · exact hw
  · split
    · exact hw
    · rename_i q1 q2
      have q1' := Decidable.not_not.mp q1
      obtain ⟨hN, hU, hW, hX, hH⟩ := id hw
      refine ⟨hN, hU, hW, ?_, hH⟩
      intro j hj
      show opt (upd (β 45) _ _ j) (nF β)
      unfold upd
      split
      · by_cases hf : f = -1
        · rw [if_pos hf]; exact Or.inl rfl
        · rw [if_neg hf]
          obtain ⟨f', g1, g2, -⟩ := inRn (k := nF β) (by rw [← hN.f]; exact q1'.2.resolve_left hf)
          exact Or.inr ⟨f', g1, g2⟩
      · exact hX j hj
theorem wf_feet (hw : WF β) (n : Int32) : WF (sp_feet β n).2 := by
  unfold sp_feet
  split
  · exact hw
  · rename_i q
    have q' := Decidable.not_not.mp q
    simp only [inn, Int32.le_iff_toInt_le, c4, c16n] at q'
    have hc := clampI (x := n) (by omega)
    have en : nF (emB (ai_up (ai_up (ai_up (ai_set (ai_up β 35 0 n) 36 (fun _ => 1)) 35 2 0) 35 4 0) 35 8 0)) = n.toNatClampNeg := rfl
    refine ⟨⟨?_, by rw [en]; omega, by rw [en]; omega, rfl, Nat.zero_le _, rfl, Nat.zero_le _, rfl, Nat.zero_le _⟩, fun i hi => absurd hi (Nat.not_lt_zero i), fun i hi => absurd hi (Nat.not_lt_zero i), fun i hi => absurd hi (by show ¬ i < 4 * 0; omega), 0, by omega, fun w hw => absurd hw (Nat.not_lt_zero w), fun w _ _ => rfl, fun w v hw => absurd hw (Nat.not_lt_zero w), fun k _ => Or.inl rfl, fun k _ _ => rfl, fun j k _ _ _ h => absurd rfl h, Or.inl ⟨rfl, rfl⟩⟩
    rw [en]; exact nnI (x := n) (by omega)
end WFS
