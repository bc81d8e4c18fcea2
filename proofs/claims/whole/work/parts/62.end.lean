section LAWS
variable {L : Nat} {xs : Nat → Int32}
theorem law_ev (hL : L ≤ 2560) : ev mL_law 60 0 (ai_en 4 [.ref 0]) [] [.inl L, .inl 15] (ai_s0 xs) 0 0 (fun r _ _ => r = some (.int 1)) := by
  refine ev_new nf4 dL_law_0 clL_7 (by decide) (by decide) ?_
  show ev mL_law 60 3 [some (.ref 0), none, none, none] [.ref 2] ([.inl L, .inl 15] ++ [.inr (4, nf4)]) (ai_new (ai_s0 xs) 2) 1 7 (fun r _ _ => r = some (.int 1))
  refine ev_dup dL_law_3 rfl ?_
  refine ev_callI (d := 59) (by decide) dL_law_4 okX4_init ilL_9 inX4_init rfl (by decide) (Nat.le_of_ble_eq_true rfl) (by decide) (by decide) (t_X4_init (d := 56) (P := [.inl L, .inl 15]) (a := 2) rfl (by decide)) ?_
  rintro r y' σ1 ⟨rfl, rfl, h1⟩
  show ev mL_law 60 7 [some (.ref 0), none, none, none] [.ref 2] (P35 L) σ1 33 615 (fun r _ _ => r = some (.int 1))
  refine ev_astore_n dL_law_7 (by decide) ?_
  refine ev_new nf5 dL_law_8 clL_10 (by decide) (by decide) ?_
  show ev mL_law 60 11 [some (.ref 0), some (.ref 2), none, none] [.ref 35] (P35 L ++ [.inr (5, nf5)]) (ai_new σ1 35) 34 642 (fun r _ _ => r = some (.int 1))
  refine ev_dup dL_law_11 rfl ?_
  refine ev_callI (d := 59) (by decide) dL_law_12 okX5_init ilL_12 inX5_init rfl (by decide) (Nat.le_of_ble_eq_true rfl) (by decide) (by decide) (t_X5_init (d := 57) (L := L)) ?_
  rintro r y' σ2 ⟨rfl, rfl, h2⟩
  show ev mL_law 60 15 [some (.ref 0), some (.ref 2), none, none] [.ref 35] (LY L) σ2 51 886 (fun r _ _ => r = some (.int 1))
  refine ev_astore_n dL_law_15 (by decide) ?_
  refine ev_iconst 0 dL_law_16 (by decide) ?_
  refine ev_istore_n dL_law_17 (by decide) ?_
  have fr : ∀ c, c < 35 → σ2 c = σ1 c := fun c hc => by rw [h2.2.2.2.2.2.2.2.2 c hc, nw_lt hc]
  have hf : fiS 2 σ2 σ2 := by
    obtain ⟨f1, f2, f3, f4, f5, f6, f7, f8, f9, f10, f11, -⟩ := h1
    refine ⟨?_, ?_, ?_, fun i hi => ?_, fun i hi => ?_, ?_, ?_, ?_, fun i hi => ?_, fun i hi => ?_, ?_, fun _ _ => rfl⟩
    · rw [fr _ (by decide)]; exact f1
    · rw [fr _ (by decide)]; exact f2
    · rw [fr _ (by decide)]; exact f3
    · rw [fr _ (by decide)]; exact f4 i hi
    · rw [fr _ (by decide)]; exact f5 i hi
    · rw [fr _ (by decide)]; exact f6
    · rw [fr _ (by decide)]; exact f7
    · rw [fr _ (by decide)]; exact f8
    · rw [fr _ (by decide)]; exact f9 i hi
    · rw [fr _ (by decide)]; exact f10 i hi
    · rw [fr _ (by decide)]; exact f11
  obtain ⟨m0, m1, m2, m3, m4, m5, m6, m7, m8⟩ := id h2
  refine law_loop (xs := xs) hL L 0 (by omega) (by omega) σ2 ⟨σ2, wf_0 m0 m1 m2 m3 m4 m6 m7, RB_0 hf ⟨m0, m1, m2, m3, m4, m5, m6, m7, fun _ _ => rfl⟩, Or.inl hf.2.2.2.2.2.2.2.2.2.2.1, RM_0, ?_, ?_⟩
  · rw [fr 0 (by decide), h1.2.2.2.2.2.2.2.2.2.2.2 0 (by decide)]; rfl
  · rw [fr 1 (by decide), h1.2.2.2.2.2.2.2.2.2.2.2 1 (by decide)]; rfl
end LAWS
theorem whole_start {p : Program} {e : Env} {s : State} {m : MethodId} {below : List Frame} {meth : Method} {c : Code} (l : Launch) {b L : Nat} {xs : Nat → Int32} (hL : L ≤ 2560) (C0 : lw_At p s m meth c b L xs) : W p l e room_1 s m #[Value.ref b] below meth c s.heap [] 0 0 (lw_Z below #[Value.ref b] s) (entryFrame m ([Value.ref b] : List Value).toArray 4) :=
  ai_begin l hL C0 (law_ev hL)
