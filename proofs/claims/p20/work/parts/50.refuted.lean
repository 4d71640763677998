theorem rf_never {Post : Tables → Env → Array Value → State → Outcome → State → Prop} (hP : ∀ tb e a s o t, Post tb e a s o t → ∃ v : Option Value, o = Outcome.returned v) :
    ¬ ArmFor flags0 classFile x code maxLocals ret World_1 tables_1 room_1 Calls_1 rest_1 Pre_1 Post := by
  intro hC
  obtain ⟨hL, hW, had, -, hcas, hclk, hfr, hfit, hheap, happ, hcalls, hrest, hpre⟩ := rf_atStart
  obtain ⟨n, o, hin, -, hend, hpost⟩ := hC launch0 rfl hL hW start1.p0 start1.e0 had hcas hclk rf_about ⟨0, 0⟩ start1.args0 rf_below hfr hfit hheap happ ⟨hcalls, hrest, hpre⟩
  have hK : 43 < n := by
    rcases Nat.lt_or_ge 43 n with h | h
    · exact h
    · exact absurd hend (rf_ok_not (rf_pre_ok _ _ 43 _ rf_run n h))
  obtain ⟨N, f, g, hf, hN, h1, h2, h3, h4, h5, h6⟩ := rf_dead_frames rf_run_dead (hin 43 hK)
  have hd := (rf_cert (tb := start1.p0.tables) hf hN h1 h2 h3 h4 h5 h6 (Refuse.stepsAlone_method? _ _ 43 rf_ctor_at) (Refuse.stepsAlone_method? _ _ 43 rf_law_at)).doomed start1.e0
  have hal := hd (n - 43) (fun k hk => by
    have := hin (43 + k) (by omega)
    rwa [stepsAlone_add] at this)
  rw [← stepsAlone_add, Nat.add_sub_cancel' (Nat.le_of_lt hK)] at hal
  obtain ⟨v, rfl⟩ := hP _ _ _ _ _ _ hpost
  exact Refuse.Alive.not_returned (fun g r hb => by simp [rf_below] at hb) hal v hend
/-- BOTH HALVES OF THE CLAIM AS WRITTEN ARE FALSE: at the start rf_about, which meets every premise, the law doesn't return -/
theorem rf_refuted_1 : ¬ Claimed_1_1 := rf_never fun _ _ _ _ _ _ h => h.2.1
theorem rf_refuted_2 : ¬ Claimed_1_2 := rf_never fun _ _ _ _ _ _ h => h.2.1
theorem rf_refuted : ¬ (Claimed_1_1 ∧ Claimed_1_2) := fun h => rf_refuted_1 h.1
