set_option maxHeartbeats 1000000 in
set_option maxRecDepth 100000 in
theorem c_X0_leaps (l : Launch) (dC : Nat → ClassId) (dI : Nat → Nat → Nat) (cI : ClassId) (b : Nat → Nat) (n : Nat) (F T P V : Nat → Int32) (o kr : Nat → Nat) (hn : n ≤ 60) (ho : ∀ j, o j < 60) (Wt : Nat → Int32) (p1 p2 : Int32) (hkr : ∀ j, j < n → kr j < n)  : Met l yX0_leaps wsX0_leaps ({ frames := 1, cells := 0, slots := 0, locals := 22 } : Room) (va_Pc [.ref (b 13)] (fun U => va_P (dC, dI) vwCl [(b 13, .inr (0, [.ref (b 1), .ref (b 8), .ref (b 12)])), (b 8, .inl (cI, 4, .inl Wt)), (b 12, .inr (4, [.ref (b 1), .int p1, .int p2])), (b 1, .inr (6, [.int (nI n), .ref (b 2), .ref (b 3), .ref (b 4), .ref (b 5), .ref (b 6), .ref (b 7)])), (b 2, .inl (cI, 60, .inl F)), (b 3, .inl (cI, 60, .inl T)), (b 4, .inl (cI, 60, .inl P)), (b 5, .inl (cI, 60, .inl V)), (b 6, .inl (cI, 60, .inl (fun j => nI (o j)))), (b 7, .inl (cI, 60, .inl (fun j => nI (kr j))))] U.heap ∧ va_K (dC, dI) vwCl [(cI, .int)] U)) (vp_Si (fun r => r = lpC P V Wt o kr n)) 0 0 (fun _ => False) := by
  refine Met.ofW (cc := cX0_leaps) (maxL := 4) (ret := (some .int)) (by decide) rfl ?_
  intro p e s m args below meth c s₁ B hml hv
  obtain ⟨rfl, hP, hK⟩ := hv
  have hx := B.exec
  have hb := B.bytes
  have hr := B.returns
  have hts := atoms_spec (ws := wsX0_leaps) B.pre
  have hown : s.vm.findClass RX0 = some m.cls := findClass_of_methodNamed B.named
  have hlocks := B.notSynchronized
  have i_X0 : ∀ w ∈ u_ws RX0 TX0 3, w ∈ wsX0_leaps := by decide +kernel
  have i_X6 : ∀ w ∈ u_ws RX6 TX6 7, w ∈ wsX0_leaps := by decide +kernel
  have k_0 := hts (.fieldLink RX0 9 "VoiceRows$Bill" "score" "LVoiceRows$Score;") (by decide +kernel)
  have k_1 := hts (.fieldLink RX0 36 "VoiceRows$Score" "count" "I") (by decide +kernel)
  have k_2 := hts (.fieldLink RX0 15 "VoiceRows$Bill" "weights" "[I") (by decide +kernel)
  have k_3 := hts (.fieldLink RX0 46 "VoiceRows$Score" "pitch" "[I") (by decide +kernel)
  have k_4 := hts (.methodLink RX0 49 Lib.Math.abs.name) (by decide +kernel)
  have k_5 := hts (.static Lib.Math.abs.name) (by decide +kernel)
  have k_6 := hts (.initialized "java/lang/Math") (by decide +kernel)
  have k_7 := hts (.code Lib.Math.abs.name Lib.Math.abs.code 1 (some .int)) (by decide +kernel)
  have hl := lv_entry ([.ref (b 13)]) (n := 4) (Nat.le_of_ble_eq_true rfl)
  rw [lg_entry_eq]
  generalize (lg_sl ([.ref (b 13)]) ++ List.replicate (4 - (lg_sl ([.ref (b 13)])).length) Slot.unset).toArray = ls at hl ⊢
  have hl : lv_has ls 4 [(0, .ref (b 13))] := hl
  have hfl : ∀ k, flC V o kr n k ≤ 60 := fun k => flC_le ho
  refine lv_iconst (v := 0) hx hb dX0_leaps_0 (by decide) ?_
  refine lv_istore_n (lv' := [(1, .int 0), (0, .ref (b 13))]) hx hb dX0_leaps_1 rfl hl (by decide) rfl (fun ls hl => ?_)
  refine lv_iconst (v := 0) hx hb dX0_leaps_2 (by decide) ?_
  refine lv_istore_n (lv' := [(2, .int 0), (1, .int 0), (0, .ref (b 13))]) hx hb dX0_leaps_3 rfl hl (by decide) rfl (fun ls hl => ?_)
  have L4 : ∀ (fu : Nat) (k : Nat) (x1 x2 : Int32) (ls : Array Slot), x1 = smC (fun k => decide (flC V o kr n k ≠ 0)) (fun k => abI (P (flC V o kr n k - 1) - P k)) k → x2 = nI k → k ≤ n → n - k < fu → lv_has ls 4 [(0, .ref (b 13)), (1, .int x1), (2, .int x2)] → W p l e (headSpec wsX0_leaps ({ frames := 1, cells := 0, slots := 0, locals := 22 } : Room)).room s m [.ref (b 13)].toArray below meth c s.heap [] 0 0 (MQ below (vp_Si (fun r => r = lpC P V Wt o kr n)) [.ref (b 13)].toArray s 0 0 (fun _ => False)) (F0 m 4 ls []) := by
    intro fu
    induction fu with
    | zero =>
      intro k x1 x2 ls e1 e2 h4_0 hfu4 hl
      exact absurd hfu4 (Nat.not_lt_zero _)
    | succ fu ih4 =>
      intro k x1 x2 ls e1 e2 h4_0 hfu4 hl
      subst e1
      subst e2
      refine lv_iload_n hx hb dX0_leaps_4 rfl (lv_at hl 2 rfl) ?_
      refine lv_aload_n hx hb dX0_leaps_5 rfl (lv_at hl 0 rfl) ?_
      refine va_get (D := (dC, dI)) (ci := 0) (v := .ref (b 1)) (C := RX0) (T := TX0) (N := 3) hx hb hts i_X0 hown hK hP 0 rfl rfl 0 (by decide) k_0 (fun _ h9 => h9) rfl dX0_leaps_6 ?_
      refine va_get (D := (dC, dI)) (ci := 6) (v := .int (nI n)) (C := RX6) (T := TX6) (N := 7) hx hb hts i_X6 hown hK hP 3 rfl rfl 0 (by decide) k_1 (fun _ h9 => h9) rfl dX0_leaps_9 ?_
      refine lv_icmp_ge (tgt := 60) hx hb dX0_leaps_12 (by decide) (fun c_1 => ?_) (fun c_1 => ?_)
      · skip
        have c_1 : k ≥ n := gk_geT (a := k) (b := n) (by first | omega | exact Nat.lt_of_le_of_lt atN_le (by omega) | exact Nat.lt_of_le_of_lt szN_le (by omega) | exact Nat.lt_of_le_of_lt clM_le (by omega) | exact Nat.lt_of_le_of_lt rkN_le (by omega) | exact Nat.lt_of_le_of_lt (cnt_le _ _) (by omega)) (by first | omega | exact Nat.lt_of_le_of_lt atN_le (by omega) | exact Nat.lt_of_le_of_lt szN_le (by omega) | exact Nat.lt_of_le_of_lt clM_le (by omega) | exact Nat.lt_of_le_of_lt rkN_le (by omega) | exact Nat.lt_of_le_of_lt (cnt_le _ _) (by omega)) c_1
        refine lv_iload_n hx hb dX0_leaps_60 rfl (lv_at hl 1 rfl) ?_
        refine lv_aload_n hx hb dX0_leaps_61 rfl (lv_at hl 0 rfl) ?_
        refine va_get (D := (dC, dI)) (ci := 0) (v := .ref (b 8)) (C := RX0) (T := TX0) (N := 3) hx hb hts i_X0 hown hK hP 0 rfl rfl 1 (by decide) k_2 (fun _ h9 => h9) rfl dX0_leaps_62 ?_
        refine lv_iconst (v := 0) hx hb dX0_leaps_65 (by decide) ?_
        refine gk_ld hx hb hK hP 1 0 rfl rfl 0 (by omega) (by omega) (v := Wt 0) (rfl) dX0_leaps_66 ?_
        refine lv_imul hx hb dX0_leaps_67 ?_
        exact W.iret (v := (smC (fun k => decide (flC V o kr n k ≠ 0)) (fun k => abI (P (flC V o kr n k - 1) - P k)) k) * (Wt 0)) hx hb hr (fun t ht _ => ⟨_, rfl, by (obtain rfl : k = n := by omega); rfl, ht⟩) (fun q h => by cases h) dX0_leaps_68
      · skip
        have c_1 : k < n := gk_geF (a := k) (b := n) (by first | omega | exact Nat.lt_of_le_of_lt atN_le (by omega) | exact Nat.lt_of_le_of_lt szN_le (by omega) | exact Nat.lt_of_le_of_lt clM_le (by omega) | exact Nat.lt_of_le_of_lt rkN_le (by omega) | exact Nat.lt_of_le_of_lt (cnt_le _ _) (by omega)) (by first | omega | exact Nat.lt_of_le_of_lt atN_le (by omega) | exact Nat.lt_of_le_of_lt szN_le (by omega) | exact Nat.lt_of_le_of_lt clM_le (by omega) | exact Nat.lt_of_le_of_lt rkN_le (by omega) | exact Nat.lt_of_le_of_lt (cnt_le _ _) (by omega)) c_1
        refine lv_aload_n hx hb dX0_leaps_15 rfl (lv_at hl 0 rfl) ?_
        refine va_get (D := (dC, dI)) (ci := 0) (v := .ref (b 1)) (C := RX0) (T := TX0) (N := 3) hx hb hts i_X0 hown hK hP 0 rfl rfl 0 (by decide) k_0 (fun _ h9 => h9) rfl dX0_leaps_16 ?_
        refine lv_iload_n hx hb dX0_leaps_19 rfl (lv_at hl 2 rfl) ?_
        have hPc_2 := hP.sub (ws' := (sW cI b (nI n) F T P V (fun j => nI (o j)) (fun j => nI (kr j)))) [3, 4, 5, 6, 7, 8, 9] rfl
        refine vp_callSi (gk_run (va_runV (As := [.int (nI k)]) (rest := []) ⟨hx, hb, hml, hown, hts⟩ (c_X6_following l dC dI cI b n F T P V o kr hn ho hkr k (by omega)) (cwV 1 hts gX0_leaps_X6_following rfl rfl rfl (by decide +kernel) ⟨Nat.le_of_ble_eq_true rfl, Nat.le_of_ble_eq_true rfl⟩) ⟨gk_fb, va_recv hK hPc_2 (ci := 6) (q0 := 0) rfl rfl, fun U hU hW => ⟨rfl, by rw [hU]; exact hPc_2, va_K.moved hW.alike hK⟩⟩ rfl rfl hl.1 rfl (lv_room (Nat.le_of_ble_eq_true rfl)) dX0_leaps_20 ⟨Nat.zero_le _, Nat.zero_le _⟩)) (fun r_3 er_3 => ?_)
        subst er_3
        refine lv_istore_n (lv' := [(3, .int (oi (flC V o kr n k))), (0, .ref (b 13)), (1, .int (smC (fun k => decide (flC V o kr n k ≠ 0)) (fun k => abI (P (flC V o kr n k - 1) - P k)) k)), (2, .int (nI k))]) hx hb dX0_leaps_23 rfl hl (by decide) rfl (fun ls hl => ?_)
        refine lv_iload_n hx hb dX0_leaps_24 rfl (lv_at hl 0 rfl) ?_
        refine lv_iconst (v := (-1)) hx hb dX0_leaps_25 (by decide) ?_
        refine lv_icmp_eq (tgt := 54) hx hb dX0_leaps_26 (by decide) (fun c_4 => ?_) (fun c_4 => ?_)
        · skip
          have c_4 : (flC V o kr n k) = 0 := (oi_m1 (by exact Nat.lt_of_le_of_lt (flC_le ho) (by decide))).mp c_4
          refine lv_iinc (v := nI (k + 1)) (lv' := [(2, .int (nI (k + 1))), (3, .int (oi (flC V o kr n k))), (0, .ref (b 13)), (1, .int (smC (fun k => decide (flC V o kr n k ≠ 0)) (fun k => abI (P (flC V o kr n k - 1) - P k)) k))]) hx hb dX0_leaps_54 hl (k := 3) rfl (gk_inc1 _) (by decide) rfl (fun ls hl => ?_)
          refine lv_goto (tgt := 4) hx hb dX0_leaps_57 (by decide) ?_
          exact ih4 (k + 1) _ _ ls (by first | rfl | exact smI_a (c := (fun k => decide (flC V o kr n k ≠ 0))) (f := (fun k => abI (P (flC V o kr n k - 1) - P k))) (by simp [*]) rfl | exact smC_n (c := (fun k => decide (flC V o kr n k ≠ 0))) (f := (fun k => abI (P (flC V o kr n k - 1) - P k))) (by simp [*])) (by first | rfl | exact smI_a (c := (fun k => decide (flC V o kr n k ≠ 0))) (f := (fun k => abI (P (flC V o kr n k - 1) - P k))) (by simp [*]) rfl | exact smC_n (c := (fun k => decide (flC V o kr n k ≠ 0))) (f := (fun k => abI (P (flC V o kr n k - 1) - P k))) (by simp [*])) (by omega) (by omega) (lv_sub hl [2, 3, 0] rfl)
        · skip
          have c_4 : (flC V o kr n k) ≠ 0 := fun q => c_4 ((oi_m1 (by exact Nat.lt_of_le_of_lt (flC_le ho) (by decide))).mpr q)
          refine lv_iload_n hx hb dX0_leaps_29 rfl (lv_at hl 2 rfl) ?_
          refine lv_aload_n hx hb dX0_leaps_30 rfl (lv_at hl 1 rfl) ?_
          refine va_get (D := (dC, dI)) (ci := 0) (v := .ref (b 1)) (C := RX0) (T := TX0) (N := 3) hx hb hts i_X0 hown hK hP 0 rfl rfl 0 (by decide) k_0 (fun _ h9 => h9) rfl dX0_leaps_31 ?_
          refine va_get (D := (dC, dI)) (ci := 6) (v := .ref (b 4)) (C := RX6) (T := TX6) (N := 7) hx hb hts i_X6 hown hK hP 3 rfl rfl 3 (by decide) k_3 (fun _ h9 => h9) rfl dX0_leaps_34 ?_
          refine lv_iload_n hx hb dX0_leaps_37 rfl (lv_at hl 0 rfl) ?_
          refine gk_top (y := nI (flC V o kr n k - 1)) (oi_pos (by assumption)) ?_
          refine gk_ld hx hb hK hP 6 0 rfl rfl (flC V o kr n k - 1) (by have := hfl k; omega) (by omega) (v := P (flC V o kr n k - 1)) (rfl) dX0_leaps_38 ?_
          refine lv_aload_n hx hb dX0_leaps_39 rfl (lv_at hl 1 rfl) ?_
          refine va_get (D := (dC, dI)) (ci := 0) (v := .ref (b 1)) (C := RX0) (T := TX0) (N := 3) hx hb hts i_X0 hown hK hP 0 rfl rfl 0 (by decide) k_0 (fun _ h9 => h9) rfl dX0_leaps_40 ?_
          refine va_get (D := (dC, dI)) (ci := 6) (v := .ref (b 4)) (C := RX6) (T := TX6) (N := 7) hx hb hts i_X6 hown hK hP 3 rfl rfl 3 (by decide) k_3 (fun _ h9 => h9) rfl dX0_leaps_43 ?_
          refine lv_iload_n hx hb dX0_leaps_46 rfl (lv_at hl 3 rfl) ?_
          refine gk_ld hx hb hK hP 6 0 rfl rfl k (by omega) (by omega) (v := P k) (rfl) dX0_leaps_47 ?_
          refine lv_isub hx hb dX0_leaps_48 ?_
          refine va_mabs hx hb (hml.trans hl.1.symm) hown k_4 k_5 k_6 k_7 (Nat.le_of_ble_eq_true rfl) (Nat.le_of_ble_eq_true rfl) (Nat.zero_le _) (Nat.zero_le _) dX0_leaps_49 ?_
          refine gk_top (y := abI (P (flC V o kr n k - 1) - P k)) (rfl) ?_
          refine lv_iadd hx hb dX0_leaps_52 ?_
          refine lv_istore_n (lv' := [(1, .int ((smC (fun k => decide (flC V o kr n k ≠ 0)) (fun k => abI (P (flC V o kr n k - 1) - P k)) k) + (abI (P (flC V o kr n k - 1) - P k)))), (3, .int (oi (flC V o kr n k))), (0, .ref (b 13)), (2, .int (nI k))]) hx hb dX0_leaps_53 rfl hl (by decide) rfl (fun ls hl => ?_)
          refine lv_iinc (v := nI (k + 1)) (lv' := [(2, .int (nI (k + 1))), (1, .int ((smC (fun k => decide (flC V o kr n k ≠ 0)) (fun k => abI (P (flC V o kr n k - 1) - P k)) k) + (abI (P (flC V o kr n k - 1) - P k)))), (3, .int (oi (flC V o kr n k))), (0, .ref (b 13))]) hx hb dX0_leaps_54 hl (k := 3) rfl (gk_inc1 _) (by decide) rfl (fun ls hl => ?_)
          refine lv_goto (tgt := 4) hx hb dX0_leaps_57 (by decide) ?_
          exact ih4 (k + 1) _ _ ls (by first | rfl | exact smI_a (c := (fun k => decide (flC V o kr n k ≠ 0))) (f := (fun k => abI (P (flC V o kr n k - 1) - P k))) (by simp [*]) rfl | exact smC_n (c := (fun k => decide (flC V o kr n k ≠ 0))) (f := (fun k => abI (P (flC V o kr n k - 1) - P k))) (by simp [*])) (by first | rfl | exact smI_a (c := (fun k => decide (flC V o kr n k ≠ 0))) (f := (fun k => abI (P (flC V o kr n k - 1) - P k))) (by simp [*]) rfl | exact smC_n (c := (fun k => decide (flC V o kr n k ≠ 0))) (f := (fun k => abI (P (flC V o kr n k - 1) - P k))) (by simp [*])) (by omega) (by omega) (lv_sub hl [3, 1, 0] rfl)
  exact L4 ((n) + 1) 0 _ _ ls (by first | rfl | exact smI_a (c := (fun k => decide (flC V o kr n k ≠ 0))) (f := (fun k => abI (P (flC V o kr n k - 1) - P k))) (by simp [*]) rfl | exact smC_n (c := (fun k => decide (flC V o kr n k ≠ 0))) (f := (fun k => abI (P (flC V o kr n k - 1) - P k))) (by simp [*])) (by first | rfl | exact smI_a (c := (fun k => decide (flC V o kr n k ≠ 0))) (f := (fun k => abI (P (flC V o kr n k - 1) - P k))) (by simp [*]) rfl | exact smC_n (c := (fun k => decide (flC V o kr n k ≠ 0))) (f := (fun k => abI (P (flC V o kr n k - 1) - P k))) (by simp [*])) (by omega) (by omega) (lv_sub hl [2, 1, 0] rfl)

set_option maxHeartbeats 1000000 in
set_option maxRecDepth 100000 in
theorem c_X0_gaps (l : Launch) (dC : Nat → ClassId) (dI : Nat → Nat → Nat) (cI : ClassId) (b : Nat → Nat) (n : Nat) (F T P V : Nat → Int32) (o kr : Nat → Nat) (hn : n ≤ 60) (ho : ∀ j, o j < 60) (Wt : Nat → Int32) (p1 p2 : Int32) (hkr : ∀ j, j < n → kr j < n)  : Met l yX0_gaps wsX0_gaps ({ frames := 1, cells := 0, slots := 0, locals := 22 } : Room) (va_Pc [.ref (b 13)] (fun U => va_P (dC, dI) vwCl [(b 13, .inr (0, [.ref (b 1), .ref (b 8), .ref (b 12)])), (b 8, .inl (cI, 4, .inl Wt)), (b 12, .inr (4, [.ref (b 1), .int p1, .int p2])), (b 1, .inr (6, [.int (nI n), .ref (b 2), .ref (b 3), .ref (b 4), .ref (b 5), .ref (b 6), .ref (b 7)])), (b 2, .inl (cI, 60, .inl F)), (b 3, .inl (cI, 60, .inl T)), (b 4, .inl (cI, 60, .inl P)), (b 5, .inl (cI, 60, .inl V)), (b 6, .inl (cI, 60, .inl (fun j => nI (o j)))), (b 7, .inl (cI, 60, .inl (fun j => nI (kr j))))] U.heap ∧ va_K (dC, dI) vwCl [(cI, .int)] U)) (vp_Si (fun r => r = gpC F T V Wt o kr n)) 0 0 (fun _ => False) := by
  refine Met.ofW (cc := cX0_gaps) (maxL := 4) (ret := (some .int)) (by decide) rfl ?_
  intro p e s m args below meth c s₁ B hml hv
  obtain ⟨rfl, hP, hK⟩ := hv
  have hx := B.exec
  have hb := B.bytes
  have hr := B.returns
  have hts := atoms_spec (ws := wsX0_gaps) B.pre
  have hown : s.vm.findClass RX0 = some m.cls := findClass_of_methodNamed B.named
  have hlocks := B.notSynchronized
  have i_X0 : ∀ w ∈ u_ws RX0 TX0 3, w ∈ wsX0_gaps := by decide +kernel
  have i_X6 : ∀ w ∈ u_ws RX6 TX6 7, w ∈ wsX0_gaps := by decide +kernel
  have k_0 := hts (.fieldLink RX0 9 "VoiceRows$Bill" "score" "LVoiceRows$Score;") (by decide +kernel)
  have k_1 := hts (.fieldLink RX0 36 "VoiceRows$Score" "count" "I") (by decide +kernel)
  have k_2 := hts (.fieldLink RX0 15 "VoiceRows$Bill" "weights" "[I") (by decide +kernel)
  have k_3 := hts (.fieldLink RX0 54 "VoiceRows$Score" "from" "[I") (by decide +kernel)
  have k_4 := hts (.fieldLink RX0 57 "VoiceRows$Score" "to" "[I") (by decide +kernel)
  have hl := lv_entry ([.ref (b 13)]) (n := 4) (Nat.le_of_ble_eq_true rfl)
  rw [lg_entry_eq]
  generalize (lg_sl ([.ref (b 13)]) ++ List.replicate (4 - (lg_sl ([.ref (b 13)])).length) Slot.unset).toArray = ls at hl ⊢
  have hl : lv_has ls 4 [(0, .ref (b 13))] := hl
  have hfl : ∀ k, flC V o kr n k ≤ 60 := fun k => flC_le ho
  refine lv_iconst (v := 0) hx hb dX0_gaps_0 (by decide) ?_
  refine lv_istore_n (lv' := [(1, .int 0), (0, .ref (b 13))]) hx hb dX0_gaps_1 rfl hl (by decide) rfl (fun ls hl => ?_)
  refine lv_iconst (v := 0) hx hb dX0_gaps_2 (by decide) ?_
  refine lv_istore_n (lv' := [(2, .int 0), (1, .int 0), (0, .ref (b 13))]) hx hb dX0_gaps_3 rfl hl (by decide) rfl (fun ls hl => ?_)
  have L4 : ∀ (fu : Nat) (k : Nat) (x1 x2 : Int32) (ls : Array Slot), x1 = smC (fun k => decide (flC V o kr n k ≠ 0)) (fun k => F (flC V o kr n k - 1) - T k) k → x2 = nI k → k ≤ n → n - k < fu → lv_has ls 4 [(0, .ref (b 13)), (1, .int x1), (2, .int x2)] → W p l e (headSpec wsX0_gaps ({ frames := 1, cells := 0, slots := 0, locals := 22 } : Room)).room s m [.ref (b 13)].toArray below meth c s.heap [] 0 0 (MQ below (vp_Si (fun r => r = gpC F T V Wt o kr n)) [.ref (b 13)].toArray s 0 0 (fun _ => False)) (F0 m 4 ls []) := by
    intro fu
    induction fu with
    | zero =>
      intro k x1 x2 ls e1 e2 h4_0 hfu4 hl
      exact absurd hfu4 (Nat.not_lt_zero _)
    | succ fu ih4 =>
      intro k x1 x2 ls e1 e2 h4_0 hfu4 hl
      subst e1
      subst e2
      refine lv_iload_n hx hb dX0_gaps_4 rfl (lv_at hl 2 rfl) ?_
      refine lv_aload_n hx hb dX0_gaps_5 rfl (lv_at hl 0 rfl) ?_
      refine va_get (D := (dC, dI)) (ci := 0) (v := .ref (b 1)) (C := RX0) (T := TX0) (N := 3) hx hb hts i_X0 hown hK hP 0 rfl rfl 0 (by decide) k_0 (fun _ h9 => h9) rfl dX0_gaps_6 ?_
      refine va_get (D := (dC, dI)) (ci := 6) (v := .int (nI n)) (C := RX6) (T := TX6) (N := 7) hx hb hts i_X6 hown hK hP 3 rfl rfl 0 (by decide) k_1 (fun _ h9 => h9) rfl dX0_gaps_9 ?_
      refine lv_icmp_ge (tgt := 57) hx hb dX0_gaps_12 (by decide) (fun c_1 => ?_) (fun c_1 => ?_)
      · skip
        have c_1 : k ≥ n := gk_geT (a := k) (b := n) (by first | omega | exact Nat.lt_of_le_of_lt atN_le (by omega) | exact Nat.lt_of_le_of_lt szN_le (by omega) | exact Nat.lt_of_le_of_lt clM_le (by omega) | exact Nat.lt_of_le_of_lt rkN_le (by omega) | exact Nat.lt_of_le_of_lt (cnt_le _ _) (by omega)) (by first | omega | exact Nat.lt_of_le_of_lt atN_le (by omega) | exact Nat.lt_of_le_of_lt szN_le (by omega) | exact Nat.lt_of_le_of_lt clM_le (by omega) | exact Nat.lt_of_le_of_lt rkN_le (by omega) | exact Nat.lt_of_le_of_lt (cnt_le _ _) (by omega)) c_1
        refine lv_iload_n hx hb dX0_gaps_57 rfl (lv_at hl 1 rfl) ?_
        refine lv_aload_n hx hb dX0_gaps_58 rfl (lv_at hl 0 rfl) ?_
        refine va_get (D := (dC, dI)) (ci := 0) (v := .ref (b 8)) (C := RX0) (T := TX0) (N := 3) hx hb hts i_X0 hown hK hP 0 rfl rfl 1 (by decide) k_2 (fun _ h9 => h9) rfl dX0_gaps_59 ?_
        refine lv_iconst (v := 1) hx hb dX0_gaps_62 (by decide) ?_
        refine gk_ld hx hb hK hP 1 0 rfl rfl 1 (by omega) (by omega) (v := Wt 1) (rfl) dX0_gaps_63 ?_
        refine lv_imul hx hb dX0_gaps_64 ?_
        exact W.iret (v := (smC (fun k => decide (flC V o kr n k ≠ 0)) (fun k => F (flC V o kr n k - 1) - T k) k) * (Wt 1)) hx hb hr (fun t ht _ => ⟨_, rfl, by (obtain rfl : k = n := by omega); rfl, ht⟩) (fun q h => by cases h) dX0_gaps_65
      · skip
        have c_1 : k < n := gk_geF (a := k) (b := n) (by first | omega | exact Nat.lt_of_le_of_lt atN_le (by omega) | exact Nat.lt_of_le_of_lt szN_le (by omega) | exact Nat.lt_of_le_of_lt clM_le (by omega) | exact Nat.lt_of_le_of_lt rkN_le (by omega) | exact Nat.lt_of_le_of_lt (cnt_le _ _) (by omega)) (by first | omega | exact Nat.lt_of_le_of_lt atN_le (by omega) | exact Nat.lt_of_le_of_lt szN_le (by omega) | exact Nat.lt_of_le_of_lt clM_le (by omega) | exact Nat.lt_of_le_of_lt rkN_le (by omega) | exact Nat.lt_of_le_of_lt (cnt_le _ _) (by omega)) c_1
        refine lv_aload_n hx hb dX0_gaps_15 rfl (lv_at hl 0 rfl) ?_
        refine va_get (D := (dC, dI)) (ci := 0) (v := .ref (b 1)) (C := RX0) (T := TX0) (N := 3) hx hb hts i_X0 hown hK hP 0 rfl rfl 0 (by decide) k_0 (fun _ h9 => h9) rfl dX0_gaps_16 ?_
        refine lv_iload_n hx hb dX0_gaps_19 rfl (lv_at hl 2 rfl) ?_
        have hPc_2 := hP.sub (ws' := (sW cI b (nI n) F T P V (fun j => nI (o j)) (fun j => nI (kr j)))) [3, 4, 5, 6, 7, 8, 9] rfl
        refine vp_callSi (gk_run (va_runV (As := [.int (nI k)]) (rest := []) ⟨hx, hb, hml, hown, hts⟩ (c_X6_following l dC dI cI b n F T P V o kr hn ho hkr k (by omega)) (cwV 1 hts gX0_gaps_X6_following rfl rfl rfl (by decide +kernel) ⟨Nat.le_of_ble_eq_true rfl, Nat.le_of_ble_eq_true rfl⟩) ⟨gk_fb, va_recv hK hPc_2 (ci := 6) (q0 := 0) rfl rfl, fun U hU hW => ⟨rfl, by rw [hU]; exact hPc_2, va_K.moved hW.alike hK⟩⟩ rfl rfl hl.1 rfl (lv_room (Nat.le_of_ble_eq_true rfl)) dX0_gaps_20 ⟨Nat.zero_le _, Nat.zero_le _⟩)) (fun r_3 er_3 => ?_)
        subst er_3
        refine lv_istore_n (lv' := [(3, .int (oi (flC V o kr n k))), (0, .ref (b 13)), (1, .int (smC (fun k => decide (flC V o kr n k ≠ 0)) (fun k => F (flC V o kr n k - 1) - T k) k)), (2, .int (nI k))]) hx hb dX0_gaps_23 rfl hl (by decide) rfl (fun ls hl => ?_)
        refine lv_iload_n hx hb dX0_gaps_24 rfl (lv_at hl 0 rfl) ?_
        refine lv_iconst (v := (-1)) hx hb dX0_gaps_25 (by decide) ?_
        refine lv_icmp_eq (tgt := 51) hx hb dX0_gaps_26 (by decide) (fun c_4 => ?_) (fun c_4 => ?_)
        · skip
          have c_4 : (flC V o kr n k) = 0 := (oi_m1 (by exact Nat.lt_of_le_of_lt (flC_le ho) (by decide))).mp c_4
          refine lv_iinc (v := nI (k + 1)) (lv' := [(2, .int (nI (k + 1))), (3, .int (oi (flC V o kr n k))), (0, .ref (b 13)), (1, .int (smC (fun k => decide (flC V o kr n k ≠ 0)) (fun k => F (flC V o kr n k - 1) - T k) k))]) hx hb dX0_gaps_51 hl (k := 3) rfl (gk_inc1 _) (by decide) rfl (fun ls hl => ?_)
          refine lv_goto (tgt := 4) hx hb dX0_gaps_54 (by decide) ?_
          exact ih4 (k + 1) _ _ ls (by first | rfl | exact smI_a (c := (fun k => decide (flC V o kr n k ≠ 0))) (f := (fun k => F (flC V o kr n k - 1) - T k)) (by simp [*]) rfl | exact smC_n (c := (fun k => decide (flC V o kr n k ≠ 0))) (f := (fun k => F (flC V o kr n k - 1) - T k)) (by simp [*])) (by first | rfl | exact smI_a (c := (fun k => decide (flC V o kr n k ≠ 0))) (f := (fun k => F (flC V o kr n k - 1) - T k)) (by simp [*]) rfl | exact smC_n (c := (fun k => decide (flC V o kr n k ≠ 0))) (f := (fun k => F (flC V o kr n k - 1) - T k)) (by simp [*])) (by omega) (by omega) (lv_sub hl [2, 3, 0] rfl)
        · skip
          have c_4 : (flC V o kr n k) ≠ 0 := fun q => c_4 ((oi_m1 (by exact Nat.lt_of_le_of_lt (flC_le ho) (by decide))).mpr q)
          refine lv_iload_n hx hb dX0_gaps_29 rfl (lv_at hl 2 rfl) ?_
          refine lv_aload_n hx hb dX0_gaps_30 rfl (lv_at hl 1 rfl) ?_
          refine va_get (D := (dC, dI)) (ci := 0) (v := .ref (b 1)) (C := RX0) (T := TX0) (N := 3) hx hb hts i_X0 hown hK hP 0 rfl rfl 0 (by decide) k_0 (fun _ h9 => h9) rfl dX0_gaps_31 ?_
          refine va_get (D := (dC, dI)) (ci := 6) (v := .ref (b 2)) (C := RX6) (T := TX6) (N := 7) hx hb hts i_X6 hown hK hP 3 rfl rfl 1 (by decide) k_3 (fun _ h9 => h9) rfl dX0_gaps_34 ?_
          refine lv_iload_n hx hb dX0_gaps_37 rfl (lv_at hl 0 rfl) ?_
          refine gk_top (y := nI (flC V o kr n k - 1)) (oi_pos (by assumption)) ?_
          refine gk_ld hx hb hK hP 4 0 rfl rfl (flC V o kr n k - 1) (by have := hfl k; omega) (by omega) (v := F (flC V o kr n k - 1)) (rfl) dX0_gaps_38 ?_
          refine lv_aload_n hx hb dX0_gaps_39 rfl (lv_at hl 1 rfl) ?_
          refine va_get (D := (dC, dI)) (ci := 0) (v := .ref (b 1)) (C := RX0) (T := TX0) (N := 3) hx hb hts i_X0 hown hK hP 0 rfl rfl 0 (by decide) k_0 (fun _ h9 => h9) rfl dX0_gaps_40 ?_
          refine va_get (D := (dC, dI)) (ci := 6) (v := .ref (b 3)) (C := RX6) (T := TX6) (N := 7) hx hb hts i_X6 hown hK hP 3 rfl rfl 2 (by decide) k_4 (fun _ h9 => h9) rfl dX0_gaps_43 ?_
          refine lv_iload_n hx hb dX0_gaps_46 rfl (lv_at hl 3 rfl) ?_
          refine gk_ld hx hb hK hP 5 0 rfl rfl k (by omega) (by omega) (v := T k) (rfl) dX0_gaps_47 ?_
          refine lv_isub hx hb dX0_gaps_48 ?_
          refine lv_iadd hx hb dX0_gaps_49 ?_
          refine lv_istore_n (lv' := [(1, .int ((smC (fun k => decide (flC V o kr n k ≠ 0)) (fun k => F (flC V o kr n k - 1) - T k) k) + ((F (flC V o kr n k - 1)) - (T k)))), (3, .int (oi (flC V o kr n k))), (0, .ref (b 13)), (2, .int (nI k))]) hx hb dX0_gaps_50 rfl hl (by decide) rfl (fun ls hl => ?_)
          refine lv_iinc (v := nI (k + 1)) (lv' := [(2, .int (nI (k + 1))), (1, .int ((smC (fun k => decide (flC V o kr n k ≠ 0)) (fun k => F (flC V o kr n k - 1) - T k) k) + ((F (flC V o kr n k - 1)) - (T k)))), (3, .int (oi (flC V o kr n k))), (0, .ref (b 13))]) hx hb dX0_gaps_51 hl (k := 3) rfl (gk_inc1 _) (by decide) rfl (fun ls hl => ?_)
          refine lv_goto (tgt := 4) hx hb dX0_gaps_54 (by decide) ?_
          exact ih4 (k + 1) _ _ ls (by first | rfl | exact smI_a (c := (fun k => decide (flC V o kr n k ≠ 0))) (f := (fun k => F (flC V o kr n k - 1) - T k)) (by simp [*]) rfl | exact smC_n (c := (fun k => decide (flC V o kr n k ≠ 0))) (f := (fun k => F (flC V o kr n k - 1) - T k)) (by simp [*])) (by first | rfl | exact smI_a (c := (fun k => decide (flC V o kr n k ≠ 0))) (f := (fun k => F (flC V o kr n k - 1) - T k)) (by simp [*]) rfl | exact smC_n (c := (fun k => decide (flC V o kr n k ≠ 0))) (f := (fun k => F (flC V o kr n k - 1) - T k)) (by simp [*])) (by omega) (by omega) (lv_sub hl [3, 1, 0] rfl)
  exact L4 ((n) + 1) 0 _ _ ls (by first | rfl | exact smI_a (c := (fun k => decide (flC V o kr n k ≠ 0))) (f := (fun k => F (flC V o kr n k - 1) - T k)) (by simp [*]) rfl | exact smC_n (c := (fun k => decide (flC V o kr n k ≠ 0))) (f := (fun k => F (flC V o kr n k - 1) - T k)) (by simp [*])) (by first | rfl | exact smI_a (c := (fun k => decide (flC V o kr n k ≠ 0))) (f := (fun k => F (flC V o kr n k - 1) - T k)) (by simp [*]) rfl | exact smC_n (c := (fun k => decide (flC V o kr n k ≠ 0))) (f := (fun k => F (flC V o kr n k - 1) - T k)) (by simp [*])) (by omega) (by omega) (lv_sub hl [2, 1, 0] rfl)

set_option maxHeartbeats 1000000 in
set_option maxRecDepth 100000 in
theorem c_X0_used (l : Launch) (dC : Nat → ClassId) (dI : Nat → Nat → Nat) (cI : ClassId) (b : Nat → Nat) (n : Nat) (F T P V : Nat → Int32) (o kr : Nat → Nat) (hn : n ≤ 60) (ho : ∀ j, o j < 60) (Wt : Nat → Int32) (p1 p2 : Int32) (hkr : ∀ j, j < n → kr j < n)  : Met l yX0_used wsX0_used ({ frames := 2, cells := 0, slots := 0, locals := 45 } : Room) (va_Pc [.ref (b 13)] (fun U => va_P (dC, dI) vwCl [(b 13, .inr (0, [.ref (b 1), .ref (b 8), .ref (b 12)])), (b 8, .inl (cI, 4, .inl Wt)), (b 12, .inr (4, [.ref (b 1), .int p1, .int p2])), (b 1, .inr (6, [.int (nI n), .ref (b 2), .ref (b 3), .ref (b 4), .ref (b 5), .ref (b 6), .ref (b 7)])), (b 2, .inl (cI, 60, .inl F)), (b 3, .inl (cI, 60, .inl T)), (b 4, .inl (cI, 60, .inl P)), (b 5, .inl (cI, 60, .inl V)), (b 6, .inl (cI, 60, .inl (fun j => nI (o j)))), (b 7, .inl (cI, 60, .inl (fun j => nI (kr j))))] U.heap ∧ va_K (dC, dI) vwCl [(cI, .int)] U)) (vp_Si (fun r => r = nI (usN V n) * Wt 3)) 0 0 (fun _ => False) := by
  refine Met.ofW (cc := cX0_used) (maxL := 1) (ret := (some .int)) (by decide) rfl ?_
  intro p e s m args below meth c s₁ B hml hv
  obtain ⟨rfl, hP, hK⟩ := hv
  have hx := B.exec
  have hb := B.bytes
  have hr := B.returns
  have hts := atoms_spec (ws := wsX0_used) B.pre
  have hown : s.vm.findClass RX0 = some m.cls := findClass_of_methodNamed B.named
  have hlocks := B.notSynchronized
  have i_X0 : ∀ w ∈ u_ws RX0 TX0 3, w ∈ wsX0_used := by decide +kernel
  have k_0 := hts (.fieldLink RX0 9 "VoiceRows$Bill" "score" "LVoiceRows$Score;") (by decide +kernel)
  have k_1 := hts (.fieldLink RX0 15 "VoiceRows$Bill" "weights" "[I") (by decide +kernel)
  have hl := lv_entry ([.ref (b 13)]) (n := 1) (Nat.le_of_ble_eq_true rfl)
  rw [lg_entry_eq]
  generalize (lg_sl ([.ref (b 13)]) ++ List.replicate (1 - (lg_sl ([.ref (b 13)])).length) Slot.unset).toArray = ls at hl ⊢
  have hl : lv_has ls 1 [(0, .ref (b 13))] := hl
  refine lv_aload_n hx hb dX0_used_0 rfl (lv_at hl 0 rfl) ?_
  refine va_get (D := (dC, dI)) (ci := 0) (v := .ref (b 1)) (C := RX0) (T := TX0) (N := 3) hx hb hts i_X0 hown hK hP 0 rfl rfl 0 (by decide) k_0 (fun _ h9 => h9) rfl dX0_used_1 ?_
  have hPc_1 := hP.sub (ws' := (sW cI b (nI n) F T P V (fun j => nI (o j)) (fun j => nI (kr j)))) [3, 4, 5, 6, 7, 8, 9] rfl
  refine vp_callSi (gk_run (va_runV (As := []) (rest := []) ⟨hx, hb, hml, hown, hts⟩ (c_X6_voicesUsed l dC dI cI b n F T P V (fun j => nI (o j)) (fun j => nI (kr j)) hn) (cwV 0 hts gX0_used_X6_voicesUsed rfl rfl rfl (by decide +kernel) ⟨Nat.le_of_ble_eq_true rfl, Nat.le_of_ble_eq_true rfl⟩) ⟨gk_fb, va_recv hK hPc_1 (ci := 6) (q0 := 0) rfl rfl, fun U hU hW => ⟨rfl, by rw [hU]; exact hPc_1, va_K.moved hW.alike hK⟩⟩ rfl rfl hl.1 rfl (lv_room (Nat.le_of_ble_eq_true rfl)) dX0_used_4 ⟨Nat.zero_le _, Nat.zero_le _⟩)) (fun r_2 er_2 => ?_)
  subst er_2
  refine lv_aload_n hx hb dX0_used_7 rfl (lv_at hl 0 rfl) ?_
  refine va_get (D := (dC, dI)) (ci := 0) (v := .ref (b 8)) (C := RX0) (T := TX0) (N := 3) hx hb hts i_X0 hown hK hP 0 rfl rfl 1 (by decide) k_1 (fun _ h9 => h9) rfl dX0_used_8 ?_
  refine lv_iconst (v := 3) hx hb dX0_used_11 (by decide) ?_
  refine gk_ld hx hb hK hP 1 0 rfl rfl 3 (by omega) (by omega) (v := Wt 3) (rfl) dX0_used_12 ?_
  refine lv_imul hx hb dX0_used_13 ?_
  exact W.iret (v := (nI (usN V n)) * (Wt 3)) hx hb hr (fun t ht _ => ⟨_, rfl, by rfl, ht⟩) (fun q h => by cases h) dX0_used_14

set_option maxHeartbeats 1000000 in
set_option maxRecDepth 100000 in
theorem c_X0_crossings (l : Launch) (dC : Nat → ClassId) (dI : Nat → Nat → Nat) (cI : ClassId) (sz : Nat) (b : Nat → Nat) (n : Nat) (F T P V : Nat → Int32) (o kr : Nat → Nat) (hn : n ≤ 60) (ho : ∀ j, o j < 60) (Wt : Nat → Int32) (p1 p2 : Int32) (hkr : ∀ j, j < n → kr j < n)  : Met l yX0_crossings wsX0_crossings ({ frames := 3, cells := 0, slots := 0, locals := 70 } : Room) (va_Pc [.ref (b 13)] (fun U => U.heap.size = sz ∧ va_P (dC, dI) vwCl [(b 13, .inr (0, [.ref (b 1), .ref (b 8), .ref (b 12)])), (b 8, .inl (cI, 4, .inl Wt)), (b 12, .inr (4, [.ref (b 1), .int p1, .int p2])), (b 1, .inr (6, [.int (nI n), .ref (b 2), .ref (b 3), .ref (b 4), .ref (b 5), .ref (b 6), .ref (b 7)])), (b 2, .inl (cI, 60, .inl F)), (b 3, .inl (cI, 60, .inl T)), (b 4, .inl (cI, 60, .inl P)), (b 5, .inl (cI, 60, .inl V)), (b 6, .inl (cI, 60, .inl (fun j => nI (o j)))), (b 7, .inl (cI, 60, .inl (fun j => nI (kr j))))] U.heap ∧ va_K (dC, dI) vwCl [(cI, .int)] U ∧ va_D (fun _ => True) [(b 13, .inr (0, [.ref (b 1), .ref (b 8), .ref (b 12)])), (b 8, .inl (cI, 4, .inl Wt)), (b 12, .inr (4, [.ref (b 1), .int p1, .int p2])), (b 1, .inr (6, [.int (nI n), .ref (b 2), .ref (b 3), .ref (b 4), .ref (b 5), .ref (b 6), .ref (b 7)])), (b 2, .inl (cI, 60, .inl F)), (b 3, .inl (cI, 60, .inl T)), (b 4, .inl (cI, 60, .inl P)), (b 5, .inl (cI, 60, .inl V)), (b 6, .inl (cI, 60, .inl (fun j => nI (o j)))), (b 7, .inl (cI, 60, .inl (fun j => nI (kr j))))])) (va_Qi (fun (r : Int32) (u : Int32 × Int32) => r = nI (totc (qC F T P V o 0) n n) * Wt 2) (fun u t => va_P (dC, dI) vwCl [(b 13, .inr (0, [.ref (b 1), .ref (b 8), .ref (b 12)])), (b 8, .inl (cI, 4, .inl Wt)), (b 12, .inr (4, [.ref (b 1), .int u.1, .int u.2])), (b 1, .inr (6, [.int (nI n), .ref (b 2), .ref (b 3), .ref (b 4), .ref (b 5), .ref (b 6), .ref (b 7)])), (b 2, .inl (cI, 60, .inl F)), (b 3, .inl (cI, 60, .inl T)), (b 4, .inl (cI, 60, .inl P)), (b 5, .inl (cI, 60, .inl V)), (b 6, .inl (cI, 60, .inl (fun j => nI (o j)))), (b 7, .inl (cI, 60, .inl (fun j => nI (kr j))))] t.heap ∧ va_K (dC, dI) vwCl [(cI, .int)] t ∧ va_D (va_A [(b 13, .inr (0, [.ref (b 1), .ref (b 8), .ref (b 12)])), (b 8, .inl (cI, 4, .inl Wt)), (b 12, .inr (4, [.ref (b 1), .int p1, .int p2])), (b 1, .inr (6, [.int (nI n), .ref (b 2), .ref (b 3), .ref (b 4), .ref (b 5), .ref (b 6), .ref (b 7)])), (b 2, .inl (cI, 60, .inl F)), (b 3, .inl (cI, 60, .inl T)), (b 4, .inl (cI, 60, .inl P)), (b 5, .inl (cI, 60, .inl V)), (b 6, .inl (cI, 60, .inl (fun j => nI (o j)))), (b 7, .inl (cI, 60, .inl (fun j => nI (kr j))))] sz) [(b 13, .inr (0, [.ref (b 1), .ref (b 8), .ref (b 12)])), (b 8, .inl (cI, 4, .inl Wt)), (b 12, .inr (4, [.ref (b 1), .int u.1, .int u.2])), (b 1, .inr (6, [.int (nI n), .ref (b 2), .ref (b 3), .ref (b 4), .ref (b 5), .ref (b 6), .ref (b 7)])), (b 2, .inl (cI, 60, .inl F)), (b 3, .inl (cI, 60, .inl T)), (b 4, .inl (cI, 60, .inl P)), (b 5, .inl (cI, 60, .inl V)), (b 6, .inl (cI, 60, .inl (fun j => nI (o j)))), (b 7, .inl (cI, 60, .inl (fun j => nI (kr j))))]) (va_A [(b 13, .inr (0, [.ref (b 1), .ref (b 8), .ref (b 12)])), (b 8, .inl (cI, 4, .inl Wt)), (b 12, .inr (4, [.ref (b 1), .int p1, .int p2])), (b 1, .inr (6, [.int (nI n), .ref (b 2), .ref (b 3), .ref (b 4), .ref (b 5), .ref (b 6), .ref (b 7)])), (b 2, .inl (cI, 60, .inl F)), (b 3, .inl (cI, 60, .inl T)), (b 4, .inl (cI, 60, .inl P)), (b 5, .inl (cI, 60, .inl V)), (b 6, .inl (cI, 60, .inl (fun j => nI (o j)))), (b 7, .inl (cI, 60, .inl (fun j => nI (kr j))))] sz)) 0 0 (va_A [(b 13, .inr (0, [.ref (b 1), .ref (b 8), .ref (b 12)])), (b 8, .inl (cI, 4, .inl Wt)), (b 12, .inr (4, [.ref (b 1), .int p1, .int p2])), (b 1, .inr (6, [.int (nI n), .ref (b 2), .ref (b 3), .ref (b 4), .ref (b 5), .ref (b 6), .ref (b 7)])), (b 2, .inl (cI, 60, .inl F)), (b 3, .inl (cI, 60, .inl T)), (b 4, .inl (cI, 60, .inl P)), (b 5, .inl (cI, 60, .inl V)), (b 6, .inl (cI, 60, .inl (fun j => nI (o j)))), (b 7, .inl (cI, 60, .inl (fun j => nI (kr j))))] sz) := by
  refine Met.ofW (cc := cX0_crossings) (maxL := 1) (ret := (some .int)) (by decide) rfl ?_
  intro p e s m args below meth c s₁ B hml hv
  obtain ⟨rfl, hsz, hP, hK, hD0⟩ := hv
  have hx := B.exec
  have hb := B.bytes
  have hr := B.returns
  have hts := atoms_spec (ws := wsX0_crossings) B.pre
  have hown : s.vm.findClass RX0 = some m.cls := findClass_of_methodNamed B.named
  have hlocks := B.notSynchronized
  subst hsz
  have hD := hD0.self (sz := s.heap.size)
  generalize hAe : va_A [(b 13, .inr (0, [.ref (b 1), .ref (b 8), .ref (b 12)])), (b 8, .inl (cI, 4, .inl Wt)), (b 12, .inr (4, [.ref (b 1), .int p1, .int p2])), (b 1, .inr (6, [.int (nI n), .ref (b 2), .ref (b 3), .ref (b 4), .ref (b 5), .ref (b 6), .ref (b 7)])), (b 2, .inl (cI, 60, .inl F)), (b 3, .inl (cI, 60, .inl T)), (b 4, .inl (cI, 60, .inl P)), (b 5, .inl (cI, 60, .inl V)), (b 6, .inl (cI, 60, .inl (fun j => nI (o j)))), (b 7, .inl (cI, 60, .inl (fun j => nI (kr j))))] s.heap.size = A at hD ⊢
  have hA : ∀ q : Nat, s.heap.size ≤ q → A q := fun q h => by rw [← hAe]; exact Or.inr h
  have hS : va_S A s.heap s.heap [] := va_S.rf
  have i_X0 : ∀ w ∈ u_ws RX0 TX0 3, w ∈ wsX0_crossings := by decide +kernel
  have k_0 := hts (.fieldLink RX0 19 "VoiceRows$Bill" "pairRows" "LVoiceRows$PairRows;") (by decide +kernel)
  have k_1 := hts (.fieldLink RX0 15 "VoiceRows$Bill" "weights" "[I") (by decide +kernel)
  have hl := lv_entry ([.ref (b 13)]) (n := 1) (Nat.le_of_ble_eq_true rfl)
  rw [lg_entry_eq]
  generalize (lg_sl ([.ref (b 13)]) ++ List.replicate (1 - (lg_sl ([.ref (b 13)])).length) Slot.unset).toArray = ls at hl ⊢
  have hl : lv_has ls 1 [(0, .ref (b 13))] := hl
  refine lv_aload_n hx hb dX0_crossings_0 rfl (lv_at hl 0 rfl) ?_
  refine va_get (D := (dC, dI)) (ci := 0) (v := .ref (b 12)) (C := RX0) (T := TX0) (N := 3) hx hb hts i_X0 hown hK hP 0 rfl rfl 2 (by decide) k_0 (fun _ h9 => h9) rfl dX0_crossings_1 ?_
  refine lv_iconst (v := 0) hx hb dX0_crossings_4 (by decide) ?_
  refine lv_iconst (v := (-1)) hx hb dX0_crossings_5 (by decide) ?_
  have hPc := hP.sub (ws' := [(b 12, .inr (4, [.ref (b 1), .int p1, .int p2])), (b 1, .inr (6, [.int (nI n), .ref (b 2), .ref (b 3), .ref (b 4), .ref (b 5), .ref (b 6), .ref (b 7)])), (b 2, .inl (cI, 60, .inl F)), (b 3, .inl (cI, 60, .inl T)), (b 4, .inl (cI, 60, .inl P)), (b 5, .inl (cI, 60, .inl V)), (b 6, .inl (cI, 60, .inl (fun j => nI (o j)))), (b 7, .inl (cI, 60, .inl (fun j => nI (kr j))))]) [2, 3, 4, 5, 6, 7, 8, 9] rfl
  have hDc := hD.sub (ws' := [(b 12, .inr (4, [.ref (b 1), .int p1, .int p2])), (b 1, .inr (6, [.int (nI n), .ref (b 2), .ref (b 3), .ref (b 4), .ref (b 5), .ref (b 6), .ref (b 7)])), (b 2, .inl (cI, 60, .inl F)), (b 3, .inl (cI, 60, .inl T)), (b 4, .inl (cI, 60, .inl P)), (b 5, .inl (cI, 60, .inl V)), (b 6, .inl (cI, 60, .inl (fun j => nI (o j)))), (b 7, .inl (cI, 60, .inl (fun j => nI (kr j))))]) [2, 3, 4, 5, 6, 7, 8, 9] (by decide) rfl
  have hFc := va_free (wc := [(b 12, .inr (4, [.ref (b 1), .int p1, .int p2])), (b 1, .inr (6, [.int (nI n), .ref (b 2), .ref (b 3), .ref (b 4), .ref (b 5), .ref (b 6), .ref (b 7)])), (b 2, .inl (cI, 60, .inl F)), (b 3, .inl (cI, 60, .inl T)), (b 4, .inl (cI, 60, .inl P)), (b 5, .inl (cI, 60, .inl V)), (b 6, .inl (cI, 60, .inl (fun j => nI (o j)))), (b 7, .inl (cI, 60, .inl (fun j => nI (kr j))))]) hD hS hA [2, 3, 4, 5, 6, 7, 8, 9] rfl
  refine va_calli (va_runV (As := [.int 0, .int (-1)]) (rest := []) ⟨hx, hb, hml, hown, hts⟩ (c_X4_scan l dC dI cI s.heap.size b n F T P V o kr hn ho p1 p2 0 (-1)) (cwV 2 hts gX0_crossings_X4_scan rfl rfl rfl (by decide +kernel) ⟨Nat.le_of_ble_eq_true rfl, Nat.le_of_ble_eq_true rfl⟩) ⟨gk_fbW, va_recv hK hPc (ci := 4) (q0 := 0) rfl rfl, fun U hU hW => ⟨rfl, by rw [hU], by rw [hU]; exact hPc, va_K.moved hW.alike hK, hDc.weaken (fun _ _ _ _ => trivial)⟩⟩ rfl rfl hl.1 rfl (lv_room (Nat.le_of_ble_eq_true rfl)) dX0_crossings_6 ⟨Nat.zero_le _, Nat.zero_le _⟩) hS (fun q _ h => hFc q h) hFc (fun r_1 u t H1 locs ht hvm hw hB hz1 hk1 hS => ?_)
  obtain ⟨y1, y2⟩ := u
  obtain ⟨hP1, hK1, hD1⟩ := hB
  rw [ht] at hP1
  try dsimp only at hw
  obtain ⟨hP, hD⟩ := va_join (wr := [(b 13, .inr (0, [.ref (b 1), .ref (b 8), .ref (b 12)])), (b 8, .inl (cI, 4, .inl Wt))]) (w1 := [(b 12, .inr (4, [.ref (b 1), .int y1, .int y2])), (b 1, .inr (6, [.int (nI n), .ref (b 2), .ref (b 3), .ref (b 4), .ref (b 5), .ref (b 6), .ref (b 7)])), (b 2, .inl (cI, 60, .inl F)), (b 3, .inl (cI, 60, .inl T)), (b 4, .inl (cI, 60, .inl P)), (b 5, .inl (cI, 60, .inl V)), (b 6, .inl (cI, 60, .inl (fun j => nI (o j)))), (b 7, .inl (cI, 60, .inl (fun j => nI (kr j))))]) hP hD [2, 3, 4, 5, 6, 7, 8, 9] [0, 1] rfl rfl (by decide) (by decide) hk1 hFc hP1 hD1
  generalize H1 = H at hP hS ⊢
  have hP : va_P (dC, dI) vwCl [(b 13, .inr (0, [.ref (b 1), .ref (b 8), .ref (b 12)])), (b 8, .inl (cI, 4, .inl Wt)), (b 12, .inr (4, [.ref (b 1), .int y1, .int y2])), (b 1, .inr (6, [.int (nI n), .ref (b 2), .ref (b 3), .ref (b 4), .ref (b 5), .ref (b 6), .ref (b 7)])), (b 2, .inl (cI, 60, .inl F)), (b 3, .inl (cI, 60, .inl T)), (b 4, .inl (cI, 60, .inl P)), (b 5, .inl (cI, 60, .inl V)), (b 6, .inl (cI, 60, .inl (fun j => nI (o j)))), (b 7, .inl (cI, 60, .inl (fun j => nI (kr j))))] H := hP
  have hD : va_D A [(b 13, .inr (0, [.ref (b 1), .ref (b 8), .ref (b 12)])), (b 8, .inl (cI, 4, .inl Wt)), (b 12, .inr (4, [.ref (b 1), .int y1, .int y2])), (b 1, .inr (6, [.int (nI n), .ref (b 2), .ref (b 3), .ref (b 4), .ref (b 5), .ref (b 6), .ref (b 7)])), (b 2, .inl (cI, 60, .inl F)), (b 3, .inl (cI, 60, .inl T)), (b 4, .inl (cI, 60, .inl P)), (b 5, .inl (cI, 60, .inl V)), (b 6, .inl (cI, 60, .inl (fun j => nI (o j)))), (b 7, .inl (cI, 60, .inl (fun j => nI (kr j))))] := hD
  obtain ⟨w1, w2⟩ := hw
  subst w1
  refine lv_aload_n hx hb dX0_crossings_9 rfl (lv_at hl 0 rfl) ?_
  refine va_get (D := (dC, dI)) (ci := 0) (v := .ref (b 8)) (C := RX0) (T := TX0) (N := 3) hx hb hts i_X0 hown hK hP 0 rfl rfl 1 (by decide) k_1 (fun _ h9 => h9) rfl dX0_crossings_10 ?_
  refine lv_iconst (v := 2) hx hb dX0_crossings_13 (by decide) ?_
  refine gk_ld hx hb hK hP 1 0 rfl rfl 2 (by omega) (by omega) (v := Wt 2) (rfl) dX0_crossings_14 ?_
  refine lv_imul hx hb dX0_crossings_15 ?_
  exact W.iret (v := (nI (totc (qC F T P V o 0) n n)) * (Wt 2)) hx hb hr (fun t ht hW => ⟨⟨_, (y1, y2), rfl, (by exact rfl), by rw [ht]; exact hP, va_K.moved hW.alike hK, hD⟩, hS.F ht⟩) hS.2.2 dX0_crossings_16

set_option maxHeartbeats 1000000 in
set_option maxRecDepth 100000 in
theorem c_X0_part (l : Launch) (dC : Nat → ClassId) (dI : Nat → Nat → Nat) (cI : ClassId) (sz : Nat) (b : Nat → Nat) (n : Nat) (F T P V : Nat → Int32) (o kr : Nat → Nat) (hn : n ≤ 60) (ho : ∀ j, o j < 60) (Wt : Nat → Int32) (p1 p2 : Int32) (hkr : ∀ j, j < n → kr j < n) (kd : Int32) : Met l yX0_part wsX0_part ({ frames := 4, cells := 0, slots := 0, locals := 90 } : Room) (va_Pc [.ref (b 13), .int kd] (fun U => U.heap.size = sz ∧ va_P (dC, dI) vwCl [(b 13, .inr (0, [.ref (b 1), .ref (b 8), .ref (b 12)])), (b 8, .inl (cI, 4, .inl Wt)), (b 12, .inr (4, [.ref (b 1), .int p1, .int p2])), (b 1, .inr (6, [.int (nI n), .ref (b 2), .ref (b 3), .ref (b 4), .ref (b 5), .ref (b 6), .ref (b 7)])), (b 2, .inl (cI, 60, .inl F)), (b 3, .inl (cI, 60, .inl T)), (b 4, .inl (cI, 60, .inl P)), (b 5, .inl (cI, 60, .inl V)), (b 6, .inl (cI, 60, .inl (fun j => nI (o j)))), (b 7, .inl (cI, 60, .inl (fun j => nI (kr j))))] U.heap ∧ va_K (dC, dI) vwCl [(cI, .int)] U ∧ va_D (fun _ => True) [(b 13, .inr (0, [.ref (b 1), .ref (b 8), .ref (b 12)])), (b 8, .inl (cI, 4, .inl Wt)), (b 12, .inr (4, [.ref (b 1), .int p1, .int p2])), (b 1, .inr (6, [.int (nI n), .ref (b 2), .ref (b 3), .ref (b 4), .ref (b 5), .ref (b 6), .ref (b 7)])), (b 2, .inl (cI, 60, .inl F)), (b 3, .inl (cI, 60, .inl T)), (b 4, .inl (cI, 60, .inl P)), (b 5, .inl (cI, 60, .inl V)), (b 6, .inl (cI, 60, .inl (fun j => nI (o j)))), (b 7, .inl (cI, 60, .inl (fun j => nI (kr j))))])) (va_Qi (fun (r : Int32) (u : Int32 × Int32) => r = prt (lpC P V Wt o kr n) (gpC F T V Wt o kr n) (nI (totc (qC F T P V o 0) n n) * Wt 2) (nI (usN V n) * Wt 3) kd) (fun u t => va_P (dC, dI) vwCl [(b 13, .inr (0, [.ref (b 1), .ref (b 8), .ref (b 12)])), (b 8, .inl (cI, 4, .inl Wt)), (b 12, .inr (4, [.ref (b 1), .int u.1, .int u.2])), (b 1, .inr (6, [.int (nI n), .ref (b 2), .ref (b 3), .ref (b 4), .ref (b 5), .ref (b 6), .ref (b 7)])), (b 2, .inl (cI, 60, .inl F)), (b 3, .inl (cI, 60, .inl T)), (b 4, .inl (cI, 60, .inl P)), (b 5, .inl (cI, 60, .inl V)), (b 6, .inl (cI, 60, .inl (fun j => nI (o j)))), (b 7, .inl (cI, 60, .inl (fun j => nI (kr j))))] t.heap ∧ va_K (dC, dI) vwCl [(cI, .int)] t ∧ va_D (va_A [(b 13, .inr (0, [.ref (b 1), .ref (b 8), .ref (b 12)])), (b 8, .inl (cI, 4, .inl Wt)), (b 12, .inr (4, [.ref (b 1), .int p1, .int p2])), (b 1, .inr (6, [.int (nI n), .ref (b 2), .ref (b 3), .ref (b 4), .ref (b 5), .ref (b 6), .ref (b 7)])), (b 2, .inl (cI, 60, .inl F)), (b 3, .inl (cI, 60, .inl T)), (b 4, .inl (cI, 60, .inl P)), (b 5, .inl (cI, 60, .inl V)), (b 6, .inl (cI, 60, .inl (fun j => nI (o j)))), (b 7, .inl (cI, 60, .inl (fun j => nI (kr j))))] sz) [(b 13, .inr (0, [.ref (b 1), .ref (b 8), .ref (b 12)])), (b 8, .inl (cI, 4, .inl Wt)), (b 12, .inr (4, [.ref (b 1), .int u.1, .int u.2])), (b 1, .inr (6, [.int (nI n), .ref (b 2), .ref (b 3), .ref (b 4), .ref (b 5), .ref (b 6), .ref (b 7)])), (b 2, .inl (cI, 60, .inl F)), (b 3, .inl (cI, 60, .inl T)), (b 4, .inl (cI, 60, .inl P)), (b 5, .inl (cI, 60, .inl V)), (b 6, .inl (cI, 60, .inl (fun j => nI (o j)))), (b 7, .inl (cI, 60, .inl (fun j => nI (kr j))))]) (va_A [(b 13, .inr (0, [.ref (b 1), .ref (b 8), .ref (b 12)])), (b 8, .inl (cI, 4, .inl Wt)), (b 12, .inr (4, [.ref (b 1), .int p1, .int p2])), (b 1, .inr (6, [.int (nI n), .ref (b 2), .ref (b 3), .ref (b 4), .ref (b 5), .ref (b 6), .ref (b 7)])), (b 2, .inl (cI, 60, .inl F)), (b 3, .inl (cI, 60, .inl T)), (b 4, .inl (cI, 60, .inl P)), (b 5, .inl (cI, 60, .inl V)), (b 6, .inl (cI, 60, .inl (fun j => nI (o j)))), (b 7, .inl (cI, 60, .inl (fun j => nI (kr j))))] sz)) 0 0 (va_A [(b 13, .inr (0, [.ref (b 1), .ref (b 8), .ref (b 12)])), (b 8, .inl (cI, 4, .inl Wt)), (b 12, .inr (4, [.ref (b 1), .int p1, .int p2])), (b 1, .inr (6, [.int (nI n), .ref (b 2), .ref (b 3), .ref (b 4), .ref (b 5), .ref (b 6), .ref (b 7)])), (b 2, .inl (cI, 60, .inl F)), (b 3, .inl (cI, 60, .inl T)), (b 4, .inl (cI, 60, .inl P)), (b 5, .inl (cI, 60, .inl V)), (b 6, .inl (cI, 60, .inl (fun j => nI (o j)))), (b 7, .inl (cI, 60, .inl (fun j => nI (kr j))))] sz) := by
  refine Met.ofW (cc := cX0_part) (maxL := 2) (ret := (some .int)) (by decide) rfl ?_
  intro p e s m args below meth c s₁ B hml hv
  obtain ⟨rfl, hsz, hP, hK, hD0⟩ := hv
  have hx := B.exec
  have hb := B.bytes
  have hr := B.returns
  have hts := atoms_spec (ws := wsX0_part) B.pre
  have hown : s.vm.findClass RX0 = some m.cls := findClass_of_methodNamed B.named
  have hlocks := B.notSynchronized
  subst hsz
  have hD := hD0.self (sz := s.heap.size)
  generalize hAe : va_A [(b 13, .inr (0, [.ref (b 1), .ref (b 8), .ref (b 12)])), (b 8, .inl (cI, 4, .inl Wt)), (b 12, .inr (4, [.ref (b 1), .int p1, .int p2])), (b 1, .inr (6, [.int (nI n), .ref (b 2), .ref (b 3), .ref (b 4), .ref (b 5), .ref (b 6), .ref (b 7)])), (b 2, .inl (cI, 60, .inl F)), (b 3, .inl (cI, 60, .inl T)), (b 4, .inl (cI, 60, .inl P)), (b 5, .inl (cI, 60, .inl V)), (b 6, .inl (cI, 60, .inl (fun j => nI (o j)))), (b 7, .inl (cI, 60, .inl (fun j => nI (kr j))))] s.heap.size = A at hD ⊢
  have hA : ∀ q : Nat, s.heap.size ≤ q → A q := fun q h => by rw [← hAe]; exact Or.inr h
  have hS : va_S A s.heap s.heap [] := va_S.rf
  have hl := lv_entry ([.ref (b 13), .int kd]) (n := 2) (Nat.le_of_ble_eq_true rfl)
  rw [lg_entry_eq]
  generalize (lg_sl ([.ref (b 13), .int kd]) ++ List.replicate (2 - (lg_sl ([.ref (b 13), .int kd])).length) Slot.unset).toArray = ls at hl ⊢
  have hl : lv_has ls 2 [(0, .ref (b 13)), (1, .int kd)] := hl
  refine lv_iload_n hx hb dX0_part_0 rfl (lv_at hl 1 rfl) ?_
  by_cases c_1 : kd = 1
  · skip
    refine lv_tableIn (tgt := 32) hx hb dX0_part_1 (by rw [c_1]; decide) (by rw [c_1]; decide) (by rw [c_1]; rfl) (by decide) ?_
    refine lv_aload_n hx hb dX0_part_32 rfl (lv_at hl 0 rfl) ?_
    refine vp_callSi (gk_run (va_runV (As := []) (rest := []) ⟨hx, hb, hml, hown, hts⟩ (c_X0_leaps l dC dI cI b n F T P V o kr hn ho Wt p1 p2 hkr) (cwV 0 hts gX0_part_X0_leaps rfl rfl rfl (by decide +kernel) ⟨Nat.le_of_ble_eq_true rfl, Nat.le_of_ble_eq_true rfl⟩) ⟨gk_fb, va_recv hK hP (ci := 0) (q0 := 0) rfl rfl, fun U hU hW => ⟨rfl, by rw [hU]; exact hP, va_K.moved hW.alike hK⟩⟩ rfl rfl hl.1 rfl (lv_room (Nat.le_of_ble_eq_true rfl)) dX0_part_33 ⟨Nat.zero_le _, Nat.zero_le _⟩)) (fun r_2 er_2 => ?_)
    subst er_2
    exact W.iret (v := lpC P V Wt o kr n) hx hb hr (fun t ht hW => ⟨⟨_, (p1, p2), rfl, (by exact prt_1 (by assumption)), by rw [ht]; exact hP, va_K.moved hW.alike hK, hD⟩, hS.F ht⟩) hS.2.2 dX0_part_36
  have n_3 := c_1
  by_cases c_4 : kd = 2
  · skip
    refine lv_tableIn (tgt := 37) hx hb dX0_part_1 (by rw [c_4]; decide) (by rw [c_4]; decide) (by rw [c_4]; rfl) (by decide) ?_
    refine lv_aload_n hx hb dX0_part_37 rfl (lv_at hl 0 rfl) ?_
    refine vp_callSi (gk_run (va_runV (As := []) (rest := []) ⟨hx, hb, hml, hown, hts⟩ (c_X0_gaps l dC dI cI b n F T P V o kr hn ho Wt p1 p2 hkr) (cwV 0 hts gX0_part_X0_gaps rfl rfl rfl (by decide +kernel) ⟨Nat.le_of_ble_eq_true rfl, Nat.le_of_ble_eq_true rfl⟩) ⟨gk_fb, va_recv hK hP (ci := 0) (q0 := 0) rfl rfl, fun U hU hW => ⟨rfl, by rw [hU]; exact hP, va_K.moved hW.alike hK⟩⟩ rfl rfl hl.1 rfl (lv_room (Nat.le_of_ble_eq_true rfl)) dX0_part_38 ⟨Nat.zero_le _, Nat.zero_le _⟩)) (fun r_5 er_5 => ?_)
    subst er_5
    exact W.iret (v := gpC F T V Wt o kr n) hx hb hr (fun t ht hW => ⟨⟨_, (p1, p2), rfl, (by exact prt_2 (by assumption)), by rw [ht]; exact hP, va_K.moved hW.alike hK, hD⟩, hS.F ht⟩) hS.2.2 dX0_part_41
  have n_6 := c_4
  by_cases c_7 : kd = 3
  · skip
    refine lv_tableIn (tgt := 42) hx hb dX0_part_1 (by rw [c_7]; decide) (by rw [c_7]; decide) (by rw [c_7]; rfl) (by decide) ?_
    refine lv_aload_n hx hb dX0_part_42 rfl (lv_at hl 0 rfl) ?_
    have hPc := hP.sub (ws' := [(b 13, .inr (0, [.ref (b 1), .ref (b 8), .ref (b 12)])), (b 8, .inl (cI, 4, .inl Wt)), (b 12, .inr (4, [.ref (b 1), .int p1, .int p2])), (b 1, .inr (6, [.int (nI n), .ref (b 2), .ref (b 3), .ref (b 4), .ref (b 5), .ref (b 6), .ref (b 7)])), (b 2, .inl (cI, 60, .inl F)), (b 3, .inl (cI, 60, .inl T)), (b 4, .inl (cI, 60, .inl P)), (b 5, .inl (cI, 60, .inl V)), (b 6, .inl (cI, 60, .inl (fun j => nI (o j)))), (b 7, .inl (cI, 60, .inl (fun j => nI (kr j))))]) [0, 1, 2, 3, 4, 5, 6, 7, 8, 9] rfl
    have hDc := hD.sub (ws' := [(b 13, .inr (0, [.ref (b 1), .ref (b 8), .ref (b 12)])), (b 8, .inl (cI, 4, .inl Wt)), (b 12, .inr (4, [.ref (b 1), .int p1, .int p2])), (b 1, .inr (6, [.int (nI n), .ref (b 2), .ref (b 3), .ref (b 4), .ref (b 5), .ref (b 6), .ref (b 7)])), (b 2, .inl (cI, 60, .inl F)), (b 3, .inl (cI, 60, .inl T)), (b 4, .inl (cI, 60, .inl P)), (b 5, .inl (cI, 60, .inl V)), (b 6, .inl (cI, 60, .inl (fun j => nI (o j)))), (b 7, .inl (cI, 60, .inl (fun j => nI (kr j))))]) [0, 1, 2, 3, 4, 5, 6, 7, 8, 9] (by decide) rfl
    have hFc := va_free (wc := [(b 13, .inr (0, [.ref (b 1), .ref (b 8), .ref (b 12)])), (b 8, .inl (cI, 4, .inl Wt)), (b 12, .inr (4, [.ref (b 1), .int p1, .int p2])), (b 1, .inr (6, [.int (nI n), .ref (b 2), .ref (b 3), .ref (b 4), .ref (b 5), .ref (b 6), .ref (b 7)])), (b 2, .inl (cI, 60, .inl F)), (b 3, .inl (cI, 60, .inl T)), (b 4, .inl (cI, 60, .inl P)), (b 5, .inl (cI, 60, .inl V)), (b 6, .inl (cI, 60, .inl (fun j => nI (o j)))), (b 7, .inl (cI, 60, .inl (fun j => nI (kr j))))]) hD hS hA [0, 1, 2, 3, 4, 5, 6, 7, 8, 9] rfl
    refine va_calli (va_runV (As := []) (rest := []) ⟨hx, hb, hml, hown, hts⟩ (c_X0_crossings l dC dI cI s.heap.size b n F T P V o kr hn ho Wt p1 p2 hkr) (cwV 0 hts gX0_part_X0_crossings rfl rfl rfl (by decide +kernel) ⟨Nat.le_of_ble_eq_true rfl, Nat.le_of_ble_eq_true rfl⟩) ⟨gk_fbW, va_recv hK hPc (ci := 0) (q0 := 0) rfl rfl, fun U hU hW => ⟨rfl, by rw [hU], by rw [hU]; exact hPc, va_K.moved hW.alike hK, hDc.weaken (fun _ _ _ _ => trivial)⟩⟩ rfl rfl hl.1 rfl (lv_room (Nat.le_of_ble_eq_true rfl)) dX0_part_43 ⟨Nat.zero_le _, Nat.zero_le _⟩) hS (fun q _ h => hFc q h) hFc (fun r_8 u t H1 locs ht hvm hw hB hz1 hk1 hS => ?_)
    obtain ⟨y1, y2⟩ := u
    obtain ⟨hP1, hK1, hD1⟩ := hB
    rw [ht] at hP1
    try dsimp only at hw
    obtain ⟨hP, hD⟩ := va_join (wr := []) (w1 := [(b 13, .inr (0, [.ref (b 1), .ref (b 8), .ref (b 12)])), (b 8, .inl (cI, 4, .inl Wt)), (b 12, .inr (4, [.ref (b 1), .int y1, .int y2])), (b 1, .inr (6, [.int (nI n), .ref (b 2), .ref (b 3), .ref (b 4), .ref (b 5), .ref (b 6), .ref (b 7)])), (b 2, .inl (cI, 60, .inl F)), (b 3, .inl (cI, 60, .inl T)), (b 4, .inl (cI, 60, .inl P)), (b 5, .inl (cI, 60, .inl V)), (b 6, .inl (cI, 60, .inl (fun j => nI (o j)))), (b 7, .inl (cI, 60, .inl (fun j => nI (kr j))))]) hP hD [0, 1, 2, 3, 4, 5, 6, 7, 8, 9] [] rfl rfl (by decide) (by decide) hk1 hFc hP1 hD1
    generalize H1 = H at hP hS ⊢
    have hP : va_P (dC, dI) vwCl [(b 13, .inr (0, [.ref (b 1), .ref (b 8), .ref (b 12)])), (b 8, .inl (cI, 4, .inl Wt)), (b 12, .inr (4, [.ref (b 1), .int y1, .int y2])), (b 1, .inr (6, [.int (nI n), .ref (b 2), .ref (b 3), .ref (b 4), .ref (b 5), .ref (b 6), .ref (b 7)])), (b 2, .inl (cI, 60, .inl F)), (b 3, .inl (cI, 60, .inl T)), (b 4, .inl (cI, 60, .inl P)), (b 5, .inl (cI, 60, .inl V)), (b 6, .inl (cI, 60, .inl (fun j => nI (o j)))), (b 7, .inl (cI, 60, .inl (fun j => nI (kr j))))] H := hP
    have hD : va_D A [(b 13, .inr (0, [.ref (b 1), .ref (b 8), .ref (b 12)])), (b 8, .inl (cI, 4, .inl Wt)), (b 12, .inr (4, [.ref (b 1), .int y1, .int y2])), (b 1, .inr (6, [.int (nI n), .ref (b 2), .ref (b 3), .ref (b 4), .ref (b 5), .ref (b 6), .ref (b 7)])), (b 2, .inl (cI, 60, .inl F)), (b 3, .inl (cI, 60, .inl T)), (b 4, .inl (cI, 60, .inl P)), (b 5, .inl (cI, 60, .inl V)), (b 6, .inl (cI, 60, .inl (fun j => nI (o j)))), (b 7, .inl (cI, 60, .inl (fun j => nI (kr j))))] := hD
    subst hw
    exact W.iret (v := nI (totc (qC F T P V o 0) n n) * Wt 2) hx hb hr (fun t ht hW => ⟨⟨_, (y1, y2), rfl, (by exact prt_3 (by assumption)), by rw [ht]; exact hP, va_K.moved hW.alike hK, hD⟩, hS.F ht⟩) hS.2.2 dX0_part_46
  have n_9 := c_7
  by_cases c_10 : kd = 4
  · skip
    refine lv_tableIn (tgt := 47) hx hb dX0_part_1 (by rw [c_10]; decide) (by rw [c_10]; decide) (by rw [c_10]; rfl) (by decide) ?_
    refine lv_aload_n hx hb dX0_part_47 rfl (lv_at hl 0 rfl) ?_
    refine vp_callSi (gk_run (va_runV (As := []) (rest := []) ⟨hx, hb, hml, hown, hts⟩ (c_X0_used l dC dI cI b n F T P V o kr hn ho Wt p1 p2 hkr) (cwV 0 hts gX0_part_X0_used rfl rfl rfl (by decide +kernel) ⟨Nat.le_of_ble_eq_true rfl, Nat.le_of_ble_eq_true rfl⟩) ⟨gk_fb, va_recv hK hP (ci := 0) (q0 := 0) rfl rfl, fun U hU hW => ⟨rfl, by rw [hU]; exact hP, va_K.moved hW.alike hK⟩⟩ rfl rfl hl.1 rfl (lv_room (Nat.le_of_ble_eq_true rfl)) dX0_part_48 ⟨Nat.zero_le _, Nat.zero_le _⟩)) (fun r_11 er_11 => ?_)
    subst er_11
    exact W.iret (v := nI (usN V n) * Wt 3) hx hb hr (fun t ht hW => ⟨⟨_, (p1, p2), rfl, (by exact prt_4 (by assumption)), by rw [ht]; exact hP, va_K.moved hW.alike hK, hD⟩, hS.F ht⟩) hS.2.2 dX0_part_51
  have n_12 := c_10
  refine lv_tableOut (tgt := 52) hx hb dX0_part_1 (gk_out104 n_3 n_6 n_9 n_12) (by decide) ?_
  refine lv_aload_n hx hb dX0_part_52 rfl (lv_at hl 0 rfl) ?_
  refine vp_callSi (gk_run (va_runV (As := []) (rest := []) ⟨hx, hb, hml, hown, hts⟩ (c_X0_leaps l dC dI cI b n F T P V o kr hn ho Wt p1 p2 hkr) (cwV 0 hts gX0_part_X0_leaps rfl rfl rfl (by decide +kernel) ⟨Nat.le_of_ble_eq_true rfl, Nat.le_of_ble_eq_true rfl⟩) ⟨gk_fb, va_recv hK hP (ci := 0) (q0 := 0) rfl rfl, fun U hU hW => ⟨rfl, by rw [hU]; exact hP, va_K.moved hW.alike hK⟩⟩ rfl rfl hl.1 rfl (lv_room (Nat.le_of_ble_eq_true rfl)) dX0_part_53 ⟨Nat.zero_le _, Nat.zero_le _⟩)) (fun r_14 er_14 => ?_)
  subst er_14
  refine lv_aload_n hx hb dX0_part_56 rfl (lv_at hl 0 rfl) ?_
  refine vp_callSi (gk_run (va_runV (As := []) (rest := [.int (lpC P V Wt o kr n)]) ⟨hx, hb, hml, hown, hts⟩ (c_X0_gaps l dC dI cI b n F T P V o kr hn ho Wt p1 p2 hkr) (cwV 0 hts gX0_part_X0_gaps rfl rfl rfl (by decide +kernel) ⟨Nat.le_of_ble_eq_true rfl, Nat.le_of_ble_eq_true rfl⟩) ⟨gk_fb, va_recv hK hP (ci := 0) (q0 := 0) rfl rfl, fun U hU hW => ⟨rfl, by rw [hU]; exact hP, va_K.moved hW.alike hK⟩⟩ rfl rfl hl.1 rfl (lv_room (Nat.le_of_ble_eq_true rfl)) dX0_part_57 ⟨Nat.zero_le _, Nat.zero_le _⟩)) (fun r_15 er_15 => ?_)
  subst er_15
  refine lv_iadd hx hb dX0_part_60 ?_
  refine lv_aload_n hx hb dX0_part_61 rfl (lv_at hl 0 rfl) ?_
  have hPc := hP.sub (ws' := [(b 13, .inr (0, [.ref (b 1), .ref (b 8), .ref (b 12)])), (b 8, .inl (cI, 4, .inl Wt)), (b 12, .inr (4, [.ref (b 1), .int p1, .int p2])), (b 1, .inr (6, [.int (nI n), .ref (b 2), .ref (b 3), .ref (b 4), .ref (b 5), .ref (b 6), .ref (b 7)])), (b 2, .inl (cI, 60, .inl F)), (b 3, .inl (cI, 60, .inl T)), (b 4, .inl (cI, 60, .inl P)), (b 5, .inl (cI, 60, .inl V)), (b 6, .inl (cI, 60, .inl (fun j => nI (o j)))), (b 7, .inl (cI, 60, .inl (fun j => nI (kr j))))]) [0, 1, 2, 3, 4, 5, 6, 7, 8, 9] rfl
  have hDc := hD.sub (ws' := [(b 13, .inr (0, [.ref (b 1), .ref (b 8), .ref (b 12)])), (b 8, .inl (cI, 4, .inl Wt)), (b 12, .inr (4, [.ref (b 1), .int p1, .int p2])), (b 1, .inr (6, [.int (nI n), .ref (b 2), .ref (b 3), .ref (b 4), .ref (b 5), .ref (b 6), .ref (b 7)])), (b 2, .inl (cI, 60, .inl F)), (b 3, .inl (cI, 60, .inl T)), (b 4, .inl (cI, 60, .inl P)), (b 5, .inl (cI, 60, .inl V)), (b 6, .inl (cI, 60, .inl (fun j => nI (o j)))), (b 7, .inl (cI, 60, .inl (fun j => nI (kr j))))]) [0, 1, 2, 3, 4, 5, 6, 7, 8, 9] (by decide) rfl
  have hFc := va_free (wc := [(b 13, .inr (0, [.ref (b 1), .ref (b 8), .ref (b 12)])), (b 8, .inl (cI, 4, .inl Wt)), (b 12, .inr (4, [.ref (b 1), .int p1, .int p2])), (b 1, .inr (6, [.int (nI n), .ref (b 2), .ref (b 3), .ref (b 4), .ref (b 5), .ref (b 6), .ref (b 7)])), (b 2, .inl (cI, 60, .inl F)), (b 3, .inl (cI, 60, .inl T)), (b 4, .inl (cI, 60, .inl P)), (b 5, .inl (cI, 60, .inl V)), (b 6, .inl (cI, 60, .inl (fun j => nI (o j)))), (b 7, .inl (cI, 60, .inl (fun j => nI (kr j))))]) hD hS hA [0, 1, 2, 3, 4, 5, 6, 7, 8, 9] rfl
  refine va_calli (va_runV (As := []) (rest := [.int ((lpC P V Wt o kr n) + (gpC F T V Wt o kr n))]) ⟨hx, hb, hml, hown, hts⟩ (c_X0_crossings l dC dI cI s.heap.size b n F T P V o kr hn ho Wt p1 p2 hkr) (cwV 0 hts gX0_part_X0_crossings rfl rfl rfl (by decide +kernel) ⟨Nat.le_of_ble_eq_true rfl, Nat.le_of_ble_eq_true rfl⟩) ⟨gk_fbW, va_recv hK hPc (ci := 0) (q0 := 0) rfl rfl, fun U hU hW => ⟨rfl, by rw [hU], by rw [hU]; exact hPc, va_K.moved hW.alike hK, hDc.weaken (fun _ _ _ _ => trivial)⟩⟩ rfl rfl hl.1 rfl (lv_room (Nat.le_of_ble_eq_true rfl)) dX0_part_62 ⟨Nat.zero_le _, Nat.zero_le _⟩) hS (fun q _ h => hFc q h) hFc (fun r_16 u t H1 locs ht hvm hw hB hz1 hk1 hS => ?_)
  obtain ⟨y1, y2⟩ := u
  obtain ⟨hP1, hK1, hD1⟩ := hB
  rw [ht] at hP1
  try dsimp only at hw
  obtain ⟨hP, hD⟩ := va_join (wr := []) (w1 := [(b 13, .inr (0, [.ref (b 1), .ref (b 8), .ref (b 12)])), (b 8, .inl (cI, 4, .inl Wt)), (b 12, .inr (4, [.ref (b 1), .int y1, .int y2])), (b 1, .inr (6, [.int (nI n), .ref (b 2), .ref (b 3), .ref (b 4), .ref (b 5), .ref (b 6), .ref (b 7)])), (b 2, .inl (cI, 60, .inl F)), (b 3, .inl (cI, 60, .inl T)), (b 4, .inl (cI, 60, .inl P)), (b 5, .inl (cI, 60, .inl V)), (b 6, .inl (cI, 60, .inl (fun j => nI (o j)))), (b 7, .inl (cI, 60, .inl (fun j => nI (kr j))))]) hP hD [0, 1, 2, 3, 4, 5, 6, 7, 8, 9] [] rfl rfl (by decide) (by decide) hk1 hFc hP1 hD1
  generalize H1 = H at hP hS ⊢
  have hP : va_P (dC, dI) vwCl [(b 13, .inr (0, [.ref (b 1), .ref (b 8), .ref (b 12)])), (b 8, .inl (cI, 4, .inl Wt)), (b 12, .inr (4, [.ref (b 1), .int y1, .int y2])), (b 1, .inr (6, [.int (nI n), .ref (b 2), .ref (b 3), .ref (b 4), .ref (b 5), .ref (b 6), .ref (b 7)])), (b 2, .inl (cI, 60, .inl F)), (b 3, .inl (cI, 60, .inl T)), (b 4, .inl (cI, 60, .inl P)), (b 5, .inl (cI, 60, .inl V)), (b 6, .inl (cI, 60, .inl (fun j => nI (o j)))), (b 7, .inl (cI, 60, .inl (fun j => nI (kr j))))] H := hP
  have hD : va_D A [(b 13, .inr (0, [.ref (b 1), .ref (b 8), .ref (b 12)])), (b 8, .inl (cI, 4, .inl Wt)), (b 12, .inr (4, [.ref (b 1), .int y1, .int y2])), (b 1, .inr (6, [.int (nI n), .ref (b 2), .ref (b 3), .ref (b 4), .ref (b 5), .ref (b 6), .ref (b 7)])), (b 2, .inl (cI, 60, .inl F)), (b 3, .inl (cI, 60, .inl T)), (b 4, .inl (cI, 60, .inl P)), (b 5, .inl (cI, 60, .inl V)), (b 6, .inl (cI, 60, .inl (fun j => nI (o j)))), (b 7, .inl (cI, 60, .inl (fun j => nI (kr j))))] := hD
  subst hw
  refine lv_iadd hx hb dX0_part_65 ?_
  refine lv_aload_n hx hb dX0_part_66 rfl (lv_at hl 0 rfl) ?_
  refine vp_callSi (gk_run (va_runV (As := []) (rest := [.int (((lpC P V Wt o kr n) + (gpC F T V Wt o kr n)) + (nI (totc (qC F T P V o 0) n n) * Wt 2))]) ⟨hx, hb, hml, hown, hts⟩ (c_X0_used l dC dI cI b n F T P V o kr hn ho Wt y1 y2 hkr) (cwV 0 hts gX0_part_X0_used rfl rfl rfl (by decide +kernel) ⟨Nat.le_of_ble_eq_true rfl, Nat.le_of_ble_eq_true rfl⟩) ⟨gk_fb, va_recv hK hP (ci := 0) (q0 := 0) rfl rfl, fun U hU hW => ⟨rfl, by rw [hU]; exact hP, va_K.moved hW.alike hK⟩⟩ rfl rfl hl.1 rfl (lv_room (Nat.le_of_ble_eq_true rfl)) dX0_part_67 ⟨Nat.zero_le _, Nat.zero_le _⟩)) (fun r_17 er_17 => ?_)
  subst er_17
  refine lv_iadd hx hb dX0_part_70 ?_
  exact W.iret (v := (((lpC P V Wt o kr n) + (gpC F T V Wt o kr n)) + (nI (totc (qC F T P V o 0) n n) * Wt 2)) + (nI (usN V n) * Wt 3)) hx hb hr (fun t ht hW => ⟨⟨_, (y1, y2), rfl, (by exact prt_0 (by assumption) (by assumption) (by assumption) (by assumption)), by rw [ht]; exact hP, va_K.moved hW.alike hK, hD⟩, hS.F ht⟩) hS.2.2 dX0_part_71

set_option maxHeartbeats 1000000 in
set_option maxRecDepth 100000 in
theorem c_X7_pairs (l : Launch) (dC : Nat → ClassId) (dI : Nat → Nat → Nat) (cI : ClassId) (sz : Nat) (b : Nat → Nat) (n : Nat) (F T P V : Nat → Int32) (o kr : Nat → Nat) (Wt : Nat → Int32) (rc : Int32) (RB RE : Nat → Int32) (p1 p2 : Int32) (LA : Nat → Int32) (vs : Int32) (PL : Nat → Int32) (kn kl : Nat) (KN CH : Nat → Int32) (hn : n ≤ 60) (ho : ∀ j, o j < 60) (kd : Int32) : Met l yX7_pairs wsX7_pairs ({ frames := 3, cells := 0, slots := 0, locals := 70 } : Room) (va_Pc [.ref (b 0), .int kd] (fun U => U.heap.size = sz ∧ va_P (dC, dI) vwCl (xW cI b (nI n) F T P V (fun j => nI (o j)) (fun j => nI (kr j)) Wt rc RB RE p1 p2 LA vs PL kn kl KN CH) U.heap ∧ va_K (dC, dI) vwCl [(cI, .int)] U ∧ va_D (fun _ => True) (xW cI b (nI n) F T P V (fun j => nI (o j)) (fun j => nI (kr j)) Wt rc RB RE p1 p2 LA vs PL kn kl KN CH))) (va_Qi (fun (r : Int32) (u : SS × XJ) => r = (if 0 ≤ kd ∧ kd ≤ 2 then nI (totc (qC F T P V o kd) n n) else -2) ∧ ∃ y1 y2, u = ((n, F, T, P, V, Wt, o), (kr, rc, RB, RE, y1, y2, LA, vs, PL, kn, kl, KN, CH))) (fun u t => va_P (dC, dI) vwCl (xWu cI b u.1 u.2) t.heap ∧ va_K (dC, dI) vwCl [(cI, .int)] t ∧ va_D (va_A (xW cI b (nI n) F T P V (fun j => nI (o j)) (fun j => nI (kr j)) Wt rc RB RE p1 p2 LA vs PL kn kl KN CH) sz) (xWu cI b u.1 u.2)) (va_A (xW cI b (nI n) F T P V (fun j => nI (o j)) (fun j => nI (kr j)) Wt rc RB RE p1 p2 LA vs PL kn kl KN CH) sz)) 0 0 (va_A (xW cI b (nI n) F T P V (fun j => nI (o j)) (fun j => nI (kr j)) Wt rc RB RE p1 p2 LA vs PL kn kl KN CH) sz) := by
  refine Met.ofW (cc := cX7_pairs) (maxL := 2) (ret := (some .int)) (by decide) rfl ?_
  intro p e s m args below meth c s₁ B hml hv
  obtain ⟨rfl, hsz, hP, hK, hD0⟩ := hv
  have hx := B.exec
  have hb := B.bytes
  have hr := B.returns
  have hts := atoms_spec (ws := wsX7_pairs) B.pre
  have hown : s.vm.findClass RX7 = some m.cls := findClass_of_methodNamed B.named
  have hlocks := B.notSynchronized
  subst hsz
  have hD := hD0.self (sz := s.heap.size)
  generalize hAe : va_A (xW cI b (nI n) F T P V (fun j => nI (o j)) (fun j => nI (kr j)) Wt rc RB RE p1 p2 LA vs PL kn kl KN CH) s.heap.size = A at hD ⊢
  have hA : ∀ q : Nat, s.heap.size ≤ q → A q := fun q h => by rw [← hAe]; exact Or.inr h
  have hS : va_S A s.heap s.heap [] := va_S.rf
  have i_X7 : ∀ w ∈ u_ws RX7 TX7 7, w ∈ wsX7_pairs := by decide +kernel
  have k_0 := hts (.fieldLink RX7 40 "VoiceRows" "pairRows" "LVoiceRows$PairRows;") (by decide +kernel)
  have hl := lv_entry ([.ref (b 0), .int kd]) (n := 2) (Nat.le_of_ble_eq_true rfl)
  rw [lg_entry_eq]
  generalize (lg_sl ([.ref (b 0), .int kd]) ++ List.replicate (2 - (lg_sl ([.ref (b 0), .int kd])).length) Slot.unset).toArray = ls at hl ⊢
  have hl : lv_has ls 2 [(0, .ref (b 0)), (1, .int kd)] := hl
  refine lv_iload_n hx hb dX7_pairs_0 rfl (lv_at hl 1 rfl) ?_
  refine lv_iconst (v := 0) hx hb dX7_pairs_1 (by decide) ?_
  refine lv_iconst (v := 2) hx hb dX7_pairs_2 (by decide) ?_
  refine vp_callSi (gk_run (va_runS (As := [.int kd, .int 0, .int 2]) (rest := []) ⟨hx, hb, hml, hown, hts⟩ (c_X7_within l kd 0 2) (gk_cwS 3 hts gX7_pairs_X7_within rfl rfl rfl (by decide +kernel) ⟨Nat.le_of_ble_eq_true rfl, Nat.le_of_ble_eq_true rfl⟩) ⟨gk_fbT, fun U hU hW => ⟨rfl, trivial⟩⟩ rfl rfl hl.1 rfl (lv_room (Nat.le_of_ble_eq_true rfl)) dX7_pairs_3 ⟨Nat.zero_le _, Nat.zero_le _⟩)) (fun r_1 er_1 => ?_)
  subst er_1
  refine lv_if_eq (tgt := 21) hx hb dX7_pairs_6 (by decide) (fun c_2 => ?_) (fun c_2 => ?_)
  · skip
    have c_2 : (decide (0 ≤ kd) && decide (kd ≤ 2)) = false := b2i_0.mp c_2
    refine lv_bipush (v := (-2)) hx hb dX7_pairs_21 (by decide) ?_
    exact W.iret (v := (-2)) hx hb hr (fun t ht hW => ⟨⟨_, ((n, F, T, P, V, Wt, o), (kr, rc, RB, RE, p1, p2, LA, vs, PL, kn, kl, KN, CH)), rfl, (by exact ⟨ite_f (by (simp only [decide_eq_true_eq, decide_eq_false_iff_not, Bool.and_eq_true, Bool.and_eq_false_iff, Bool.or_eq_true, Bool.or_eq_false_iff, Bool.not_eq_true, Bool.not_eq_false, ne_eq, not_and, not_or, tog_t, tog_f, ahd_t, ahd_f, isoB_t, isoB_f, ixB_t, ixB_f, vOK_t, vOK_f, wOK_t, wOK_f, tn4, Int32.lt_iff_toInt_lt, Int32.le_iff_toInt_le, ← Int32.toInt_inj, tI0, tI1, tI2, tI3, tI4, tI6, tI14, tI59, tI60, tI127, tI1000, tI100000, tIm1, tIm2, tIm3, tIm4, tIbig] at c_2 ⊢ <;> omega)) rfl, p1, p2, rfl⟩), by rw [ht]; exact hP, va_K.moved hW.alike hK, hD⟩, hS.F ht⟩) hS.2.2 dX7_pairs_23
  · skip
    have c_2 : (decide (0 ≤ kd) && decide (kd ≤ 2)) = true := b2i_1.mp c_2
    refine lv_aload_n hx hb dX7_pairs_9 rfl (lv_at hl 0 rfl) ?_
    refine va_get (D := (dC, dI)) (ci := 7) (v := .ref (b 12)) (C := RX7) (T := TX7) (N := 7) hx hb hts i_X7 hown hK hP 0 rfl rfl 3 (by decide) k_0 (fun _ h9 => h9) rfl dX7_pairs_10 ?_
    refine lv_iload_n hx hb dX7_pairs_13 rfl (lv_at hl 1 rfl) ?_
    refine lv_iconst (v := (-1)) hx hb dX7_pairs_14 (by decide) ?_
    have hPc := hP.sub (ws' := [(b 12, .inr (4, [.ref (b 1), .int p1, .int p2])), (b 1, .inr (6, [.int (nI n), .ref (b 2), .ref (b 3), .ref (b 4), .ref (b 5), .ref (b 6), .ref (b 7)])), (b 2, .inl (cI, 60, .inl F)), (b 3, .inl (cI, 60, .inl T)), (b 4, .inl (cI, 60, .inl P)), (b 5, .inl (cI, 60, .inl V)), (b 6, .inl (cI, 60, .inl (fun j => nI (o j)))), (b 7, .inl (cI, 60, .inl (fun j => nI (kr j))))]) [12, 1, 2, 3, 4, 5, 6, 7] rfl
    have hDc := hD.sub (ws' := [(b 12, .inr (4, [.ref (b 1), .int p1, .int p2])), (b 1, .inr (6, [.int (nI n), .ref (b 2), .ref (b 3), .ref (b 4), .ref (b 5), .ref (b 6), .ref (b 7)])), (b 2, .inl (cI, 60, .inl F)), (b 3, .inl (cI, 60, .inl T)), (b 4, .inl (cI, 60, .inl P)), (b 5, .inl (cI, 60, .inl V)), (b 6, .inl (cI, 60, .inl (fun j => nI (o j)))), (b 7, .inl (cI, 60, .inl (fun j => nI (kr j))))]) [12, 1, 2, 3, 4, 5, 6, 7] (by decide) rfl
    have hFc := va_free (wc := [(b 12, .inr (4, [.ref (b 1), .int p1, .int p2])), (b 1, .inr (6, [.int (nI n), .ref (b 2), .ref (b 3), .ref (b 4), .ref (b 5), .ref (b 6), .ref (b 7)])), (b 2, .inl (cI, 60, .inl F)), (b 3, .inl (cI, 60, .inl T)), (b 4, .inl (cI, 60, .inl P)), (b 5, .inl (cI, 60, .inl V)), (b 6, .inl (cI, 60, .inl (fun j => nI (o j)))), (b 7, .inl (cI, 60, .inl (fun j => nI (kr j))))]) hD hS hA [12, 1, 2, 3, 4, 5, 6, 7] rfl
    refine va_calli (va_runV (As := [.int kd, .int (-1)]) (rest := []) ⟨hx, hb, hml, hown, hts⟩ (c_X4_scan l dC dI cI s.heap.size b n F T P V o kr hn ho p1 p2 kd (-1)) (cwV 2 hts gX7_pairs_X4_scan rfl rfl rfl (by decide +kernel) ⟨Nat.le_of_ble_eq_true rfl, Nat.le_of_ble_eq_true rfl⟩) ⟨gk_fbW, va_recv hK hPc (ci := 4) (q0 := 0) rfl rfl, fun U hU hW => ⟨rfl, by rw [hU], by rw [hU]; exact hPc, va_K.moved hW.alike hK, hDc.weaken (fun _ _ _ _ => trivial)⟩⟩ rfl rfl hl.1 rfl (lv_room (Nat.le_of_ble_eq_true rfl)) dX7_pairs_15 ⟨Nat.zero_le _, Nat.zero_le _⟩) hS (fun q _ h => hFc q h) hFc (fun r_3 u t H1 locs ht hvm hw hB hz1 hk1 hS => ?_)
    obtain ⟨y1, y2⟩ := u
    obtain ⟨hP1, hK1, hD1⟩ := hB
    rw [ht] at hP1
    try dsimp only at hw
    obtain ⟨hP, hD⟩ := va_join (wr := [(b 0, .inr (7, [.ref (b 1), .ref (b 8), .ref (b 9), .ref (b 12), .ref (b 13), .ref (b 16), .ref (b 19)])), (b 8, .inl (cI, 4, .inl Wt)), (b 9, .inr (5, [.ref (b 1), .int rc, .ref (b 10), .ref (b 11)])), (b 10, .inl (cI, 61, .inl RB)), (b 11, .inl (cI, 61, .inl RE)), (b 13, .inr (0, [.ref (b 1), .ref (b 8), .ref (b 12)])), (b 14, .inr (3, [.ref (b 1), .ref (b 8), .ref (b 15)])), (b 15, .inl (cI, 4, .inl LA)), (b 16, .inr (1, [.ref (b 1), .ref (b 14), .ref (b 17), .int vs, .ref kn])), (b 17, .inl (cI, 4, .inl PL)), (kn, .inl (cI, kl, .inl KN)), (b 19, .inr (2, [.ref (b 1), .ref (b 14), .ref (b 20)])), (b 20, .inl (cI, 60, .inl CH))]) (w1 := [(b 12, .inr (4, [.ref (b 1), .int y1, .int y2])), (b 1, .inr (6, [.int (nI n), .ref (b 2), .ref (b 3), .ref (b 4), .ref (b 5), .ref (b 6), .ref (b 7)])), (b 2, .inl (cI, 60, .inl F)), (b 3, .inl (cI, 60, .inl T)), (b 4, .inl (cI, 60, .inl P)), (b 5, .inl (cI, 60, .inl V)), (b 6, .inl (cI, 60, .inl (fun j => nI (o j)))), (b 7, .inl (cI, 60, .inl (fun j => nI (kr j))))]) hP hD [12, 1, 2, 3, 4, 5, 6, 7] [0, 8, 9, 10, 11, 13, 14, 15, 16, 17, 18, 19, 20] rfl rfl (by decide) (by decide) hk1 hFc hP1 hD1
    generalize H1 = H at hP hS ⊢
    have hP := hP.sub (ws' := [(b 0, .inr (7, [.ref (b 1), .ref (b 8), .ref (b 9), .ref (b 12), .ref (b 13), .ref (b 16), .ref (b 19)])), (b 1, .inr (6, [.int (nI n), .ref (b 2), .ref (b 3), .ref (b 4), .ref (b 5), .ref (b 6), .ref (b 7)])), (b 2, .inl (cI, 60, .inl F)), (b 3, .inl (cI, 60, .inl T)), (b 4, .inl (cI, 60, .inl P)), (b 5, .inl (cI, 60, .inl V)), (b 6, .inl (cI, 60, .inl (fun j => nI (o j)))), (b 7, .inl (cI, 60, .inl (fun j => nI (kr j)))), (b 8, .inl (cI, 4, .inl Wt)), (b 9, .inr (5, [.ref (b 1), .int rc, .ref (b 10), .ref (b 11)])), (b 10, .inl (cI, 61, .inl RB)), (b 11, .inl (cI, 61, .inl RE)), (b 12, .inr (4, [.ref (b 1), .int y1, .int y2])), (b 13, .inr (0, [.ref (b 1), .ref (b 8), .ref (b 12)])), (b 14, .inr (3, [.ref (b 1), .ref (b 8), .ref (b 15)])), (b 15, .inl (cI, 4, .inl LA)), (b 16, .inr (1, [.ref (b 1), .ref (b 14), .ref (b 17), .int vs, .ref kn])), (b 17, .inl (cI, 4, .inl PL)), (kn, .inl (cI, kl, .inl KN)), (b 19, .inr (2, [.ref (b 1), .ref (b 14), .ref (b 20)])), (b 20, .inl (cI, 60, .inl CH))]) [0, 14, 15, 16, 17, 18, 19, 20, 1, 2, 3, 4, 13, 5, 6, 7, 8, 9, 10, 11, 12] rfl
    have hD := hD.sub (ws' := [(b 0, .inr (7, [.ref (b 1), .ref (b 8), .ref (b 9), .ref (b 12), .ref (b 13), .ref (b 16), .ref (b 19)])), (b 1, .inr (6, [.int (nI n), .ref (b 2), .ref (b 3), .ref (b 4), .ref (b 5), .ref (b 6), .ref (b 7)])), (b 2, .inl (cI, 60, .inl F)), (b 3, .inl (cI, 60, .inl T)), (b 4, .inl (cI, 60, .inl P)), (b 5, .inl (cI, 60, .inl V)), (b 6, .inl (cI, 60, .inl (fun j => nI (o j)))), (b 7, .inl (cI, 60, .inl (fun j => nI (kr j)))), (b 8, .inl (cI, 4, .inl Wt)), (b 9, .inr (5, [.ref (b 1), .int rc, .ref (b 10), .ref (b 11)])), (b 10, .inl (cI, 61, .inl RB)), (b 11, .inl (cI, 61, .inl RE)), (b 12, .inr (4, [.ref (b 1), .int y1, .int y2])), (b 13, .inr (0, [.ref (b 1), .ref (b 8), .ref (b 12)])), (b 14, .inr (3, [.ref (b 1), .ref (b 8), .ref (b 15)])), (b 15, .inl (cI, 4, .inl LA)), (b 16, .inr (1, [.ref (b 1), .ref (b 14), .ref (b 17), .int vs, .ref kn])), (b 17, .inl (cI, 4, .inl PL)), (kn, .inl (cI, kl, .inl KN)), (b 19, .inr (2, [.ref (b 1), .ref (b 14), .ref (b 20)])), (b 20, .inl (cI, 60, .inl CH))]) [0, 14, 15, 16, 17, 18, 19, 20, 1, 2, 3, 4, 13, 5, 6, 7, 8, 9, 10, 11, 12] (by decide) rfl
    have hP : va_P (dC, dI) vwCl [(b 0, .inr (7, [.ref (b 1), .ref (b 8), .ref (b 9), .ref (b 12), .ref (b 13), .ref (b 16), .ref (b 19)])), (b 1, .inr (6, [.int (nI n), .ref (b 2), .ref (b 3), .ref (b 4), .ref (b 5), .ref (b 6), .ref (b 7)])), (b 2, .inl (cI, 60, .inl F)), (b 3, .inl (cI, 60, .inl T)), (b 4, .inl (cI, 60, .inl P)), (b 5, .inl (cI, 60, .inl V)), (b 6, .inl (cI, 60, .inl (fun j => nI (o j)))), (b 7, .inl (cI, 60, .inl (fun j => nI (kr j)))), (b 8, .inl (cI, 4, .inl Wt)), (b 9, .inr (5, [.ref (b 1), .int rc, .ref (b 10), .ref (b 11)])), (b 10, .inl (cI, 61, .inl RB)), (b 11, .inl (cI, 61, .inl RE)), (b 12, .inr (4, [.ref (b 1), .int y1, .int y2])), (b 13, .inr (0, [.ref (b 1), .ref (b 8), .ref (b 12)])), (b 14, .inr (3, [.ref (b 1), .ref (b 8), .ref (b 15)])), (b 15, .inl (cI, 4, .inl LA)), (b 16, .inr (1, [.ref (b 1), .ref (b 14), .ref (b 17), .int vs, .ref kn])), (b 17, .inl (cI, 4, .inl PL)), (kn, .inl (cI, kl, .inl KN)), (b 19, .inr (2, [.ref (b 1), .ref (b 14), .ref (b 20)])), (b 20, .inl (cI, 60, .inl CH))] H := hP
    have hD : va_D A [(b 0, .inr (7, [.ref (b 1), .ref (b 8), .ref (b 9), .ref (b 12), .ref (b 13), .ref (b 16), .ref (b 19)])), (b 1, .inr (6, [.int (nI n), .ref (b 2), .ref (b 3), .ref (b 4), .ref (b 5), .ref (b 6), .ref (b 7)])), (b 2, .inl (cI, 60, .inl F)), (b 3, .inl (cI, 60, .inl T)), (b 4, .inl (cI, 60, .inl P)), (b 5, .inl (cI, 60, .inl V)), (b 6, .inl (cI, 60, .inl (fun j => nI (o j)))), (b 7, .inl (cI, 60, .inl (fun j => nI (kr j)))), (b 8, .inl (cI, 4, .inl Wt)), (b 9, .inr (5, [.ref (b 1), .int rc, .ref (b 10), .ref (b 11)])), (b 10, .inl (cI, 61, .inl RB)), (b 11, .inl (cI, 61, .inl RE)), (b 12, .inr (4, [.ref (b 1), .int y1, .int y2])), (b 13, .inr (0, [.ref (b 1), .ref (b 8), .ref (b 12)])), (b 14, .inr (3, [.ref (b 1), .ref (b 8), .ref (b 15)])), (b 15, .inl (cI, 4, .inl LA)), (b 16, .inr (1, [.ref (b 1), .ref (b 14), .ref (b 17), .int vs, .ref kn])), (b 17, .inl (cI, 4, .inl PL)), (kn, .inl (cI, kl, .inl KN)), (b 19, .inr (2, [.ref (b 1), .ref (b 14), .ref (b 20)])), (b 20, .inl (cI, 60, .inl CH))] := hD
    obtain ⟨w1, w2⟩ := hw
    subst w1
    refine lv_goto (tgt := 23) hx hb dX7_pairs_18 (by decide) ?_
    exact W.iret (v := nI (totc (qC F T P V o kd) n n)) hx hb hr (fun t ht hW => ⟨⟨_, ((n, F, T, P, V, Wt, o), (kr, rc, RB, RE, y1, y2, LA, vs, PL, kn, kl, KN, CH)), rfl, (by exact ⟨ite_t (by (simp only [decide_eq_true_eq, decide_eq_false_iff_not, Bool.and_eq_true, Bool.and_eq_false_iff, Bool.or_eq_true, Bool.or_eq_false_iff, Bool.not_eq_true, Bool.not_eq_false, ne_eq, not_and, not_or, tog_t, tog_f, ahd_t, ahd_f, isoB_t, isoB_f, ixB_t, ixB_f, vOK_t, vOK_f, wOK_t, wOK_f, tn4, Int32.lt_iff_toInt_lt, Int32.le_iff_toInt_le, ← Int32.toInt_inj, tI0, tI1, tI2, tI3, tI4, tI6, tI14, tI59, tI60, tI127, tI1000, tI100000, tIm1, tIm2, tIm3, tIm4, tIbig] at c_2 ⊢ <;> omega)) rfl, y1, y2, rfl⟩), by rw [ht]; exact hP, va_K.moved hW.alike hK, hD⟩, hS.F ht⟩) hS.2.2 dX7_pairs_23

set_option maxHeartbeats 1000000 in
set_option maxRecDepth 100000 in
theorem c_X7_pair (l : Launch) (dC : Nat → ClassId) (dI : Nat → Nat → Nat) (cI : ClassId) (sz : Nat) (b : Nat → Nat) (n : Nat) (F T P V : Nat → Int32) (o kr : Nat → Nat) (Wt : Nat → Int32) (rc : Int32) (RB RE : Nat → Int32) (p1 p2 : Int32) (LA : Nat → Int32) (vs : Int32) (PL : Nat → Int32) (kn kl : Nat) (KN CH : Nat → Int32) (hn : n ≤ 60) (ho : ∀ j, o j < 60) (kd i wh : Int32) : Met l yX7_pair wsX7_pair ({ frames := 3, cells := 0, slots := 0, locals := 70 } : Room) (va_Pc [.ref (b 0), .int kd, .int i, .int wh] (fun U => U.heap.size = sz ∧ va_P (dC, dI) vwCl (xW cI b (nI n) F T P V (fun j => nI (o j)) (fun j => nI (kr j)) Wt rc RB RE p1 p2 LA vs PL kn kl KN CH) U.heap ∧ va_K (dC, dI) vwCl [(cI, .int)] U ∧ va_D (fun _ => True) (xW cI b (nI n) F T P V (fun j => nI (o j)) (fun j => nI (kr j)) Wt rc RB RE p1 p2 LA vs PL kn kl KN CH))) (va_Qi (fun (r : Int32) (u : SS × XJ) => ((0 ≤ kd ∧ kd ≤ 2 ∧ 0 ≤ i ∧ 0 ≤ wh ∧ wh ≤ 1) → pOK (qC F T P V o kd) o n i wh r) ∧ (¬ (0 ≤ kd ∧ kd ≤ 2 ∧ 0 ≤ i ∧ 0 ≤ wh ∧ wh ≤ 1) → r = -2) ∧ ∃ y1 y2, u = ((n, F, T, P, V, Wt, o), (kr, rc, RB, RE, y1, y2, LA, vs, PL, kn, kl, KN, CH))) (fun u t => va_P (dC, dI) vwCl (xWu cI b u.1 u.2) t.heap ∧ va_K (dC, dI) vwCl [(cI, .int)] t ∧ va_D (va_A (xW cI b (nI n) F T P V (fun j => nI (o j)) (fun j => nI (kr j)) Wt rc RB RE p1 p2 LA vs PL kn kl KN CH) sz) (xWu cI b u.1 u.2)) (va_A (xW cI b (nI n) F T P V (fun j => nI (o j)) (fun j => nI (kr j)) Wt rc RB RE p1 p2 LA vs PL kn kl KN CH) sz)) 0 0 (va_A (xW cI b (nI n) F T P V (fun j => nI (o j)) (fun j => nI (kr j)) Wt rc RB RE p1 p2 LA vs PL kn kl KN CH) sz) := by
  refine Met.ofW (cc := cX7_pair) (maxL := 5) (ret := (some .int)) (by decide) rfl ?_
  intro p e s m args below meth c s₁ B hml hv
  obtain ⟨rfl, hsz, hP, hK, hD0⟩ := hv
  have hx := B.exec
  have hb := B.bytes
  have hr := B.returns
  have hts := atoms_spec (ws := wsX7_pair) B.pre
  have hown : s.vm.findClass RX7 = some m.cls := findClass_of_methodNamed B.named
  have hlocks := B.notSynchronized
  subst hsz
  have hD := hD0.self (sz := s.heap.size)
  generalize hAe : va_A (xW cI b (nI n) F T P V (fun j => nI (o j)) (fun j => nI (kr j)) Wt rc RB RE p1 p2 LA vs PL kn kl KN CH) s.heap.size = A at hD ⊢
  have hA : ∀ q : Nat, s.heap.size ≤ q → A q := fun q h => by rw [← hAe]; exact Or.inr h
  have hS : va_S A s.heap s.heap [] := va_S.rf
  have i_X7 : ∀ w ∈ u_ws RX7 TX7 7, w ∈ wsX7_pair := by decide +kernel
  have i_X4 : ∀ w ∈ u_ws RX4 TX4 3, w ∈ wsX7_pair := by decide +kernel
  have k_0 := hts (.fieldLink RX7 40 "VoiceRows" "pairRows" "LVoiceRows$PairRows;") (by decide +kernel)
  have k_1 := hts (.fieldLink RX7 173 "VoiceRows$PairRows" "other" "I") (by decide +kernel)
  have k_2 := hts (.fieldLink RX7 170 "VoiceRows$PairRows" "one" "I") (by decide +kernel)
  have hl := lv_entry ([.ref (b 0), .int kd, .int i, .int wh]) (n := 5) (Nat.le_of_ble_eq_true rfl)
  rw [lg_entry_eq]
  generalize (lg_sl ([.ref (b 0), .int kd, .int i, .int wh]) ++ List.replicate (5 - (lg_sl ([.ref (b 0), .int kd, .int i, .int wh])).length) Slot.unset).toArray = ls at hl ⊢
  have hl : lv_has ls 5 [(0, .ref (b 0)), (1, .int kd), (2, .int i), (3, .int wh)] := hl
  refine lv_iload_n hx hb dX7_pair_0 rfl (lv_at hl 1 rfl) ?_
  refine lv_iconst (v := 0) hx hb dX7_pair_1 (by decide) ?_
  refine lv_iconst (v := 2) hx hb dX7_pair_2 (by decide) ?_
  refine vp_callSi (gk_run (va_runS (As := [.int kd, .int 0, .int 2]) (rest := []) ⟨hx, hb, hml, hown, hts⟩ (c_X7_within l kd 0 2) (gk_cwS 3 hts gX7_pair_X7_within rfl rfl rfl (by decide +kernel) ⟨Nat.le_of_ble_eq_true rfl, Nat.le_of_ble_eq_true rfl⟩) ⟨gk_fbT, fun U hU hW => ⟨rfl, trivial⟩⟩ rfl rfl hl.1 rfl (lv_room (Nat.le_of_ble_eq_true rfl)) dX7_pair_3 ⟨Nat.zero_le _, Nat.zero_le _⟩)) (fun r_1 er_1 => ?_)
  subst er_1
  refine lv_if_eq (tgt := 18) hx hb dX7_pair_6 (by decide) (fun c_2 => ?_) (fun c_2 => ?_)
  · skip
    have c_2 : (decide (0 ≤ kd) && decide (kd ≤ 2)) = false := b2i_0.mp c_2
    refine lv_bipush (v := (-2)) hx hb dX7_pair_18 (by decide) ?_
    exact W.iret (v := (-2)) hx hb hr (fun t ht hW => ⟨⟨_, ((n, F, T, P, V, Wt, o), (kr, rc, RB, RE, p1, p2, LA, vs, PL, kn, kl, KN, CH)), rfl, (by exact ⟨fun h => absurd h (by (simp only [decide_eq_true_eq, decide_eq_false_iff_not, Bool.and_eq_true, Bool.and_eq_false_iff, Bool.or_eq_true, Bool.or_eq_false_iff, Bool.not_eq_true, Bool.not_eq_false, ne_eq, not_and, not_or, tog_t, tog_f, ahd_t, ahd_f, isoB_t, isoB_f, ixB_t, ixB_f, vOK_t, vOK_f, wOK_t, wOK_f, tn4, Int32.lt_iff_toInt_lt, Int32.le_iff_toInt_le, ← Int32.toInt_inj, tI0, tI1, tI2, tI3, tI4, tI6, tI14, tI59, tI60, tI127, tI1000, tI100000, tIm1, tIm2, tIm3, tIm4, tIbig] at c_2 ⊢ <;> omega)), fun _ => rfl, p1, p2, rfl⟩), by rw [ht]; exact hP, va_K.moved hW.alike hK, hD⟩, hS.F ht⟩) hS.2.2 dX7_pair_20
  · skip
    have c_2 : (decide (0 ≤ kd) && decide (kd ≤ 2)) = true := b2i_1.mp c_2
    refine lv_iload_n hx hb dX7_pair_9 rfl (lv_at hl 3 rfl) ?_
    refine lv_iconst (v := 0) hx hb dX7_pair_10 (by decide) ?_
    refine lv_iconst (v := 1) hx hb dX7_pair_11 (by decide) ?_
    refine vp_callSi (gk_run (va_runS (As := [.int wh, .int 0, .int 1]) (rest := []) ⟨hx, hb, hml, hown, hts⟩ (c_X7_within l wh 0 1) (gk_cwS 3 hts gX7_pair_X7_within rfl rfl rfl (by decide +kernel) ⟨Nat.le_of_ble_eq_true rfl, Nat.le_of_ble_eq_true rfl⟩) ⟨gk_fbT, fun U hU hW => ⟨rfl, trivial⟩⟩ rfl rfl hl.1 rfl (lv_room (Nat.le_of_ble_eq_true rfl)) dX7_pair_12 ⟨Nat.zero_le _, Nat.zero_le _⟩)) (fun r_3 er_3 => ?_)
    subst er_3
    refine lv_if_ne (tgt := 21) hx hb dX7_pair_15 (by decide) (fun c_4 => ?_) (fun c_4 => ?_)
    · skip
      have c_4 : (decide (0 ≤ wh) && decide (wh ≤ 1)) = true := b2i_1.mp c_4
      refine lv_aload_n hx hb dX7_pair_21 rfl (lv_at hl 0 rfl) ?_
      refine va_get (D := (dC, dI)) (ci := 7) (v := .ref (b 12)) (C := RX7) (T := TX7) (N := 7) hx hb hts i_X7 hown hK hP 0 rfl rfl 3 (by decide) k_0 (fun _ h9 => h9) rfl dX7_pair_22 ?_
      refine lv_iload_n hx hb dX7_pair_25 rfl (lv_at hl 1 rfl) ?_
      refine lv_iload_n hx hb dX7_pair_26 rfl (lv_at hl 2 rfl) ?_
      have hPc := hP.sub (ws' := [(b 12, .inr (4, [.ref (b 1), .int p1, .int p2])), (b 1, .inr (6, [.int (nI n), .ref (b 2), .ref (b 3), .ref (b 4), .ref (b 5), .ref (b 6), .ref (b 7)])), (b 2, .inl (cI, 60, .inl F)), (b 3, .inl (cI, 60, .inl T)), (b 4, .inl (cI, 60, .inl P)), (b 5, .inl (cI, 60, .inl V)), (b 6, .inl (cI, 60, .inl (fun j => nI (o j)))), (b 7, .inl (cI, 60, .inl (fun j => nI (kr j))))]) [12, 1, 2, 3, 4, 5, 6, 7] rfl
      have hDc := hD.sub (ws' := [(b 12, .inr (4, [.ref (b 1), .int p1, .int p2])), (b 1, .inr (6, [.int (nI n), .ref (b 2), .ref (b 3), .ref (b 4), .ref (b 5), .ref (b 6), .ref (b 7)])), (b 2, .inl (cI, 60, .inl F)), (b 3, .inl (cI, 60, .inl T)), (b 4, .inl (cI, 60, .inl P)), (b 5, .inl (cI, 60, .inl V)), (b 6, .inl (cI, 60, .inl (fun j => nI (o j)))), (b 7, .inl (cI, 60, .inl (fun j => nI (kr j))))]) [12, 1, 2, 3, 4, 5, 6, 7] (by decide) rfl
      have hFc := va_free (wc := [(b 12, .inr (4, [.ref (b 1), .int p1, .int p2])), (b 1, .inr (6, [.int (nI n), .ref (b 2), .ref (b 3), .ref (b 4), .ref (b 5), .ref (b 6), .ref (b 7)])), (b 2, .inl (cI, 60, .inl F)), (b 3, .inl (cI, 60, .inl T)), (b 4, .inl (cI, 60, .inl P)), (b 5, .inl (cI, 60, .inl V)), (b 6, .inl (cI, 60, .inl (fun j => nI (o j)))), (b 7, .inl (cI, 60, .inl (fun j => nI (kr j))))]) hD hS hA [12, 1, 2, 3, 4, 5, 6, 7] rfl
      refine va_calli (va_runV (As := [.int kd, .int i]) (rest := []) ⟨hx, hb, hml, hown, hts⟩ (c_X4_scan l dC dI cI s.heap.size b n F T P V o kr hn ho p1 p2 kd i) (cwV 2 hts gX7_pair_X4_scan rfl rfl rfl (by decide +kernel) ⟨Nat.le_of_ble_eq_true rfl, Nat.le_of_ble_eq_true rfl⟩) ⟨gk_fbW, va_recv hK hPc (ci := 4) (q0 := 0) rfl rfl, fun U hU hW => ⟨rfl, by rw [hU], by rw [hU]; exact hPc, va_K.moved hW.alike hK, hDc.weaken (fun _ _ _ _ => trivial)⟩⟩ rfl rfl hl.1 rfl (lv_room (Nat.le_of_ble_eq_true rfl)) dX7_pair_27 ⟨Nat.zero_le _, Nat.zero_le _⟩) hS (fun q _ h => hFc q h) hFc (fun r_5 u t H1 locs ht hvm hw hB hz1 hk1 hS => ?_)
      obtain ⟨y1, y2⟩ := u
      obtain ⟨hP1, hK1, hD1⟩ := hB
      rw [ht] at hP1
      try dsimp only at hw
      obtain ⟨hP, hD⟩ := va_join (wr := [(b 0, .inr (7, [.ref (b 1), .ref (b 8), .ref (b 9), .ref (b 12), .ref (b 13), .ref (b 16), .ref (b 19)])), (b 8, .inl (cI, 4, .inl Wt)), (b 9, .inr (5, [.ref (b 1), .int rc, .ref (b 10), .ref (b 11)])), (b 10, .inl (cI, 61, .inl RB)), (b 11, .inl (cI, 61, .inl RE)), (b 13, .inr (0, [.ref (b 1), .ref (b 8), .ref (b 12)])), (b 14, .inr (3, [.ref (b 1), .ref (b 8), .ref (b 15)])), (b 15, .inl (cI, 4, .inl LA)), (b 16, .inr (1, [.ref (b 1), .ref (b 14), .ref (b 17), .int vs, .ref kn])), (b 17, .inl (cI, 4, .inl PL)), (kn, .inl (cI, kl, .inl KN)), (b 19, .inr (2, [.ref (b 1), .ref (b 14), .ref (b 20)])), (b 20, .inl (cI, 60, .inl CH))]) (w1 := [(b 12, .inr (4, [.ref (b 1), .int y1, .int y2])), (b 1, .inr (6, [.int (nI n), .ref (b 2), .ref (b 3), .ref (b 4), .ref (b 5), .ref (b 6), .ref (b 7)])), (b 2, .inl (cI, 60, .inl F)), (b 3, .inl (cI, 60, .inl T)), (b 4, .inl (cI, 60, .inl P)), (b 5, .inl (cI, 60, .inl V)), (b 6, .inl (cI, 60, .inl (fun j => nI (o j)))), (b 7, .inl (cI, 60, .inl (fun j => nI (kr j))))]) hP hD [12, 1, 2, 3, 4, 5, 6, 7] [0, 8, 9, 10, 11, 13, 14, 15, 16, 17, 18, 19, 20] rfl rfl (by decide) (by decide) hk1 hFc hP1 hD1
      generalize H1 = H at hP hS ⊢
      have hP := hP.sub (ws' := [(b 0, .inr (7, [.ref (b 1), .ref (b 8), .ref (b 9), .ref (b 12), .ref (b 13), .ref (b 16), .ref (b 19)])), (b 1, .inr (6, [.int (nI n), .ref (b 2), .ref (b 3), .ref (b 4), .ref (b 5), .ref (b 6), .ref (b 7)])), (b 2, .inl (cI, 60, .inl F)), (b 3, .inl (cI, 60, .inl T)), (b 4, .inl (cI, 60, .inl P)), (b 5, .inl (cI, 60, .inl V)), (b 6, .inl (cI, 60, .inl (fun j => nI (o j)))), (b 7, .inl (cI, 60, .inl (fun j => nI (kr j)))), (b 8, .inl (cI, 4, .inl Wt)), (b 9, .inr (5, [.ref (b 1), .int rc, .ref (b 10), .ref (b 11)])), (b 10, .inl (cI, 61, .inl RB)), (b 11, .inl (cI, 61, .inl RE)), (b 12, .inr (4, [.ref (b 1), .int y1, .int y2])), (b 13, .inr (0, [.ref (b 1), .ref (b 8), .ref (b 12)])), (b 14, .inr (3, [.ref (b 1), .ref (b 8), .ref (b 15)])), (b 15, .inl (cI, 4, .inl LA)), (b 16, .inr (1, [.ref (b 1), .ref (b 14), .ref (b 17), .int vs, .ref kn])), (b 17, .inl (cI, 4, .inl PL)), (kn, .inl (cI, kl, .inl KN)), (b 19, .inr (2, [.ref (b 1), .ref (b 14), .ref (b 20)])), (b 20, .inl (cI, 60, .inl CH))]) [0, 14, 15, 16, 17, 18, 19, 20, 1, 2, 3, 4, 13, 5, 6, 7, 8, 9, 10, 11, 12] rfl
      have hD := hD.sub (ws' := [(b 0, .inr (7, [.ref (b 1), .ref (b 8), .ref (b 9), .ref (b 12), .ref (b 13), .ref (b 16), .ref (b 19)])), (b 1, .inr (6, [.int (nI n), .ref (b 2), .ref (b 3), .ref (b 4), .ref (b 5), .ref (b 6), .ref (b 7)])), (b 2, .inl (cI, 60, .inl F)), (b 3, .inl (cI, 60, .inl T)), (b 4, .inl (cI, 60, .inl P)), (b 5, .inl (cI, 60, .inl V)), (b 6, .inl (cI, 60, .inl (fun j => nI (o j)))), (b 7, .inl (cI, 60, .inl (fun j => nI (kr j)))), (b 8, .inl (cI, 4, .inl Wt)), (b 9, .inr (5, [.ref (b 1), .int rc, .ref (b 10), .ref (b 11)])), (b 10, .inl (cI, 61, .inl RB)), (b 11, .inl (cI, 61, .inl RE)), (b 12, .inr (4, [.ref (b 1), .int y1, .int y2])), (b 13, .inr (0, [.ref (b 1), .ref (b 8), .ref (b 12)])), (b 14, .inr (3, [.ref (b 1), .ref (b 8), .ref (b 15)])), (b 15, .inl (cI, 4, .inl LA)), (b 16, .inr (1, [.ref (b 1), .ref (b 14), .ref (b 17), .int vs, .ref kn])), (b 17, .inl (cI, 4, .inl PL)), (kn, .inl (cI, kl, .inl KN)), (b 19, .inr (2, [.ref (b 1), .ref (b 14), .ref (b 20)])), (b 20, .inl (cI, 60, .inl CH))]) [0, 14, 15, 16, 17, 18, 19, 20, 1, 2, 3, 4, 13, 5, 6, 7, 8, 9, 10, 11, 12] (by decide) rfl
      have hP : va_P (dC, dI) vwCl [(b 0, .inr (7, [.ref (b 1), .ref (b 8), .ref (b 9), .ref (b 12), .ref (b 13), .ref (b 16), .ref (b 19)])), (b 1, .inr (6, [.int (nI n), .ref (b 2), .ref (b 3), .ref (b 4), .ref (b 5), .ref (b 6), .ref (b 7)])), (b 2, .inl (cI, 60, .inl F)), (b 3, .inl (cI, 60, .inl T)), (b 4, .inl (cI, 60, .inl P)), (b 5, .inl (cI, 60, .inl V)), (b 6, .inl (cI, 60, .inl (fun j => nI (o j)))), (b 7, .inl (cI, 60, .inl (fun j => nI (kr j)))), (b 8, .inl (cI, 4, .inl Wt)), (b 9, .inr (5, [.ref (b 1), .int rc, .ref (b 10), .ref (b 11)])), (b 10, .inl (cI, 61, .inl RB)), (b 11, .inl (cI, 61, .inl RE)), (b 12, .inr (4, [.ref (b 1), .int y1, .int y2])), (b 13, .inr (0, [.ref (b 1), .ref (b 8), .ref (b 12)])), (b 14, .inr (3, [.ref (b 1), .ref (b 8), .ref (b 15)])), (b 15, .inl (cI, 4, .inl LA)), (b 16, .inr (1, [.ref (b 1), .ref (b 14), .ref (b 17), .int vs, .ref kn])), (b 17, .inl (cI, 4, .inl PL)), (kn, .inl (cI, kl, .inl KN)), (b 19, .inr (2, [.ref (b 1), .ref (b 14), .ref (b 20)])), (b 20, .inl (cI, 60, .inl CH))] H := hP
      have hD : va_D A [(b 0, .inr (7, [.ref (b 1), .ref (b 8), .ref (b 9), .ref (b 12), .ref (b 13), .ref (b 16), .ref (b 19)])), (b 1, .inr (6, [.int (nI n), .ref (b 2), .ref (b 3), .ref (b 4), .ref (b 5), .ref (b 6), .ref (b 7)])), (b 2, .inl (cI, 60, .inl F)), (b 3, .inl (cI, 60, .inl T)), (b 4, .inl (cI, 60, .inl P)), (b 5, .inl (cI, 60, .inl V)), (b 6, .inl (cI, 60, .inl (fun j => nI (o j)))), (b 7, .inl (cI, 60, .inl (fun j => nI (kr j)))), (b 8, .inl (cI, 4, .inl Wt)), (b 9, .inr (5, [.ref (b 1), .int rc, .ref (b 10), .ref (b 11)])), (b 10, .inl (cI, 61, .inl RB)), (b 11, .inl (cI, 61, .inl RE)), (b 12, .inr (4, [.ref (b 1), .int y1, .int y2])), (b 13, .inr (0, [.ref (b 1), .ref (b 8), .ref (b 12)])), (b 14, .inr (3, [.ref (b 1), .ref (b 8), .ref (b 15)])), (b 15, .inl (cI, 4, .inl LA)), (b 16, .inr (1, [.ref (b 1), .ref (b 14), .ref (b 17), .int vs, .ref kn])), (b 17, .inl (cI, 4, .inl PL)), (kn, .inl (cI, kl, .inl KN)), (b 19, .inr (2, [.ref (b 1), .ref (b 14), .ref (b 20)])), (b 20, .inl (cI, 60, .inl CH))] := hD
      obtain ⟨w1, w2⟩ := hw
      subst w1
      refine lv_istore (lv' := [(4, .int (nI (totc (qC F T P V o kd) n n))), (0, .ref (b 0)), (1, .int kd), (2, .int i), (3, .int wh)]) hx hb dX7_pair_30 hl (by decide) rfl (fun ls hl => ?_)
      refine lv_iload_n hx hb dX7_pair_32 rfl (lv_at hl 3 rfl) ?_
      refine lv_iconst (v := 0) hx hb dX7_pair_33 (by decide) ?_
      refine lv_iload hx hb dX7_pair_34 (lv_at hl 0 rfl) ?_
      refine lv_iconst (v := 1) hx hb dX7_pair_36 (by decide) ?_
      refine lv_isub hx hb dX7_pair_37 ?_
      refine vp_callSi (gk_run (va_runS (As := [.int i, .int 0, .int ((nI (totc (qC F T P V o kd) n n)) - 1)]) (rest := []) ⟨hx, hb, hml, hown, hts⟩ (c_X7_within l i 0 (nI (totc (qC F T P V o kd) n n) - 1)) (gk_cwS 3 hts gX7_pair_X7_within rfl rfl rfl (by decide +kernel) ⟨Nat.le_of_ble_eq_true rfl, Nat.le_of_ble_eq_true rfl⟩) ⟨gk_fbT, fun U hU hW => ⟨rfl, trivial⟩⟩ rfl rfl hl.1 rfl (lv_room (Nat.le_of_ble_eq_true rfl)) dX7_pair_38 ⟨Nat.zero_le _, Nat.zero_le _⟩)) (fun r_6 er_6 => ?_)
      subst er_6
      refine gk_top (y := b2i (ixB i (totc (qC F T P V o kd) n n))) (has_b (by have := totc_b (q := (qC F T P V o kd)) hn (Nat.le_refl n); omega)) ?_
      refine lv_if_ne (tgt := 47) hx hb dX7_pair_41 (by decide) (fun c_7 => ?_) (fun c_7 => ?_)
      · skip
        have c_7 : (ixB i (totc (qC F T P V o kd) n n)) = true := b2i_1.mp c_7
        have hge := (ixB_t.mp c_7).1
        refine lv_iload_n hx hb dX7_pair_47 rfl (lv_at hl 4 rfl) ?_
        refine lv_if_ne (tgt := 61) hx hb dX7_pair_48 (by decide) (fun c_8 => ?_) (fun c_8 => ?_)
        · skip
          refine lv_aload_n hx hb dX7_pair_61 rfl (lv_at hl 1 rfl) ?_
          refine va_get (D := (dC, dI)) (ci := 7) (v := .ref (b 12)) (C := RX7) (T := TX7) (N := 7) hx hb hts i_X7 hown hK hP 0 rfl rfl 3 (by decide) k_0 (fun _ h9 => h9) rfl dX7_pair_62 ?_
          refine va_get (D := (dC, dI)) (ci := 4) (v := .int y2) (C := RX4) (T := TX4) (N := 3) hx hb hts i_X4 hown hK hP 12 rfl rfl 2 (by decide) k_1 (fun _ h9 => h9) rfl dX7_pair_65 ?_
          exact W.iret (v := y2) hx hb hr (fun t ht hW => ⟨⟨_, ((n, F, T, P, V, Wt, o), (kr, rc, RB, RE, y1, y2, LA, vs, PL, kn, kl, KN, CH)), rfl, (by exact ⟨fun h => pOK_C hn w2 (by assumption) (by first | exact ite_t (by assumption) rfl | exact ite_f (by assumption) rfl), fun h => absurd (show (0 ≤ kd ∧ kd ≤ 2 ∧ 0 ≤ i ∧ 0 ≤ wh ∧ wh ≤ 1) by (simp only [decide_eq_true_eq, decide_eq_false_iff_not, Bool.and_eq_true, Bool.and_eq_false_iff, Bool.or_eq_true, Bool.or_eq_false_iff, Bool.not_eq_true, Bool.not_eq_false, ne_eq, not_and, not_or, tog_t, tog_f, ahd_t, ahd_f, isoB_t, isoB_f, ixB_t, ixB_f, vOK_t, vOK_f, wOK_t, wOK_f, tn4, Int32.lt_iff_toInt_lt, Int32.le_iff_toInt_le, ← Int32.toInt_inj, tI0, tI1, tI2, tI3, tI4, tI6, tI14, tI59, tI60, tI127, tI1000, tI100000, tIm1, tIm2, tIm3, tIm4, tIbig] at c_2 c_4 c_7 c_8 hge ⊢ <;> omega)) h, y1, y2, rfl⟩), by rw [ht]; exact hP, va_K.moved hW.alike hK, hD⟩, hS.F ht⟩) hS.2.2 dX7_pair_68
        · skip
          refine lv_aload_n hx hb dX7_pair_51 rfl (lv_at hl 1 rfl) ?_
          refine va_get (D := (dC, dI)) (ci := 7) (v := .ref (b 12)) (C := RX7) (T := TX7) (N := 7) hx hb hts i_X7 hown hK hP 0 rfl rfl 3 (by decide) k_0 (fun _ h9 => h9) rfl dX7_pair_52 ?_
          refine va_get (D := (dC, dI)) (ci := 4) (v := .int y1) (C := RX4) (T := TX4) (N := 3) hx hb hts i_X4 hown hK hP 12 rfl rfl 1 (by decide) k_2 (fun _ h9 => h9) rfl dX7_pair_55 ?_
          refine lv_goto (tgt := 68) hx hb dX7_pair_58 (by decide) ?_
          exact W.iret (v := y1) hx hb hr (fun t ht hW => ⟨⟨_, ((n, F, T, P, V, Wt, o), (kr, rc, RB, RE, y1, y2, LA, vs, PL, kn, kl, KN, CH)), rfl, (by exact ⟨fun h => pOK_C hn w2 (by assumption) (by first | exact ite_t (by assumption) rfl | exact ite_f (by assumption) rfl), fun h => absurd (show (0 ≤ kd ∧ kd ≤ 2 ∧ 0 ≤ i ∧ 0 ≤ wh ∧ wh ≤ 1) by (simp only [decide_eq_true_eq, decide_eq_false_iff_not, Bool.and_eq_true, Bool.and_eq_false_iff, Bool.or_eq_true, Bool.or_eq_false_iff, Bool.not_eq_true, Bool.not_eq_false, ne_eq, not_and, not_or, tog_t, tog_f, ahd_t, ahd_f, isoB_t, isoB_f, ixB_t, ixB_f, vOK_t, vOK_f, wOK_t, wOK_f, tn4, Int32.lt_iff_toInt_lt, Int32.le_iff_toInt_le, ← Int32.toInt_inj, tI0, tI1, tI2, tI3, tI4, tI6, tI14, tI59, tI60, tI127, tI1000, tI100000, tIm1, tIm2, tIm3, tIm4, tIbig] at c_2 c_4 c_7 c_8 hge ⊢ <;> omega)) h, y1, y2, rfl⟩), by rw [ht]; exact hP, va_K.moved hW.alike hK, hD⟩, hS.F ht⟩) hS.2.2 dX7_pair_68
      · skip
        have c_7 : (ixB i (totc (qC F T P V o kd) n n)) = false := b2i_0.mp c_7
        refine lv_bipush (v := (-2)) hx hb dX7_pair_44 (by decide) ?_
        exact W.iret (v := (-2)) hx hb hr (fun t ht hW => ⟨⟨_, ((n, F, T, P, V, Wt, o), (kr, rc, RB, RE, y1, y2, LA, vs, PL, kn, kl, KN, CH)), rfl, (by exact ⟨fun h => pOK_R hn h.2.2.1 (by assumption), fun _ => rfl, y1, y2, rfl⟩), by rw [ht]; exact hP, va_K.moved hW.alike hK, hD⟩, hS.F ht⟩) hS.2.2 dX7_pair_46
    · skip
      have c_4 : (decide (0 ≤ wh) && decide (wh ≤ 1)) = false := b2i_0.mp c_4
      refine lv_bipush (v := (-2)) hx hb dX7_pair_18 (by decide) ?_
      exact W.iret (v := (-2)) hx hb hr (fun t ht hW => ⟨⟨_, ((n, F, T, P, V, Wt, o), (kr, rc, RB, RE, p1, p2, LA, vs, PL, kn, kl, KN, CH)), rfl, (by exact ⟨fun h => absurd h (by (simp only [decide_eq_true_eq, decide_eq_false_iff_not, Bool.and_eq_true, Bool.and_eq_false_iff, Bool.or_eq_true, Bool.or_eq_false_iff, Bool.not_eq_true, Bool.not_eq_false, ne_eq, not_and, not_or, tog_t, tog_f, ahd_t, ahd_f, isoB_t, isoB_f, ixB_t, ixB_f, vOK_t, vOK_f, wOK_t, wOK_f, tn4, Int32.lt_iff_toInt_lt, Int32.le_iff_toInt_le, ← Int32.toInt_inj, tI0, tI1, tI2, tI3, tI4, tI6, tI14, tI59, tI60, tI127, tI1000, tI100000, tIm1, tIm2, tIm3, tIm4, tIbig] at c_2 c_4 ⊢ <;> omega)), fun _ => rfl, p1, p2, rfl⟩), by rw [ht]; exact hP, va_K.moved hW.alike hK, hD⟩, hS.F ht⟩) hS.2.2 dX7_pair_20

set_option maxHeartbeats 1000000 in
set_option maxRecDepth 100000 in
theorem c_X7_cost (l : Launch) (dC : Nat → ClassId) (dI : Nat → Nat → Nat) (cI : ClassId) (sz : Nat) (b : Nat → Nat) (n : Nat) (F T P V : Nat → Int32) (o kr : Nat → Nat) (Wt : Nat → Int32) (rc : Int32) (RB RE : Nat → Int32) (p1 p2 : Int32) (LA : Nat → Int32) (vs : Int32) (PL : Nat → Int32) (kn kl : Nat) (KN CH : Nat → Int32) (hn : n ≤ 60) (ho : ∀ j, o j < 60) (hkr : ∀ j, j < n → kr j < n) (kd : Int32) : Met l yX7_cost wsX7_cost ({ frames := 5, cells := 0, slots := 0, locals := 111 } : Room) (va_Pc [.ref (b 0), .int kd] (fun U => U.heap.size = sz ∧ va_P (dC, dI) vwCl (xW cI b (nI n) F T P V (fun j => nI (o j)) (fun j => nI (kr j)) Wt rc RB RE p1 p2 LA vs PL kn kl KN CH) U.heap ∧ va_K (dC, dI) vwCl [(cI, .int)] U ∧ va_D (fun _ => True) (xW cI b (nI n) F T P V (fun j => nI (o j)) (fun j => nI (kr j)) Wt rc RB RE p1 p2 LA vs PL kn kl KN CH))) (va_Qi (fun (r : Int32) (u : SS × XJ) => r = (if 0 ≤ kd ∧ kd ≤ 4 then (if whC F T V o kr n = true then prt (lpC P V Wt o kr n) (gpC F T V Wt o kr n) (nI (totc (qC F T P V o 0) n n) * Wt 2) (nI (usN V n) * Wt 3) kd else -3) else -2) ∧ ∃ y1 y2, u = ((n, F, T, P, V, Wt, o), (kr, rc, RB, RE, y1, y2, LA, vs, PL, kn, kl, KN, CH))) (fun u t => va_P (dC, dI) vwCl (xWu cI b u.1 u.2) t.heap ∧ va_K (dC, dI) vwCl [(cI, .int)] t ∧ va_D (va_A (xW cI b (nI n) F T P V (fun j => nI (o j)) (fun j => nI (kr j)) Wt rc RB RE p1 p2 LA vs PL kn kl KN CH) sz) (xWu cI b u.1 u.2)) (va_A (xW cI b (nI n) F T P V (fun j => nI (o j)) (fun j => nI (kr j)) Wt rc RB RE p1 p2 LA vs PL kn kl KN CH) sz)) 0 0 (va_A (xW cI b (nI n) F T P V (fun j => nI (o j)) (fun j => nI (kr j)) Wt rc RB RE p1 p2 LA vs PL kn kl KN CH) sz) := by
  refine Met.ofW (cc := cX7_cost) (maxL := 2) (ret := (some .int)) (by decide) rfl ?_
  intro p e s m args below meth c s₁ B hml hv
  obtain ⟨rfl, hsz, hP, hK, hD0⟩ := hv
  have hx := B.exec
  have hb := B.bytes
  have hr := B.returns
  have hts := atoms_spec (ws := wsX7_cost) B.pre
  have hown : s.vm.findClass RX7 = some m.cls := findClass_of_methodNamed B.named
  have hlocks := B.notSynchronized
  subst hsz
  have hD := hD0.self (sz := s.heap.size)
  generalize hAe : va_A (xW cI b (nI n) F T P V (fun j => nI (o j)) (fun j => nI (kr j)) Wt rc RB RE p1 p2 LA vs PL kn kl KN CH) s.heap.size = A at hD ⊢
  have hA : ∀ q : Nat, s.heap.size ≤ q → A q := fun q h => by rw [← hAe]; exact Or.inr h
  have hS : va_S A s.heap s.heap [] := va_S.rf
  have i_X7 : ∀ w ∈ u_ws RX7 TX7 7, w ∈ wsX7_cost := by decide +kernel
  have k_0 := hts (.fieldLink RX7 10 "VoiceRows" "score" "LVoiceRows$Score;") (by decide +kernel)
  have k_1 := hts (.fieldLink RX7 49 "VoiceRows" "bill" "LVoiceRows$Bill;") (by decide +kernel)
  have hl := lv_entry ([.ref (b 0), .int kd]) (n := 2) (Nat.le_of_ble_eq_true rfl)
  rw [lg_entry_eq]
  generalize (lg_sl ([.ref (b 0), .int kd]) ++ List.replicate (2 - (lg_sl ([.ref (b 0), .int kd])).length) Slot.unset).toArray = ls at hl ⊢
  have hl : lv_has ls 2 [(0, .ref (b 0)), (1, .int kd)] := hl
  refine lv_iload_n hx hb dX7_cost_0 rfl (lv_at hl 1 rfl) ?_
  refine lv_iconst (v := 0) hx hb dX7_cost_1 (by decide) ?_
  refine lv_iconst (v := 4) hx hb dX7_cost_2 (by decide) ?_
  refine vp_callSi (gk_run (va_runS (As := [.int kd, .int 0, .int 4]) (rest := []) ⟨hx, hb, hml, hown, hts⟩ (c_X7_within l kd 0 4) (gk_cwS 3 hts gX7_cost_X7_within rfl rfl rfl (by decide +kernel) ⟨Nat.le_of_ble_eq_true rfl, Nat.le_of_ble_eq_true rfl⟩) ⟨gk_fbT, fun U hU hW => ⟨rfl, trivial⟩⟩ rfl rfl hl.1 rfl (lv_room (Nat.le_of_ble_eq_true rfl)) dX7_cost_3 ⟨Nat.zero_le _, Nat.zero_le _⟩)) (fun r_1 er_1 => ?_)
  subst er_1
  refine lv_if_ne (tgt := 12) hx hb dX7_cost_6 (by decide) (fun c_2 => ?_) (fun c_2 => ?_)
  · skip
    have c_2 : (decide (0 ≤ kd) && decide (kd ≤ 4)) = true := b2i_1.mp c_2
    refine lv_aload_n hx hb dX7_cost_12 rfl (lv_at hl 0 rfl) ?_
    refine va_get (D := (dC, dI)) (ci := 7) (v := .ref (b 1)) (C := RX7) (T := TX7) (N := 7) hx hb hts i_X7 hown hK hP 0 rfl rfl 0 (by decide) k_0 (fun _ h9 => h9) rfl dX7_cost_13 ?_
    have hPc_3 := hP.sub (ws' := (sW cI b (nI n) F T P V (fun j => nI (o j)) (fun j => nI (kr j)))) [1, 2, 3, 4, 5, 6, 7] rfl
    refine vp_callSi (gk_run (va_runV (As := []) (rest := []) ⟨hx, hb, hml, hown, hts⟩ (c_X6_isWhole l dC dI cI b n F T P V o kr hn ho hkr) (cwV 0 hts gX7_cost_X6_isWhole rfl rfl rfl (by decide +kernel) ⟨Nat.le_of_ble_eq_true rfl, Nat.le_of_ble_eq_true rfl⟩) ⟨gk_fb, va_recv hK hPc_3 (ci := 6) (q0 := 0) rfl rfl, fun U hU hW => ⟨rfl, by rw [hU]; exact hPc_3, va_K.moved hW.alike hK⟩⟩ rfl rfl hl.1 rfl (lv_room (Nat.le_of_ble_eq_true rfl)) dX7_cost_16 ⟨Nat.zero_le _, Nat.zero_le _⟩)) (fun r_4 er_4 => ?_)
    subst er_4
    refine lv_if_eq (tgt := 33) hx hb dX7_cost_19 (by decide) (fun c_5 => ?_) (fun c_5 => ?_)
    · skip
      have c_5 : (whC F T V o kr n) = false := b2i_0.mp c_5
      refine lv_bipush (v := (-3)) hx hb dX7_cost_33 (by decide) ?_
      exact W.iret (v := (-3)) hx hb hr (fun t ht hW => ⟨⟨_, ((n, F, T, P, V, Wt, o), (kr, rc, RB, RE, p1, p2, LA, vs, PL, kn, kl, KN, CH)), rfl, (by exact ⟨ite_t (by (simp only [decide_eq_true_eq, decide_eq_false_iff_not, Bool.and_eq_true, Bool.and_eq_false_iff, Bool.or_eq_true, Bool.or_eq_false_iff, Bool.not_eq_true, Bool.not_eq_false, ne_eq, not_and, not_or, tog_t, tog_f, ahd_t, ahd_f, isoB_t, isoB_f, ixB_t, ixB_f, vOK_t, vOK_f, wOK_t, wOK_f, tn4, Int32.lt_iff_toInt_lt, Int32.le_iff_toInt_le, ← Int32.toInt_inj, tI0, tI1, tI2, tI3, tI4, tI6, tI14, tI59, tI60, tI127, tI1000, tI100000, tIm1, tIm2, tIm3, tIm4, tIbig] at c_2 c_5 ⊢ <;> omega)) (ite_f (by simp [*]) rfl), p1, p2, rfl⟩), by rw [ht]; exact hP, va_K.moved hW.alike hK, hD⟩, hS.F ht⟩) hS.2.2 dX7_cost_35
    · skip
      have c_5 : (whC F T V o kr n) = true := b2i_1.mp c_5
      refine lv_aload_n hx hb dX7_cost_22 rfl (lv_at hl 0 rfl) ?_
      refine va_get (D := (dC, dI)) (ci := 7) (v := .ref (b 13)) (C := RX7) (T := TX7) (N := 7) hx hb hts i_X7 hown hK hP 0 rfl rfl 4 (by decide) k_1 (fun _ h9 => h9) rfl dX7_cost_23 ?_
      refine lv_iload_n hx hb dX7_cost_26 rfl (lv_at hl 1 rfl) ?_
      have hPc := hP.sub (ws' := [(b 13, .inr (0, [.ref (b 1), .ref (b 8), .ref (b 12)])), (b 8, .inl (cI, 4, .inl Wt)), (b 12, .inr (4, [.ref (b 1), .int p1, .int p2])), (b 1, .inr (6, [.int (nI n), .ref (b 2), .ref (b 3), .ref (b 4), .ref (b 5), .ref (b 6), .ref (b 7)])), (b 2, .inl (cI, 60, .inl F)), (b 3, .inl (cI, 60, .inl T)), (b 4, .inl (cI, 60, .inl P)), (b 5, .inl (cI, 60, .inl V)), (b 6, .inl (cI, 60, .inl (fun j => nI (o j)))), (b 7, .inl (cI, 60, .inl (fun j => nI (kr j))))]) [13, 8, 12, 1, 2, 3, 4, 5, 6, 7] rfl
      have hDc := hD.sub (ws' := [(b 13, .inr (0, [.ref (b 1), .ref (b 8), .ref (b 12)])), (b 8, .inl (cI, 4, .inl Wt)), (b 12, .inr (4, [.ref (b 1), .int p1, .int p2])), (b 1, .inr (6, [.int (nI n), .ref (b 2), .ref (b 3), .ref (b 4), .ref (b 5), .ref (b 6), .ref (b 7)])), (b 2, .inl (cI, 60, .inl F)), (b 3, .inl (cI, 60, .inl T)), (b 4, .inl (cI, 60, .inl P)), (b 5, .inl (cI, 60, .inl V)), (b 6, .inl (cI, 60, .inl (fun j => nI (o j)))), (b 7, .inl (cI, 60, .inl (fun j => nI (kr j))))]) [13, 8, 12, 1, 2, 3, 4, 5, 6, 7] (by decide) rfl
      have hFc := va_free (wc := [(b 13, .inr (0, [.ref (b 1), .ref (b 8), .ref (b 12)])), (b 8, .inl (cI, 4, .inl Wt)), (b 12, .inr (4, [.ref (b 1), .int p1, .int p2])), (b 1, .inr (6, [.int (nI n), .ref (b 2), .ref (b 3), .ref (b 4), .ref (b 5), .ref (b 6), .ref (b 7)])), (b 2, .inl (cI, 60, .inl F)), (b 3, .inl (cI, 60, .inl T)), (b 4, .inl (cI, 60, .inl P)), (b 5, .inl (cI, 60, .inl V)), (b 6, .inl (cI, 60, .inl (fun j => nI (o j)))), (b 7, .inl (cI, 60, .inl (fun j => nI (kr j))))]) hD hS hA [13, 8, 12, 1, 2, 3, 4, 5, 6, 7] rfl
      refine va_calli (va_runV (As := [.int kd]) (rest := []) ⟨hx, hb, hml, hown, hts⟩ (c_X0_part l dC dI cI s.heap.size b n F T P V o kr hn ho Wt p1 p2 hkr kd) (cwV 1 hts gX7_cost_X0_part rfl rfl rfl (by decide +kernel) ⟨Nat.le_of_ble_eq_true rfl, Nat.le_of_ble_eq_true rfl⟩) ⟨gk_fbW, va_recv hK hPc (ci := 0) (q0 := 0) rfl rfl, fun U hU hW => ⟨rfl, by rw [hU], by rw [hU]; exact hPc, va_K.moved hW.alike hK, hDc.weaken (fun _ _ _ _ => trivial)⟩⟩ rfl rfl hl.1 rfl (lv_room (Nat.le_of_ble_eq_true rfl)) dX7_cost_27 ⟨Nat.zero_le _, Nat.zero_le _⟩) hS (fun q _ h => hFc q h) hFc (fun r_6 u t H1 locs ht hvm hw hB hz1 hk1 hS => ?_)
      obtain ⟨y1, y2⟩ := u
      obtain ⟨hP1, hK1, hD1⟩ := hB
      rw [ht] at hP1
      try dsimp only at hw
      obtain ⟨hP, hD⟩ := va_join (wr := [(b 0, .inr (7, [.ref (b 1), .ref (b 8), .ref (b 9), .ref (b 12), .ref (b 13), .ref (b 16), .ref (b 19)])), (b 9, .inr (5, [.ref (b 1), .int rc, .ref (b 10), .ref (b 11)])), (b 10, .inl (cI, 61, .inl RB)), (b 11, .inl (cI, 61, .inl RE)), (b 14, .inr (3, [.ref (b 1), .ref (b 8), .ref (b 15)])), (b 15, .inl (cI, 4, .inl LA)), (b 16, .inr (1, [.ref (b 1), .ref (b 14), .ref (b 17), .int vs, .ref kn])), (b 17, .inl (cI, 4, .inl PL)), (kn, .inl (cI, kl, .inl KN)), (b 19, .inr (2, [.ref (b 1), .ref (b 14), .ref (b 20)])), (b 20, .inl (cI, 60, .inl CH))]) (w1 := [(b 13, .inr (0, [.ref (b 1), .ref (b 8), .ref (b 12)])), (b 8, .inl (cI, 4, .inl Wt)), (b 12, .inr (4, [.ref (b 1), .int y1, .int y2])), (b 1, .inr (6, [.int (nI n), .ref (b 2), .ref (b 3), .ref (b 4), .ref (b 5), .ref (b 6), .ref (b 7)])), (b 2, .inl (cI, 60, .inl F)), (b 3, .inl (cI, 60, .inl T)), (b 4, .inl (cI, 60, .inl P)), (b 5, .inl (cI, 60, .inl V)), (b 6, .inl (cI, 60, .inl (fun j => nI (o j)))), (b 7, .inl (cI, 60, .inl (fun j => nI (kr j))))]) hP hD [13, 8, 12, 1, 2, 3, 4, 5, 6, 7] [0, 9, 10, 11, 14, 15, 16, 17, 18, 19, 20] rfl rfl (by decide) (by decide) hk1 hFc hP1 hD1
      generalize H1 = H at hP hS ⊢
      have hP := hP.sub (ws' := [(b 0, .inr (7, [.ref (b 1), .ref (b 8), .ref (b 9), .ref (b 12), .ref (b 13), .ref (b 16), .ref (b 19)])), (b 1, .inr (6, [.int (nI n), .ref (b 2), .ref (b 3), .ref (b 4), .ref (b 5), .ref (b 6), .ref (b 7)])), (b 2, .inl (cI, 60, .inl F)), (b 3, .inl (cI, 60, .inl T)), (b 4, .inl (cI, 60, .inl P)), (b 5, .inl (cI, 60, .inl V)), (b 6, .inl (cI, 60, .inl (fun j => nI (o j)))), (b 7, .inl (cI, 60, .inl (fun j => nI (kr j)))), (b 8, .inl (cI, 4, .inl Wt)), (b 9, .inr (5, [.ref (b 1), .int rc, .ref (b 10), .ref (b 11)])), (b 10, .inl (cI, 61, .inl RB)), (b 11, .inl (cI, 61, .inl RE)), (b 12, .inr (4, [.ref (b 1), .int y1, .int y2])), (b 13, .inr (0, [.ref (b 1), .ref (b 8), .ref (b 12)])), (b 14, .inr (3, [.ref (b 1), .ref (b 8), .ref (b 15)])), (b 15, .inl (cI, 4, .inl LA)), (b 16, .inr (1, [.ref (b 1), .ref (b 14), .ref (b 17), .int vs, .ref kn])), (b 17, .inl (cI, 4, .inl PL)), (kn, .inl (cI, kl, .inl KN)), (b 19, .inr (2, [.ref (b 1), .ref (b 14), .ref (b 20)])), (b 20, .inl (cI, 60, .inl CH))]) [0, 14, 15, 16, 17, 18, 19, 20, 12, 1, 2, 3, 13, 11, 4, 5, 6, 7, 8, 9, 10] rfl
      have hD := hD.sub (ws' := [(b 0, .inr (7, [.ref (b 1), .ref (b 8), .ref (b 9), .ref (b 12), .ref (b 13), .ref (b 16), .ref (b 19)])), (b 1, .inr (6, [.int (nI n), .ref (b 2), .ref (b 3), .ref (b 4), .ref (b 5), .ref (b 6), .ref (b 7)])), (b 2, .inl (cI, 60, .inl F)), (b 3, .inl (cI, 60, .inl T)), (b 4, .inl (cI, 60, .inl P)), (b 5, .inl (cI, 60, .inl V)), (b 6, .inl (cI, 60, .inl (fun j => nI (o j)))), (b 7, .inl (cI, 60, .inl (fun j => nI (kr j)))), (b 8, .inl (cI, 4, .inl Wt)), (b 9, .inr (5, [.ref (b 1), .int rc, .ref (b 10), .ref (b 11)])), (b 10, .inl (cI, 61, .inl RB)), (b 11, .inl (cI, 61, .inl RE)), (b 12, .inr (4, [.ref (b 1), .int y1, .int y2])), (b 13, .inr (0, [.ref (b 1), .ref (b 8), .ref (b 12)])), (b 14, .inr (3, [.ref (b 1), .ref (b 8), .ref (b 15)])), (b 15, .inl (cI, 4, .inl LA)), (b 16, .inr (1, [.ref (b 1), .ref (b 14), .ref (b 17), .int vs, .ref kn])), (b 17, .inl (cI, 4, .inl PL)), (kn, .inl (cI, kl, .inl KN)), (b 19, .inr (2, [.ref (b 1), .ref (b 14), .ref (b 20)])), (b 20, .inl (cI, 60, .inl CH))]) [0, 14, 15, 16, 17, 18, 19, 20, 12, 1, 2, 3, 13, 11, 4, 5, 6, 7, 8, 9, 10] (by decide) rfl
      have hP : va_P (dC, dI) vwCl [(b 0, .inr (7, [.ref (b 1), .ref (b 8), .ref (b 9), .ref (b 12), .ref (b 13), .ref (b 16), .ref (b 19)])), (b 1, .inr (6, [.int (nI n), .ref (b 2), .ref (b 3), .ref (b 4), .ref (b 5), .ref (b 6), .ref (b 7)])), (b 2, .inl (cI, 60, .inl F)), (b 3, .inl (cI, 60, .inl T)), (b 4, .inl (cI, 60, .inl P)), (b 5, .inl (cI, 60, .inl V)), (b 6, .inl (cI, 60, .inl (fun j => nI (o j)))), (b 7, .inl (cI, 60, .inl (fun j => nI (kr j)))), (b 8, .inl (cI, 4, .inl Wt)), (b 9, .inr (5, [.ref (b 1), .int rc, .ref (b 10), .ref (b 11)])), (b 10, .inl (cI, 61, .inl RB)), (b 11, .inl (cI, 61, .inl RE)), (b 12, .inr (4, [.ref (b 1), .int y1, .int y2])), (b 13, .inr (0, [.ref (b 1), .ref (b 8), .ref (b 12)])), (b 14, .inr (3, [.ref (b 1), .ref (b 8), .ref (b 15)])), (b 15, .inl (cI, 4, .inl LA)), (b 16, .inr (1, [.ref (b 1), .ref (b 14), .ref (b 17), .int vs, .ref kn])), (b 17, .inl (cI, 4, .inl PL)), (kn, .inl (cI, kl, .inl KN)), (b 19, .inr (2, [.ref (b 1), .ref (b 14), .ref (b 20)])), (b 20, .inl (cI, 60, .inl CH))] H := hP
      have hD : va_D A [(b 0, .inr (7, [.ref (b 1), .ref (b 8), .ref (b 9), .ref (b 12), .ref (b 13), .ref (b 16), .ref (b 19)])), (b 1, .inr (6, [.int (nI n), .ref (b 2), .ref (b 3), .ref (b 4), .ref (b 5), .ref (b 6), .ref (b 7)])), (b 2, .inl (cI, 60, .inl F)), (b 3, .inl (cI, 60, .inl T)), (b 4, .inl (cI, 60, .inl P)), (b 5, .inl (cI, 60, .inl V)), (b 6, .inl (cI, 60, .inl (fun j => nI (o j)))), (b 7, .inl (cI, 60, .inl (fun j => nI (kr j)))), (b 8, .inl (cI, 4, .inl Wt)), (b 9, .inr (5, [.ref (b 1), .int rc, .ref (b 10), .ref (b 11)])), (b 10, .inl (cI, 61, .inl RB)), (b 11, .inl (cI, 61, .inl RE)), (b 12, .inr (4, [.ref (b 1), .int y1, .int y2])), (b 13, .inr (0, [.ref (b 1), .ref (b 8), .ref (b 12)])), (b 14, .inr (3, [.ref (b 1), .ref (b 8), .ref (b 15)])), (b 15, .inl (cI, 4, .inl LA)), (b 16, .inr (1, [.ref (b 1), .ref (b 14), .ref (b 17), .int vs, .ref kn])), (b 17, .inl (cI, 4, .inl PL)), (kn, .inl (cI, kl, .inl KN)), (b 19, .inr (2, [.ref (b 1), .ref (b 14), .ref (b 20)])), (b 20, .inl (cI, 60, .inl CH))] := hD
      subst hw
      refine lv_goto (tgt := 35) hx hb dX7_cost_30 (by decide) ?_
      exact W.iret (v := prt (lpC P V Wt o kr n) (gpC F T V Wt o kr n) (nI (totc (qC F T P V o 0) n n) * Wt 2) (nI (usN V n) * Wt 3) kd) hx hb hr (fun t ht hW => ⟨⟨_, ((n, F, T, P, V, Wt, o), (kr, rc, RB, RE, y1, y2, LA, vs, PL, kn, kl, KN, CH)), rfl, (by exact ⟨ite_t (by (simp only [decide_eq_true_eq, decide_eq_false_iff_not, Bool.and_eq_true, Bool.and_eq_false_iff, Bool.or_eq_true, Bool.or_eq_false_iff, Bool.not_eq_true, Bool.not_eq_false, ne_eq, not_and, not_or, tog_t, tog_f, ahd_t, ahd_f, isoB_t, isoB_f, ixB_t, ixB_f, vOK_t, vOK_f, wOK_t, wOK_f, tn4, Int32.lt_iff_toInt_lt, Int32.le_iff_toInt_le, ← Int32.toInt_inj, tI0, tI1, tI2, tI3, tI4, tI6, tI14, tI59, tI60, tI127, tI1000, tI100000, tIm1, tIm2, tIm3, tIm4, tIbig] at c_2 c_5 ⊢ <;> omega)) (ite_t (by assumption) rfl), y1, y2, rfl⟩), by rw [ht]; exact hP, va_K.moved hW.alike hK, hD⟩, hS.F ht⟩) hS.2.2 dX7_cost_35
  · skip
    have c_2 : (decide (0 ≤ kd) && decide (kd ≤ 4)) = false := b2i_0.mp c_2
    refine lv_bipush (v := (-2)) hx hb dX7_cost_9 (by decide) ?_
    exact W.iret (v := (-2)) hx hb hr (fun t ht hW => ⟨⟨_, ((n, F, T, P, V, Wt, o), (kr, rc, RB, RE, p1, p2, LA, vs, PL, kn, kl, KN, CH)), rfl, (by exact ⟨ite_f (by (simp only [decide_eq_true_eq, decide_eq_false_iff_not, Bool.and_eq_true, Bool.and_eq_false_iff, Bool.or_eq_true, Bool.or_eq_false_iff, Bool.not_eq_true, Bool.not_eq_false, ne_eq, not_and, not_or, tog_t, tog_f, ahd_t, ahd_f, isoB_t, isoB_f, ixB_t, ixB_f, vOK_t, vOK_f, wOK_t, wOK_f, tn4, Int32.lt_iff_toInt_lt, Int32.le_iff_toInt_le, ← Int32.toInt_inj, tI0, tI1, tI2, tI3, tI4, tI6, tI14, tI59, tI60, tI127, tI1000, tI100000, tIm1, tIm2, tIm3, tIm4, tIbig] at c_2 ⊢ <;> omega)) rfl, p1, p2, rfl⟩), by rw [ht]; exact hP, va_K.moved hW.alike hK, hD⟩, hS.F ht⟩) hS.2.2 dX7_cost_11
