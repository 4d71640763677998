set_option maxHeartbeats 1000000 in
set_option maxRecDepth 100000 in
theorem c_X8_least (l : Launch) (dC : Nat → ClassId) (dI : Nat → Nat → Nat) (cI : ClassId) (sz : Nat) (a : Nat → Nat) (n : Nat) (F T P V Wt : Nat → Int32) (o : Nat → Nat) (G L R : Nat → Int32) (hn : n ≤ 60) (ho : ∀ j, o j < 60) (x : Int32) (hDP : ∀ nv, nv ≤ 4 → n ≤ 14 → ¬ dp F T P Wt o nv n 0 ln0 = 2000000000 → 0 ≤ dp F T P Wt o nv n 0 ln0 ∧ dp F T P Wt o nv n 0 ln0 < 2000000000) : Met l yX8_least wsX8_least ({ frames := 6, cells := 0, slots := 0, locals := 150 } : Room) (va_Pc [.ref (a 0), .int x] (fun U => U.heap.size = sz ∧ va_P (dC, dI) vwCl (mW cI a (nI n) F T P V Wt (fun j => nI (o j)) G L R) U.heap ∧ va_K (dC, dI) vwCl [(cI, .int)] U ∧ va_D (fun _ => True) (mW cI a (nI n) F T P V Wt (fun j => nI (o j)) G L R))) (va_Qi (fun (rr : Int32) (u : SS × MJ) => ∃ G1 L1 R1 : Nat → Int32, u = ((n, F, T, P, V, Wt, o), (G1, L1, R1)) ∧ (¬ (1 ≤ x ∧ x ≤ 4) → rr = -2) ∧ (1 ≤ x ∧ x ≤ 4 → 14 < n → rr = -3) ∧ (∀ nv, 1 ≤ nv → nv ≤ 4 → x = nI nv → n ≤ 14 → rr = encC (dp F T P Wt o nv n 0 ln0) ∧ (¬ dp F T P Wt o nv n 0 ln0 = 2000000000 → ∀ j, j < n → G1 j = nI (chF F T P Wt o n nv j)))) (fun u t => va_P (dC, dI) vwCl (mWu cI a u.1 u.2) t.heap ∧ va_K (dC, dI) vwCl [(cI, .int)] t ∧ va_D (va_A (mW cI a (nI n) F T P V Wt (fun j => nI (o j)) G L R) sz) (mWu cI a u.1 u.2)) (va_A (mW cI a (nI n) F T P V Wt (fun j => nI (o j)) G L R) sz)) 0 0 (va_A (mW cI a (nI n) F T P V Wt (fun j => nI (o j)) G L R) sz) := by
  refine Met.ofW (cc := cX8_least) (maxL := 3) (ret := (some .int)) (by decide) rfl ?_
  intro p e s m args below meth c s₁ B hml hv
  obtain ⟨rfl, hsz, hP, hK, hD0⟩ := hv
  have hx := B.exec
  have hb := B.bytes
  have hr := B.returns
  have hts := atoms_spec (ws := wsX8_least) B.pre
  have hown : s.vm.findClass RX8 = some m.cls := findClass_of_methodNamed B.named
  have hlocks := B.notSynchronized
  subst hsz
  have hD := hD0.self (sz := s.heap.size)
  generalize hAe : va_A (mW cI a (nI n) F T P V Wt (fun j => nI (o j)) G L R) s.heap.size = A at hD ⊢
  have hA : ∀ q : Nat, s.heap.size ≤ q → A q := fun q h => by rw [← hAe]; exact Or.inr h
  have hS : va_S A s.heap s.heap [] := va_S.rf
  have i_X8 : ∀ w ∈ u_ws RX8 TX8 10, w ∈ wsX8_least := by decide +kernel
  have k_0 := hts (.fieldLink RX8 38 "VoiceRowsModel" "notes" "I") (by decide +kernel)
  have k_1 := hts (.constant RX8 62 (2000000000)) (by decide +kernel)
  have hl := lv_entry ([.ref (a 0), .int x]) (n := 3) (Nat.le_of_ble_eq_true rfl)
  rw [lg_entry_eq]
  generalize (lg_sl ([.ref (a 0), .int x]) ++ List.replicate (3 - (lg_sl ([.ref (a 0), .int x])).length) Slot.unset).toArray = ls at hl ⊢
  have hl : lv_has ls 3 [(0, .ref (a 0)), (1, .int x)] := hl
  refine lv_iload_n hx hb dX8_least_0 rfl (lv_at hl 1 rfl) ?_
  refine lv_iconst (v := 1) hx hb dX8_least_1 (by decide) ?_
  refine lv_icmp_lt (tgt := 10) hx hb dX8_least_2 (by decide) (fun c_1 => ?_) (fun c_1 => ?_)
  · skip
    refine lv_bipush (v := (-2)) hx hb dX8_least_10 (by decide) ?_
    exact W.iret (v := (-2)) hx hb hr (fun t ht hW => ⟨⟨_, ((n, F, T, P, V, Wt, o), (G, L, R)), rfl, (by refine ⟨G, L, R, rfl, fun _ => rfl, fun h => absurd h (by (simp only [decide_eq_true_eq, decide_eq_false_iff_not, Bool.and_eq_true, Bool.and_eq_false_iff, Bool.or_eq_true, Bool.or_eq_false_iff, Bool.not_eq_true, Bool.not_eq_false, ne_eq, not_and, not_or, tog_t, tog_f, ahd_t, ahd_f, isoB_t, isoB_f, ixB_t, ixB_f, vOK_t, vOK_f, wOK_t, wOK_f, tn4, tI5, Int32.lt_iff_toInt_lt, Int32.le_iff_toInt_le, ← Int32.toInt_inj, tI0, tI1, tI2, tI3, tI4, tI6, tI14, tI59, tI60, tI127, tI1000, tI100000, tIm1, tIm2, tIm3, tIm4, tIbig] at c_1 ⊢; first | done | omega)), fun nv h1 h2 e1 => ?_⟩; exfalso; have hx9 := nv_no h1 h2 e1; (simp only [decide_eq_true_eq, decide_eq_false_iff_not, Bool.and_eq_true, Bool.and_eq_false_iff, Bool.or_eq_true, Bool.or_eq_false_iff, Bool.not_eq_true, Bool.not_eq_false, ne_eq, not_and, not_or, tog_t, tog_f, ahd_t, ahd_f, isoB_t, isoB_f, ixB_t, ixB_f, vOK_t, vOK_f, wOK_t, wOK_f, tn4, tI5, Int32.lt_iff_toInt_lt, Int32.le_iff_toInt_le, ← Int32.toInt_inj, tI0, tI1, tI2, tI3, tI4, tI6, tI14, tI59, tI60, tI127, tI1000, tI100000, tIm1, tIm2, tIm3, tIm4, tIbig] at hx9 c_1; first | done | omega)), by rw [ht]; exact hP, va_K.moved hW.alike hK, hD⟩, hS.F ht⟩) hS.2.2 dX8_least_12
  · skip
    refine lv_iload_n hx hb dX8_least_5 rfl (lv_at hl 1 rfl) ?_
    refine lv_iconst (v := 4) hx hb dX8_least_6 (by decide) ?_
    refine lv_icmp_le (tgt := 13) hx hb dX8_least_7 (by decide) (fun c_2 => ?_) (fun c_2 => ?_)
    · skip
      obtain ⟨nv, hv1, hv2, ev⟩ := nv_of (x := x) (by (simp only [decide_eq_true_eq, decide_eq_false_iff_not, Bool.and_eq_true, Bool.and_eq_false_iff, Bool.or_eq_true, Bool.or_eq_false_iff, Bool.not_eq_true, Bool.not_eq_false, ne_eq, not_and, not_or, tog_t, tog_f, ahd_t, ahd_f, isoB_t, isoB_f, ixB_t, ixB_f, vOK_t, vOK_f, wOK_t, wOK_f, tn4, tI5, Int32.lt_iff_toInt_lt, Int32.le_iff_toInt_le, ← Int32.toInt_inj, tI0, tI1, tI2, tI3, tI4, tI6, tI14, tI59, tI60, tI127, tI1000, tI100000, tIm1, tIm2, tIm3, tIm4, tIbig] at c_1 c_2 ⊢; first | done | omega))
      refine lv_aload_n hx hb dX8_least_13 rfl (lv_at hl 0 rfl) ?_
      refine va_get (D := (dC, dI)) (ci := 8) (v := .int (nI n)) (C := RX8) (T := TX8) (N := 10) hx hb hts i_X8 hown hK hP 0 rfl rfl 4 (by decide) k_0 (fun _ h9 => h9) rfl dX8_least_14 ?_
      refine lv_bipush (v := 14) hx hb dX8_least_17 (by decide) ?_
      refine lv_icmp_le (tgt := 25) hx hb dX8_least_19 (by decide) (fun c_3 => ?_) (fun c_3 => ?_)
      · skip
        have c_3 : n ≤ 14 := gk_leT (a := n) (b := 14) (by first | omega | exact Nat.lt_trans (ho _) (by decide) | exact Nat.lt_of_le_of_lt atN_le (by omega) | exact Nat.lt_of_le_of_lt szN_le (by omega) | exact Nat.lt_of_le_of_lt clM_le (by omega) | exact Nat.lt_of_le_of_lt rkN_le (by omega) | exact Nat.lt_of_le_of_lt (cnt_le _ _) (by omega)) (by first | omega | exact Nat.lt_trans (ho _) (by decide) | exact Nat.lt_of_le_of_lt atN_le (by omega) | exact Nat.lt_of_le_of_lt szN_le (by omega) | exact Nat.lt_of_le_of_lt clM_le (by omega) | exact Nat.lt_of_le_of_lt rkN_le (by omega) | exact Nat.lt_of_le_of_lt (cnt_le _ _) (by omega)) c_3
        refine lv_aload_n hx hb dX8_least_25 rfl (lv_at hl 0 rfl) ?_
        refine lv_iload_n hx hb dX8_least_26 rfl (lv_at hl 1 rfl) ?_
        refine gk_top (y := nI nv) (ev) ?_
        have hPc := hP.sub (ws' := [(a 0, .inr (8, [.ref (a 1), .ref (a 2), .ref (a 3), .ref (a 4), .int (nI n), .ref (a 5), .ref (a 6), .ref (a 7), .ref (a 8), .ref (a 9)])), (a 1, .inl (cI, 60, .inl F)), (a 2, .inl (cI, 60, .inl T)), (a 3, .inl (cI, 60, .inl P)), (a 4, .inl (cI, 60, .inl V)), (a 5, .inl (cI, 4, .inl Wt)), (a 6, .inl (cI, 60, .inl (fun j => nI (o j)))), (a 7, .inl (cI, 60, .inl G)), (a 8, .inl (cI, 4, .inl L)), (a 9, .inl (cI, 759375, .inl R))]) [0, 1, 2, 3, 4, 5, 6, 7, 8, 9] rfl
        have hDc := hD.sub (ws' := [(a 0, .inr (8, [.ref (a 1), .ref (a 2), .ref (a 3), .ref (a 4), .int (nI n), .ref (a 5), .ref (a 6), .ref (a 7), .ref (a 8), .ref (a 9)])), (a 1, .inl (cI, 60, .inl F)), (a 2, .inl (cI, 60, .inl T)), (a 3, .inl (cI, 60, .inl P)), (a 4, .inl (cI, 60, .inl V)), (a 5, .inl (cI, 4, .inl Wt)), (a 6, .inl (cI, 60, .inl (fun j => nI (o j)))), (a 7, .inl (cI, 60, .inl G)), (a 8, .inl (cI, 4, .inl L)), (a 9, .inl (cI, 759375, .inl R))]) [0, 1, 2, 3, 4, 5, 6, 7, 8, 9] (by decide) rfl
        have hFc := va_free (wc := [(a 0, .inr (8, [.ref (a 1), .ref (a 2), .ref (a 3), .ref (a 4), .int (nI n), .ref (a 5), .ref (a 6), .ref (a 7), .ref (a 8), .ref (a 9)])), (a 1, .inl (cI, 60, .inl F)), (a 2, .inl (cI, 60, .inl T)), (a 3, .inl (cI, 60, .inl P)), (a 4, .inl (cI, 60, .inl V)), (a 5, .inl (cI, 4, .inl Wt)), (a 6, .inl (cI, 60, .inl (fun j => nI (o j)))), (a 7, .inl (cI, 60, .inl G)), (a 8, .inl (cI, 4, .inl L)), (a 9, .inl (cI, 759375, .inl R))]) hD hS hA [0, 1, 2, 3, 4, 5, 6, 7, 8, 9] rfl
        refine va_calli (va_runV (As := [.int (nI nv)]) (rest := []) ⟨hx, hb, hml, hown, hts⟩ (c_X8_search l dC dI cI s.heap.size a n F T P V Wt o G L R hn ho nv (by omega) hv2 (fun h => (hDP nv hv2 (by omega) h).2)) (cwV 1 hts gX8_least_X8_search rfl rfl rfl (by decide +kernel) ⟨Nat.le_of_ble_eq_true rfl, Nat.le_of_ble_eq_true rfl⟩) ⟨gk_fbW, va_recv hK hPc (ci := 8) (q0 := 0) rfl rfl, fun U hU hW => ⟨rfl, by rw [hU], by rw [hU]; exact hPc, va_K.moved hW.alike hK, hDc.weaken (fun _ _ _ _ => trivial)⟩⟩ rfl rfl hl.1 rfl (lv_room (Nat.le_of_ble_eq_true rfl)) dX8_least_27 ⟨Nat.zero_le _, Nat.zero_le _⟩) hS (fun q _ h => hFc q h) hFc (fun r_4 u t H1 locs ht hvm hw hB hz1 hk1 hS => ?_)
        obtain ⟨G1, L1, R1⟩ := u
        obtain ⟨hP1, hK1, hD1⟩ := hB
        rw [ht] at hP1
        try dsimp only at hw
        obtain ⟨hP, hD⟩ := va_join (wr := []) (w1 := [(a 0, .inr (8, [.ref (a 1), .ref (a 2), .ref (a 3), .ref (a 4), .int (nI n), .ref (a 5), .ref (a 6), .ref (a 7), .ref (a 8), .ref (a 9)])), (a 1, .inl (cI, 60, .inl F)), (a 2, .inl (cI, 60, .inl T)), (a 3, .inl (cI, 60, .inl P)), (a 4, .inl (cI, 60, .inl V)), (a 5, .inl (cI, 4, .inl Wt)), (a 6, .inl (cI, 60, .inl (fun j => nI (o j)))), (a 7, .inl (cI, 60, .inl G1)), (a 8, .inl (cI, 4, .inl L1)), (a 9, .inl (cI, 759375, .inl R1))]) hP hD [0, 1, 2, 3, 4, 5, 6, 7, 8, 9] [] rfl rfl (by decide) (by decide) hk1 hFc hP1 hD1
        generalize H1 = H at hP hS ⊢
        have hP : va_P (dC, dI) vwCl [(a 0, .inr (8, [.ref (a 1), .ref (a 2), .ref (a 3), .ref (a 4), .int (nI n), .ref (a 5), .ref (a 6), .ref (a 7), .ref (a 8), .ref (a 9)])), (a 1, .inl (cI, 60, .inl F)), (a 2, .inl (cI, 60, .inl T)), (a 3, .inl (cI, 60, .inl P)), (a 4, .inl (cI, 60, .inl V)), (a 5, .inl (cI, 4, .inl Wt)), (a 6, .inl (cI, 60, .inl (fun j => nI (o j)))), (a 7, .inl (cI, 60, .inl G1)), (a 8, .inl (cI, 4, .inl L1)), (a 9, .inl (cI, 759375, .inl R1))] H := hP
        have hD : va_D A [(a 0, .inr (8, [.ref (a 1), .ref (a 2), .ref (a 3), .ref (a 4), .int (nI n), .ref (a 5), .ref (a 6), .ref (a 7), .ref (a 8), .ref (a 9)])), (a 1, .inl (cI, 60, .inl F)), (a 2, .inl (cI, 60, .inl T)), (a 3, .inl (cI, 60, .inl P)), (a 4, .inl (cI, 60, .inl V)), (a 5, .inl (cI, 4, .inl Wt)), (a 6, .inl (cI, 60, .inl (fun j => nI (o j)))), (a 7, .inl (cI, 60, .inl G1)), (a 8, .inl (cI, 4, .inl L1)), (a 9, .inl (cI, 759375, .inl R1))] := hD
        obtain ⟨w0, w1⟩ := hw
        subst w0
        refine lv_istore_n (lv' := [(2, .int (dp F T P Wt o nv n 0 ln0)), (0, .ref (a 0)), (1, .int x)]) hx hb dX8_least_30 rfl hl (by decide) rfl (fun ls hl => ?_)
        refine lv_iload_n hx hb dX8_least_31 rfl (lv_at hl 0 rfl) ?_
        refine lv_ldc (v := 2000000000) hx hb hown k_1 dX8_least_32 ?_
        refine lv_icmp_ne (tgt := 41) hx hb dX8_least_34 (by decide) (fun c_5 => ?_) (fun c_5 => ?_)
        · skip
          refine lv_iload_n hx hb dX8_least_41 rfl (lv_at hl 0 rfl) ?_
          exact W.iret (v := dp F T P Wt o nv n 0 ln0) hx hb hr (fun t ht hW => ⟨⟨_, ((n, F, T, P, V, Wt, o), (G1, L1, R1)), rfl, (by refine ⟨G1, L1, R1, rfl, fun h => absurd (nv_no hv1 hv2 ev) h, fun _ h => absurd h (by omega), fun nw h1 h2 e1 h4 => ?_⟩; obtain rfl := nv_eq hv2 h2 ev e1; exact ⟨(encC_s (by assumption)).symm, fun hq j hj => (w1 hq).2 j hj⟩), by rw [ht]; exact hP, va_K.moved hW.alike hK, hD⟩, hS.F ht⟩) hS.2.2 dX8_least_42
        · skip
          refine lv_iconst (v := (-1)) hx hb dX8_least_37 (by decide) ?_
          refine lv_goto (tgt := 42) hx hb dX8_least_38 (by decide) ?_
          exact W.iret (v := (-1)) hx hb hr (fun t ht hW => ⟨⟨_, ((n, F, T, P, V, Wt, o), (G1, L1, R1)), rfl, (by refine ⟨G1, L1, R1, rfl, fun h => absurd (nv_no hv1 hv2 ev) h, fun _ h => absurd h (by omega), fun nw h1 h2 e1 h4 => ?_⟩; obtain rfl := nv_eq hv2 h2 ev e1; exact ⟨(encC_n (by assumption)).symm, fun hq j hj => (w1 hq).2 j hj⟩), by rw [ht]; exact hP, va_K.moved hW.alike hK, hD⟩, hS.F ht⟩) hS.2.2 dX8_least_42
      · skip
        have c_3 : n > 14 := gk_leF (a := n) (b := 14) (by first | omega | exact Nat.lt_trans (ho _) (by decide) | exact Nat.lt_of_le_of_lt atN_le (by omega) | exact Nat.lt_of_le_of_lt szN_le (by omega) | exact Nat.lt_of_le_of_lt clM_le (by omega) | exact Nat.lt_of_le_of_lt rkN_le (by omega) | exact Nat.lt_of_le_of_lt (cnt_le _ _) (by omega)) (by first | omega | exact Nat.lt_trans (ho _) (by decide) | exact Nat.lt_of_le_of_lt atN_le (by omega) | exact Nat.lt_of_le_of_lt szN_le (by omega) | exact Nat.lt_of_le_of_lt clM_le (by omega) | exact Nat.lt_of_le_of_lt rkN_le (by omega) | exact Nat.lt_of_le_of_lt (cnt_le _ _) (by omega)) c_3
        refine lv_bipush (v := (-3)) hx hb dX8_least_22 (by decide) ?_
        exact W.iret (v := (-3)) hx hb hr (fun t ht hW => ⟨⟨_, ((n, F, T, P, V, Wt, o), (G, L, R)), rfl, (by refine ⟨G, L, R, rfl, fun h => absurd (nv_no hv1 hv2 ev) h, fun _ _ => rfl, fun nw h1 h2 e1 h4 => absurd h4 (by omega)⟩), by rw [ht]; exact hP, va_K.moved hW.alike hK, hD⟩, hS.F ht⟩) hS.2.2 dX8_least_24
    · skip
      refine lv_bipush (v := (-2)) hx hb dX8_least_10 (by decide) ?_
      exact W.iret (v := (-2)) hx hb hr (fun t ht hW => ⟨⟨_, ((n, F, T, P, V, Wt, o), (G, L, R)), rfl, (by refine ⟨G, L, R, rfl, fun _ => rfl, fun h => absurd h (by (simp only [decide_eq_true_eq, decide_eq_false_iff_not, Bool.and_eq_true, Bool.and_eq_false_iff, Bool.or_eq_true, Bool.or_eq_false_iff, Bool.not_eq_true, Bool.not_eq_false, ne_eq, not_and, not_or, tog_t, tog_f, ahd_t, ahd_f, isoB_t, isoB_f, ixB_t, ixB_f, vOK_t, vOK_f, wOK_t, wOK_f, tn4, tI5, Int32.lt_iff_toInt_lt, Int32.le_iff_toInt_le, ← Int32.toInt_inj, tI0, tI1, tI2, tI3, tI4, tI6, tI14, tI59, tI60, tI127, tI1000, tI100000, tIm1, tIm2, tIm3, tIm4, tIbig] at c_1 c_2 ⊢; first | done | omega)), fun nv h1 h2 e1 => ?_⟩; exfalso; have hx9 := nv_no h1 h2 e1; (simp only [decide_eq_true_eq, decide_eq_false_iff_not, Bool.and_eq_true, Bool.and_eq_false_iff, Bool.or_eq_true, Bool.or_eq_false_iff, Bool.not_eq_true, Bool.not_eq_false, ne_eq, not_and, not_or, tog_t, tog_f, ahd_t, ahd_f, isoB_t, isoB_f, ixB_t, ixB_f, vOK_t, vOK_f, wOK_t, wOK_f, tn4, tI5, Int32.lt_iff_toInt_lt, Int32.le_iff_toInt_le, ← Int32.toInt_inj, tI0, tI1, tI2, tI3, tI4, tI6, tI14, tI59, tI60, tI127, tI1000, tI100000, tIm1, tIm2, tIm3, tIm4, tIbig] at hx9 c_1 c_2; first | done | omega)), by rw [ht]; exact hP, va_K.moved hW.alike hK, hD⟩, hS.F ht⟩) hS.2.2 dX8_least_12

set_option maxHeartbeats 1000000 in
set_option maxRecDepth 100000 in
theorem c_X8_find (l : Launch) (dC : Nat → ClassId) (dI : Nat → Nat → Nat) (cI : ClassId) (sz : Nat) (a : Nat → Nat) (n : Nat) (F T P V Wt : Nat → Int32) (o : Nat → Nat) (G L R : Nat → Int32) (hn : n ≤ 60) (ho : ∀ j, o j < 60) (hp : prm n o) (x : Int32) (hDP : ∀ nv, nv ≤ 4 → n ≤ 14 → ¬ dp F T P Wt o nv n 0 ln0 = 2000000000 → 0 ≤ dp F T P Wt o nv n 0 ln0 ∧ dp F T P Wt o nv n 0 ln0 < 2000000000) : Met l yX8_find wsX8_find ({ frames := 7, cells := 0, slots := 0, locals := 172 } : Room) (va_Pc [.ref (a 0), .int x] (fun U => U.heap.size = sz ∧ va_P (dC, dI) vwCl (mW cI a (nI n) F T P V Wt (fun j => nI (o j)) G L R) U.heap ∧ va_K (dC, dI) vwCl [(cI, .int)] U ∧ va_D (fun _ => True) (mW cI a (nI n) F T P V Wt (fun j => nI (o j)) G L R))) (va_Qi (fun (rr : Int32) (u : SS × MJ) => ∃ V1 G1 L1 R1 : Nat → Int32, u = ((n, F, T, P, V1, Wt, o), (G1, L1, R1)) ∧ (¬ (1 ≤ x ∧ x ≤ 4) → rr = -2 ∧ V1 = V) ∧ (1 ≤ x ∧ x ≤ 4 → 14 < n → rr = -3 ∧ V1 = V) ∧ (∀ nv, 1 ≤ nv → nv ≤ 4 → x = nI nv → n ≤ 14 → rr = encC (dp F T P Wt o nv n 0 ln0) ∧ (dp F T P Wt o nv n 0 ln0 = 2000000000 → V1 = V) ∧ (¬ dp F T P Wt o nv n 0 ln0 = 2000000000 → (∀ j, j < n → V1 (o j) = nI (chF F T P Wt o n nv j)) ∧ (∀ j, n ≤ j → V1 j = V j)))) (fun u t => va_P (dC, dI) vwCl (mWu cI a u.1 u.2) t.heap ∧ va_K (dC, dI) vwCl [(cI, .int)] t ∧ va_D (va_A (mW cI a (nI n) F T P V Wt (fun j => nI (o j)) G L R) sz) (mWu cI a u.1 u.2)) (va_A (mW cI a (nI n) F T P V Wt (fun j => nI (o j)) G L R) sz)) 0 0 (va_A (mW cI a (nI n) F T P V Wt (fun j => nI (o j)) G L R) sz) := by
  refine Met.ofW (cc := cX8_find) (maxL := 3) (ret := (some .int)) (by decide) rfl ?_
  intro p e s m args below meth c s₁ B hml hv
  obtain ⟨rfl, hsz, hP, hK, hD0⟩ := hv
  have hx := B.exec
  have hb := B.bytes
  have hr := B.returns
  have hts := atoms_spec (ws := wsX8_find) B.pre
  have hown : s.vm.findClass RX8 = some m.cls := findClass_of_methodNamed B.named
  have hlocks := B.notSynchronized
  subst hsz
  have hD := hD0.self (sz := s.heap.size)
  generalize hAe : va_A (mW cI a (nI n) F T P V Wt (fun j => nI (o j)) G L R) s.heap.size = A at hD ⊢
  have hA : ∀ q : Nat, s.heap.size ≤ q → A q := fun q h => by rw [← hAe]; exact Or.inr h
  have hS : va_S A s.heap s.heap [] := va_S.rf
  have hl := lv_entry ([.ref (a 0), .int x]) (n := 3) (Nat.le_of_ble_eq_true rfl)
  rw [lg_entry_eq]
  generalize (lg_sl ([.ref (a 0), .int x]) ++ List.replicate (3 - (lg_sl ([.ref (a 0), .int x])).length) Slot.unset).toArray = ls at hl ⊢
  have hl : lv_has ls 3 [(0, .ref (a 0)), (1, .int x)] := hl
  refine lv_aload_n hx hb dX8_find_0 rfl (lv_at hl 0 rfl) ?_
  refine lv_iload_n hx hb dX8_find_1 rfl (lv_at hl 1 rfl) ?_
  have hPc := hP.sub (ws' := [(a 0, .inr (8, [.ref (a 1), .ref (a 2), .ref (a 3), .ref (a 4), .int (nI n), .ref (a 5), .ref (a 6), .ref (a 7), .ref (a 8), .ref (a 9)])), (a 1, .inl (cI, 60, .inl F)), (a 2, .inl (cI, 60, .inl T)), (a 3, .inl (cI, 60, .inl P)), (a 4, .inl (cI, 60, .inl V)), (a 5, .inl (cI, 4, .inl Wt)), (a 6, .inl (cI, 60, .inl (fun j => nI (o j)))), (a 7, .inl (cI, 60, .inl G)), (a 8, .inl (cI, 4, .inl L)), (a 9, .inl (cI, 759375, .inl R))]) [0, 1, 2, 3, 4, 5, 6, 7, 8, 9] rfl
  have hDc := hD.sub (ws' := [(a 0, .inr (8, [.ref (a 1), .ref (a 2), .ref (a 3), .ref (a 4), .int (nI n), .ref (a 5), .ref (a 6), .ref (a 7), .ref (a 8), .ref (a 9)])), (a 1, .inl (cI, 60, .inl F)), (a 2, .inl (cI, 60, .inl T)), (a 3, .inl (cI, 60, .inl P)), (a 4, .inl (cI, 60, .inl V)), (a 5, .inl (cI, 4, .inl Wt)), (a 6, .inl (cI, 60, .inl (fun j => nI (o j)))), (a 7, .inl (cI, 60, .inl G)), (a 8, .inl (cI, 4, .inl L)), (a 9, .inl (cI, 759375, .inl R))]) [0, 1, 2, 3, 4, 5, 6, 7, 8, 9] (by decide) rfl
  have hFc := va_free (wc := [(a 0, .inr (8, [.ref (a 1), .ref (a 2), .ref (a 3), .ref (a 4), .int (nI n), .ref (a 5), .ref (a 6), .ref (a 7), .ref (a 8), .ref (a 9)])), (a 1, .inl (cI, 60, .inl F)), (a 2, .inl (cI, 60, .inl T)), (a 3, .inl (cI, 60, .inl P)), (a 4, .inl (cI, 60, .inl V)), (a 5, .inl (cI, 4, .inl Wt)), (a 6, .inl (cI, 60, .inl (fun j => nI (o j)))), (a 7, .inl (cI, 60, .inl G)), (a 8, .inl (cI, 4, .inl L)), (a 9, .inl (cI, 759375, .inl R))]) hD hS hA [0, 1, 2, 3, 4, 5, 6, 7, 8, 9] rfl
  refine va_calli (va_runV (As := [.int x]) (rest := []) ⟨hx, hb, hml, hown, hts⟩ (c_X8_least l dC dI cI s.heap.size a n F T P V Wt o G L R hn ho x hDP) (cwV 1 hts gX8_find_X8_least rfl rfl rfl (by decide +kernel) ⟨Nat.le_of_ble_eq_true rfl, Nat.le_of_ble_eq_true rfl⟩) ⟨gk_fbW, va_recv hK hPc (ci := 8) (q0 := 0) rfl rfl, fun U hU hW => ⟨rfl, by rw [hU], by rw [hU]; exact hPc, va_K.moved hW.alike hK, hDc.weaken (fun _ _ _ _ => trivial)⟩⟩ rfl rfl hl.1 rfl (lv_room (Nat.le_of_ble_eq_true rfl)) dX8_find_2 ⟨Nat.zero_le _, Nat.zero_le _⟩) hS (fun q _ h => hFc q h) hFc (fun r_1 u t H1 locs ht hvm hw hB hz1 hk1 hS => ?_)
  obtain ⟨G1, L1, R1, rfl, w1, w2, w3⟩ := hw
  obtain ⟨hP1, hK1, hD1⟩ := hB
  rw [ht] at hP1
  try dsimp only at hw
  obtain ⟨hP, hD⟩ := va_join (wr := []) (w1 := [(a 0, .inr (8, [.ref (a 1), .ref (a 2), .ref (a 3), .ref (a 4), .int (nI n), .ref (a 5), .ref (a 6), .ref (a 7), .ref (a 8), .ref (a 9)])), (a 1, .inl (cI, 60, .inl F)), (a 2, .inl (cI, 60, .inl T)), (a 3, .inl (cI, 60, .inl P)), (a 4, .inl (cI, 60, .inl V)), (a 5, .inl (cI, 4, .inl Wt)), (a 6, .inl (cI, 60, .inl (fun j => nI (o j)))), (a 7, .inl (cI, 60, .inl G1)), (a 8, .inl (cI, 4, .inl L1)), (a 9, .inl (cI, 759375, .inl R1))]) hP hD [0, 1, 2, 3, 4, 5, 6, 7, 8, 9] [] rfl rfl (by decide) (by decide) hk1 hFc hP1 hD1
  generalize H1 = H at hP hS ⊢
  have hP : va_P (dC, dI) vwCl [(a 0, .inr (8, [.ref (a 1), .ref (a 2), .ref (a 3), .ref (a 4), .int (nI n), .ref (a 5), .ref (a 6), .ref (a 7), .ref (a 8), .ref (a 9)])), (a 1, .inl (cI, 60, .inl F)), (a 2, .inl (cI, 60, .inl T)), (a 3, .inl (cI, 60, .inl P)), (a 4, .inl (cI, 60, .inl V)), (a 5, .inl (cI, 4, .inl Wt)), (a 6, .inl (cI, 60, .inl (fun j => nI (o j)))), (a 7, .inl (cI, 60, .inl G1)), (a 8, .inl (cI, 4, .inl L1)), (a 9, .inl (cI, 759375, .inl R1))] H := hP
  have hD : va_D A [(a 0, .inr (8, [.ref (a 1), .ref (a 2), .ref (a 3), .ref (a 4), .int (nI n), .ref (a 5), .ref (a 6), .ref (a 7), .ref (a 8), .ref (a 9)])), (a 1, .inl (cI, 60, .inl F)), (a 2, .inl (cI, 60, .inl T)), (a 3, .inl (cI, 60, .inl P)), (a 4, .inl (cI, 60, .inl V)), (a 5, .inl (cI, 4, .inl Wt)), (a 6, .inl (cI, 60, .inl (fun j => nI (o j)))), (a 7, .inl (cI, 60, .inl G1)), (a 8, .inl (cI, 4, .inl L1)), (a 9, .inl (cI, 759375, .inl R1))] := hD
  refine lv_istore_n (lv' := [(2, .int r_1), (0, .ref (a 0)), (1, .int x)]) hx hb dX8_find_5 rfl hl (by decide) rfl (fun ls hl => ?_)
  refine lv_iload_n hx hb dX8_find_6 rfl (lv_at hl 0 rfl) ?_
  refine lv_if_lt (tgt := 14) hx hb dX8_find_7 (by decide) (fun c_2 => ?_) (fun c_2 => ?_)
  · skip
    refine lv_iload_n hx hb dX8_find_14 rfl (lv_at hl 0 rfl) ?_
    exact W.iret (v := r_1) hx hb hr (fun t ht hW => ⟨⟨_, ((n, F, T, P, V, Wt, o), (G1, L1, R1)), rfl, (by refine ⟨V, G1, L1, R1, rfl, fun h => ⟨w1 h, rfl⟩, fun h h2 => ⟨w2 h h2, rfl⟩, fun nv h1 h2 e1 h4 => ?_⟩; obtain ⟨e2, e3⟩ := w3 nv h1 h2 e1 h4; refine ⟨e2, fun _ => rfl, fun hq => ?_⟩; exfalso; rw [e2, encC_s hq] at c_2; exact absurd (hDP nv h2 h4 hq).1 (Int32.not_le.mpr c_2)), by rw [ht]; exact hP, va_K.moved hW.alike hK, hD⟩, hS.F ht⟩) hS.2.2 dX8_find_15
  · skip
    refine lv_aload_n hx hb dX8_find_10 rfl (lv_at hl 1 rfl) ?_
    have hPc := hP.sub (ws' := [(a 0, .inr (8, [.ref (a 1), .ref (a 2), .ref (a 3), .ref (a 4), .int (nI n), .ref (a 5), .ref (a 6), .ref (a 7), .ref (a 8), .ref (a 9)])), (a 1, .inl (cI, 60, .inl F)), (a 2, .inl (cI, 60, .inl T)), (a 3, .inl (cI, 60, .inl P)), (a 4, .inl (cI, 60, .inl V)), (a 5, .inl (cI, 4, .inl Wt)), (a 6, .inl (cI, 60, .inl (fun j => nI (o j)))), (a 7, .inl (cI, 60, .inl G1)), (a 8, .inl (cI, 4, .inl L1)), (a 9, .inl (cI, 759375, .inl R1))]) [0, 1, 2, 3, 4, 5, 6, 7, 8, 9] rfl
    have hDc := hD.sub (ws' := [(a 0, .inr (8, [.ref (a 1), .ref (a 2), .ref (a 3), .ref (a 4), .int (nI n), .ref (a 5), .ref (a 6), .ref (a 7), .ref (a 8), .ref (a 9)])), (a 1, .inl (cI, 60, .inl F)), (a 2, .inl (cI, 60, .inl T)), (a 3, .inl (cI, 60, .inl P)), (a 4, .inl (cI, 60, .inl V)), (a 5, .inl (cI, 4, .inl Wt)), (a 6, .inl (cI, 60, .inl (fun j => nI (o j)))), (a 7, .inl (cI, 60, .inl G1)), (a 8, .inl (cI, 4, .inl L1)), (a 9, .inl (cI, 759375, .inl R1))]) [0, 1, 2, 3, 4, 5, 6, 7, 8, 9] (by decide) rfl
    have hFc := va_free (wc := [(a 0, .inr (8, [.ref (a 1), .ref (a 2), .ref (a 3), .ref (a 4), .int (nI n), .ref (a 5), .ref (a 6), .ref (a 7), .ref (a 8), .ref (a 9)])), (a 1, .inl (cI, 60, .inl F)), (a 2, .inl (cI, 60, .inl T)), (a 3, .inl (cI, 60, .inl P)), (a 4, .inl (cI, 60, .inl V)), (a 5, .inl (cI, 4, .inl Wt)), (a 6, .inl (cI, 60, .inl (fun j => nI (o j)))), (a 7, .inl (cI, 60, .inl G1)), (a 8, .inl (cI, 4, .inl L1)), (a 9, .inl (cI, 759375, .inl R1))]) hD hS hA [0, 1, 2, 3, 4, 5, 6, 7, 8, 9] rfl
    refine va_callv (va_runV (As := []) (rest := []) ⟨hx, hb, hml, hown, hts⟩ (c_X8_give l dC dI cI H.size a n F T P V Wt o G1 L1 R1 hn ho hp) (cwV 0 hts gX8_find_X8_give rfl rfl rfl (by decide +kernel) ⟨Nat.le_of_ble_eq_true rfl, Nat.le_of_ble_eq_true rfl⟩) ⟨gk_fbW, va_recv hK hPc (ci := 8) (q0 := 0) rfl rfl, fun U hU hW => ⟨rfl, by rw [hU], by rw [hU]; exact hPc, va_K.moved hW.alike hK, hDc.weaken (fun _ _ _ _ => trivial)⟩⟩ rfl rfl hl.1 rfl (lv_room (Nat.le_of_ble_eq_true rfl)) dX8_find_11 ⟨Nat.zero_le _, Nat.zero_le _⟩) hS (fun q _ h => hFc q h) hFc (fun u t H1 locs ht hvm hw hB hz1 hk1 hS => ?_)
    obtain ⟨hP1, hK1, hD1⟩ := hB
    rw [ht] at hP1
    try dsimp only at hw
    obtain ⟨hP, hD⟩ := va_join (wr := []) (w1 := [(a 0, .inr (8, [.ref (a 1), .ref (a 2), .ref (a 3), .ref (a 4), .int (nI n), .ref (a 5), .ref (a 6), .ref (a 7), .ref (a 8), .ref (a 9)])), (a 1, .inl (cI, 60, .inl F)), (a 2, .inl (cI, 60, .inl T)), (a 3, .inl (cI, 60, .inl P)), (a 4, .inl (cI, 60, .inl u)), (a 5, .inl (cI, 4, .inl Wt)), (a 6, .inl (cI, 60, .inl (fun j => nI (o j)))), (a 7, .inl (cI, 60, .inl G1)), (a 8, .inl (cI, 4, .inl L1)), (a 9, .inl (cI, 759375, .inl R1))]) hP hD [0, 1, 2, 3, 4, 5, 6, 7, 8, 9] [] rfl rfl (by decide) (by decide) hk1 hFc hP1 hD1
    generalize H1 = H at hP hS ⊢
    have hP : va_P (dC, dI) vwCl [(a 0, .inr (8, [.ref (a 1), .ref (a 2), .ref (a 3), .ref (a 4), .int (nI n), .ref (a 5), .ref (a 6), .ref (a 7), .ref (a 8), .ref (a 9)])), (a 1, .inl (cI, 60, .inl F)), (a 2, .inl (cI, 60, .inl T)), (a 3, .inl (cI, 60, .inl P)), (a 4, .inl (cI, 60, .inl u)), (a 5, .inl (cI, 4, .inl Wt)), (a 6, .inl (cI, 60, .inl (fun j => nI (o j)))), (a 7, .inl (cI, 60, .inl G1)), (a 8, .inl (cI, 4, .inl L1)), (a 9, .inl (cI, 759375, .inl R1))] H := hP
    have hD : va_D A [(a 0, .inr (8, [.ref (a 1), .ref (a 2), .ref (a 3), .ref (a 4), .int (nI n), .ref (a 5), .ref (a 6), .ref (a 7), .ref (a 8), .ref (a 9)])), (a 1, .inl (cI, 60, .inl F)), (a 2, .inl (cI, 60, .inl T)), (a 3, .inl (cI, 60, .inl P)), (a 4, .inl (cI, 60, .inl u)), (a 5, .inl (cI, 4, .inl Wt)), (a 6, .inl (cI, 60, .inl (fun j => nI (o j)))), (a 7, .inl (cI, 60, .inl G1)), (a 8, .inl (cI, 4, .inl L1)), (a 9, .inl (cI, 759375, .inl R1))] := hD
    obtain ⟨y1, y2⟩ := hw
    refine lv_iload_n hx hb dX8_find_14 rfl (lv_at hl 0 rfl) ?_
    exact W.iret (v := r_1) hx hb hr (fun t ht hW => ⟨⟨_, ((n, F, T, P, u, Wt, o), (G1, L1, R1)), rfl, (by refine ⟨u, G1, L1, R1, rfl, fun h => ?_, fun h h2 => ?_, fun nv h1 h2 e1 h4 => ?_⟩; (exfalso; rw [w1 h] at c_2; exact absurd (by decide) c_2); (exfalso; rw [w2 h h2] at c_2; exact absurd (by decide) c_2); obtain ⟨e2, e3⟩ := w3 nv h1 h2 e1 h4; refine ⟨e2, fun hq => ?_, fun hq => ⟨fun j hj => (y1 j hj).trans (e3 hq j hj), y2⟩⟩; exfalso; rw [e2, encC_n hq] at c_2; exact absurd (by decide) c_2), by rw [ht]; exact hP, va_K.moved hW.alike hK, hD⟩, hS.F ht⟩) hS.2.2 dX8_find_15
