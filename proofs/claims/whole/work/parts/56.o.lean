theorem gk_mull (x : Nat) (y : Int32) (c : Nat) (h : y = nI c) : nI x * y = nI (x * c) := by rw [h]; exact pk_mul x c
theorem updN_le {la : Nat → Nat} {v x B : Nat} (h : ∀ j, la j ≤ B) (hx : x ≤ B) : ∀ j, updN la v x j ≤ B := by
  intro j
  simp only [updN]
  split
  · exact hx
  · exact h j
set_option maxHeartbeats 1000000 in
set_option maxRecDepth 100000 in
theorem c_X8_place (l : Launch) (dC : Nat → ClassId) (dI : Nat → Nat → Nat) (cI : ClassId) (a : Nat → Nat) (n : Nat) (F T P V Wt : Nat → Int32) (o : Nat → Nat) (G : Nat → Int32) (la : Nat → Nat) (R : Nat → Int32) (hn : n ≤ 60) (ho : ∀ j, o j < 60) (hla : ∀ j, la j ≤ 60) (hla4 : ∀ j, la j ≤ 14) (w : Nat) : Met l yX8_place wsX8_place ({ frames := 0, cells := 0, slots := 0, locals := 0 } : Room) (va_Pc [.ref (a 0), .int (nI w)] (fun U => va_P (dC, dI) vwCl (mW cI a (nI n) F T P V Wt (fun j => nI (o j)) G (fun j => nI (la j)) R) U.heap ∧ va_K (dC, dI) vwCl [(cI, .int)] U)) (vp_Si (fun rr => rr = nI (plc w la))) 0 0 (fun _ => False) := by
  refine Met.ofW (cc := cX8_place) (maxL := 2) (ret := (some .int)) (by decide) rfl ?_
  intro p e s m args below meth c s₁ B hml hv
  obtain ⟨rfl, hP, hK⟩ := hv
  have hx := B.exec
  have hb := B.bytes
  have hr := B.returns
  have hts := atoms_spec (ws := wsX8_place) B.pre
  have hown : s.vm.findClass RX8 = some m.cls := findClass_of_methodNamed B.named
  have hlocks := B.notSynchronized
  have i_X8 : ∀ w ∈ u_ws RX8 TX8 10, w ∈ wsX8_place := by decide +kernel
  have k_0 := hts (.constant RX8 58 (50625)) (by decide +kernel)
  have k_1 := hts (.fieldLink RX8 31 "VoiceRowsModel" "last" "[I") (by decide +kernel)
  have hl := lv_entry ([.ref (a 0), .int (nI w)]) (n := 2) (Nat.le_of_ble_eq_true rfl)
  rw [lg_entry_eq]
  generalize (lg_sl ([.ref (a 0), .int (nI w)]) ++ List.replicate (2 - (lg_sl ([.ref (a 0), .int (nI w)])).length) Slot.unset).toArray = ls at hl ⊢
  have hl : lv_has ls 2 [(0, .ref (a 0)), (1, .int (nI w))] := hl
  refine lv_iload_n hx hb dX8_place_0 rfl (lv_at hl 1 rfl) ?_
  refine lv_ldc (v := 50625) hx hb hown k_0 dX8_place_1 ?_
  refine lv_imul hx hb dX8_place_3 ?_
  refine gk_top (y := nI (w * 50625)) (gk_mull _ _ _ (by decide)) ?_
  refine lv_aload_n hx hb dX8_place_4 rfl (lv_at hl 0 rfl) ?_
  refine va_get (D := (dC, dI)) (ci := 8) (v := .ref (a 8)) (C := RX8) (T := TX8) (N := 10) hx hb hts i_X8 hown hK hP 0 rfl rfl 8 (by decide) k_1 (fun _ h9 => h9) rfl dX8_place_5 ?_
  refine lv_iconst (v := 0) hx hb dX8_place_8 (by decide) ?_
  refine gk_ld hx hb hK hP 8 0 rfl rfl 0 (by omega) (by omega) (v := nI (la 0)) (rfl) dX8_place_9 ?_
  refine lv_bipush (v := 15) hx hb dX8_place_10 (by decide) ?_
  refine lv_imul hx hb dX8_place_12 ?_
  refine gk_top (y := nI ((la 0) * 15)) (gk_mull _ _ _ (by decide)) ?_
  refine lv_aload_n hx hb dX8_place_13 rfl (lv_at hl 0 rfl) ?_
  refine va_get (D := (dC, dI)) (ci := 8) (v := .ref (a 8)) (C := RX8) (T := TX8) (N := 10) hx hb hts i_X8 hown hK hP 0 rfl rfl 8 (by decide) k_1 (fun _ h9 => h9) rfl dX8_place_14 ?_
  refine lv_iconst (v := 1) hx hb dX8_place_17 (by decide) ?_
  refine gk_ld hx hb hK hP 8 0 rfl rfl 1 (by omega) (by omega) (v := nI (la 1)) (rfl) dX8_place_18 ?_
  refine lv_iadd hx hb dX8_place_19 ?_
  refine gk_top (y := nI (((la 0) * 15) + (la 1))) (nI_add _ _) ?_
  refine lv_bipush (v := 15) hx hb dX8_place_20 (by decide) ?_
  refine lv_imul hx hb dX8_place_22 ?_
  refine gk_top (y := nI ((((la 0) * 15) + (la 1)) * 15)) (gk_mull _ _ _ (by decide)) ?_
  refine lv_aload_n hx hb dX8_place_23 rfl (lv_at hl 0 rfl) ?_
  refine va_get (D := (dC, dI)) (ci := 8) (v := .ref (a 8)) (C := RX8) (T := TX8) (N := 10) hx hb hts i_X8 hown hK hP 0 rfl rfl 8 (by decide) k_1 (fun _ h9 => h9) rfl dX8_place_24 ?_
  refine lv_iconst (v := 2) hx hb dX8_place_27 (by decide) ?_
  refine gk_ld hx hb hK hP 8 0 rfl rfl 2 (by omega) (by omega) (v := nI (la 2)) (rfl) dX8_place_28 ?_
  refine lv_iadd hx hb dX8_place_29 ?_
  refine gk_top (y := nI (((((la 0) * 15) + (la 1)) * 15) + (la 2))) (nI_add _ _) ?_
  refine lv_bipush (v := 15) hx hb dX8_place_30 (by decide) ?_
  refine lv_imul hx hb dX8_place_32 ?_
  refine gk_top (y := nI ((((((la 0) * 15) + (la 1)) * 15) + (la 2)) * 15)) (gk_mull _ _ _ (by decide)) ?_
  refine lv_iadd hx hb dX8_place_33 ?_
  refine gk_top (y := nI ((w * 50625) + ((((((la 0) * 15) + (la 1)) * 15) + (la 2)) * 15))) (nI_add _ _) ?_
  refine lv_aload_n hx hb dX8_place_34 rfl (lv_at hl 0 rfl) ?_
  refine va_get (D := (dC, dI)) (ci := 8) (v := .ref (a 8)) (C := RX8) (T := TX8) (N := 10) hx hb hts i_X8 hown hK hP 0 rfl rfl 8 (by decide) k_1 (fun _ h9 => h9) rfl dX8_place_35 ?_
  refine lv_iconst (v := 3) hx hb dX8_place_38 (by decide) ?_
  refine gk_ld hx hb hK hP 8 0 rfl rfl 3 (by omega) (by omega) (v := nI (la 3)) (rfl) dX8_place_39 ?_
  refine lv_iadd hx hb dX8_place_40 ?_
  refine gk_top (y := nI (((w * 50625) + ((((((la 0) * 15) + (la 1)) * 15) + (la 2)) * 15)) + (la 3))) (nI_add _ _) ?_
  exact W.iret (v := nI (((w * 50625) + ((((((la 0) * 15) + (la 1)) * 15) + (la 2)) * 15)) + (la 3))) hx hb hr (fun t ht _ => ⟨_, rfl, by rfl, ht⟩) (fun q h => by cases h) dX8_place_41

set_option maxHeartbeats 1000000 in
set_option maxRecDepth 100000 in
theorem c_X8_through (l : Launch) (dC : Nat → ClassId) (dI : Nat → Nat → Nat) (cI : ClassId) (sz : Nat) (a : Nat → Nat) (n : Nat) (F T P V Wt : Nat → Int32) (o : Nat → Nat) (G : Nat → Int32) (la : Nat → Nat) (R : Nat → Int32) (hn : n ≤ 60) (ho : ∀ j, o j < 60) (hla : ∀ j, la j ≤ 60) (hla4 : ∀ j, la j ≤ 14) (r v : Nat) (hr0 : r < 14) (hv0 : v < 4) : Met l yX8_through wsX8_through ({ frames := 2, cells := 0, slots := 0, locals := 48 } : Room) (va_Pc [.ref (a 0), .int (nI r), .int (nI v)] (fun U => U.heap.size = sz ∧ va_P (dC, dI) vwCl (mW cI a (nI n) F T P V Wt (fun j => nI (o j)) G (fun j => nI (la j)) R) U.heap ∧ va_K (dC, dI) vwCl [(cI, .int)] U ∧ va_D (fun _ => True) (mW cI a (nI n) F T P V Wt (fun j => nI (o j)) G (fun j => nI (la j)) R))) (va_Qi (fun (rr : Int32) (_ : Unit) => rr = thr (fun w => R (plc (r + 1) w)) (prc F T P Wt o la r) la r v) (fun u t => va_P (dC, dI) vwCl (mW cI a (nI n) F T P V Wt (fun j => nI (o j)) G (fun j => nI (la j)) R) t.heap ∧ va_K (dC, dI) vwCl [(cI, .int)] t ∧ va_D (va_A (mW cI a (nI n) F T P V Wt (fun j => nI (o j)) G (fun j => nI (la j)) R) sz) (mW cI a (nI n) F T P V Wt (fun j => nI (o j)) G (fun j => nI (la j)) R)) (va_A (mW cI a (nI n) F T P V Wt (fun j => nI (o j)) G (fun j => nI (la j)) R) sz)) 0 0 (va_A (mW cI a (nI n) F T P V Wt (fun j => nI (o j)) G (fun j => nI (la j)) R) sz) := by
  refine Met.ofW (cc := cX8_through) (maxL := 6) (ret := (some .int)) (by decide) rfl ?_
  intro p e s m args below meth c s₁ B hml hv
  obtain ⟨rfl, hsz, hP, hK, hD0⟩ := hv
  have hx := B.exec
  have hb := B.bytes
  have hr := B.returns
  have hts := atoms_spec (ws := wsX8_through) B.pre
  have hown : s.vm.findClass RX8 = some m.cls := findClass_of_methodNamed B.named
  have hlocks := B.notSynchronized
  subst hsz
  have hD := hD0.self (sz := s.heap.size)
  generalize hAe : va_A (mW cI a (nI n) F T P V Wt (fun j => nI (o j)) G (fun j => nI (la j)) R) s.heap.size = A at hD ⊢
  have hA : ∀ q : Nat, s.heap.size ≤ q → A q := fun q h => by rw [← hAe]; exact Or.inr h
  have hS : va_S A s.heap s.heap [] := va_S.rf
  have i_X8 : ∀ w ∈ u_ws RX8 TX8 10, w ∈ wsX8_through := by decide +kernel
  have k_0 := hts (.constant RX8 62 (2000000000)) (by decide +kernel)
  have k_1 := hts (.fieldLink RX8 31 "VoiceRowsModel" "last" "[I") (by decide +kernel)
  have k_2 := hts (.fieldLink RX8 35 "VoiceRowsModel" "rest" "[I") (by decide +kernel)
  have hl := lv_entry ([.ref (a 0), .int (nI r), .int (nI v)]) (n := 6) (Nat.le_of_ble_eq_true rfl)
  rw [lg_entry_eq]
  generalize (lg_sl ([.ref (a 0), .int (nI r), .int (nI v)]) ++ List.replicate (6 - (lg_sl ([.ref (a 0), .int (nI r), .int (nI v)])).length) Slot.unset).toArray = ls at hl ⊢
  have hl : lv_has ls 6 [(0, .ref (a 0)), (1, .int (nI r)), (2, .int (nI v))] := hl
  refine lv_aload_n hx hb dX8_through_0 rfl (lv_at hl 0 rfl) ?_
  refine lv_iload_n hx hb dX8_through_1 rfl (lv_at hl 1 rfl) ?_
  refine lv_iload_n hx hb dX8_through_2 rfl (lv_at hl 2 rfl) ?_
  refine vp_callSi (gk_run (va_runV (As := [.int (nI r), .int (nI v)]) (rest := []) ⟨hx, hb, hml, hown, hts⟩ (c_X8_price l dC dI cI a n F T P V Wt o G la R hn ho hla r v (by omega) hv0) (cwV 2 hts gX8_through_X8_price rfl rfl rfl (by decide +kernel) ⟨Nat.le_of_ble_eq_true rfl, Nat.le_of_ble_eq_true rfl⟩) ⟨gk_fb, va_recv hK hP (ci := 8) (q0 := 0) rfl rfl, fun U hU hW => ⟨rfl, by rw [hU]; exact hP, va_K.moved hW.alike hK⟩⟩ rfl rfl hl.1 rfl (lv_room (Nat.le_of_ble_eq_true rfl)) dX8_through_3 ⟨Nat.zero_le _, Nat.zero_le _⟩)) (fun r_1 er_1 => ?_)
  subst er_1
  refine lv_istore_n (lv' := [(3, .int (prc F T P Wt o la r v)), (0, .ref (a 0)), (1, .int (nI r)), (2, .int (nI v))]) hx hb dX8_through_6 rfl hl (by decide) rfl (fun ls hl => ?_)
  refine lv_iload_n hx hb dX8_through_7 rfl (lv_at hl 0 rfl) ?_
  refine lv_ldc (v := 2000000000) hx hb hown k_0 dX8_through_8 ?_
  refine lv_icmp_ne (tgt := 16) hx hb dX8_through_10 (by decide) (fun c_2 => ?_) (fun c_2 => ?_)
  · skip
    refine lv_aload_n hx hb dX8_through_16 rfl (lv_at hl 1 rfl) ?_
    refine va_get (D := (dC, dI)) (ci := 8) (v := .ref (a 8)) (C := RX8) (T := TX8) (N := 10) hx hb hts i_X8 hown hK hP 0 rfl rfl 8 (by decide) k_1 (fun _ h9 => h9) rfl dX8_through_17 ?_
    refine lv_iload_n hx hb dX8_through_20 rfl (lv_at hl 3 rfl) ?_
    refine gk_ld hx hb hK hP 8 0 rfl rfl v (by omega) (by omega) (v := nI (la v)) (rfl) dX8_through_21 ?_
    refine lv_istore (lv' := [(4, .int (nI (la v))), (3, .int (prc F T P Wt o la r v)), (0, .ref (a 0)), (1, .int (nI r)), (2, .int (nI v))]) hx hb dX8_through_22 hl (by decide) rfl (fun ls hl => ?_)
    refine lv_aload_n hx hb dX8_through_24 rfl (lv_at hl 2 rfl) ?_
    refine va_get (D := (dC, dI)) (ci := 8) (v := .ref (a 8)) (C := RX8) (T := TX8) (N := 10) hx hb hts i_X8 hown hK hP 0 rfl rfl 8 (by decide) k_1 (fun _ h9 => h9) rfl dX8_through_25 ?_
    refine lv_iload_n hx hb dX8_through_28 rfl (lv_at hl 4 rfl) ?_
    refine lv_iload_n hx hb dX8_through_29 rfl (lv_at hl 3 rfl) ?_
    refine lv_iconst (v := 1) hx hb dX8_through_30 (by decide) ?_
    refine lv_iadd hx hb dX8_through_31 ?_
    refine gk_top (y := nI (r + 1)) (gk_addl _ _ _ (by decide)) ?_
    refine gk_st hx hb hK hP hD hS 8 0 rfl rfl v (by omega) (by omega) dX8_through_32 (fun H locs hP hD hS => ?_)
    have hP : va_P (dC, dI) vwCl [(a 0, .inr (8, [.ref (a 1), .ref (a 2), .ref (a 3), .ref (a 4), .int (nI n), .ref (a 5), .ref (a 6), .ref (a 7), .ref (a 8), .ref (a 9)])), (a 1, .inl (cI, 60, .inl F)), (a 2, .inl (cI, 60, .inl T)), (a 3, .inl (cI, 60, .inl P)), (a 4, .inl (cI, 60, .inl V)), (a 5, .inl (cI, 4, .inl Wt)), (a 6, .inl (cI, 60, .inl (fun j => nI (o j)))), (a 7, .inl (cI, 60, .inl G)), (a 8, .inl (cI, 4, .inl (upd (fun j => nI (la j)) v (nI (r + 1))))), (a 9, .inl (cI, 759375, .inl R))] H := hP
    have hD : va_D A [(a 0, .inr (8, [.ref (a 1), .ref (a 2), .ref (a 3), .ref (a 4), .int (nI n), .ref (a 5), .ref (a 6), .ref (a 7), .ref (a 8), .ref (a 9)])), (a 1, .inl (cI, 60, .inl F)), (a 2, .inl (cI, 60, .inl T)), (a 3, .inl (cI, 60, .inl P)), (a 4, .inl (cI, 60, .inl V)), (a 5, .inl (cI, 4, .inl Wt)), (a 6, .inl (cI, 60, .inl (fun j => nI (o j)))), (a 7, .inl (cI, 60, .inl G)), (a 8, .inl (cI, 4, .inl (upd (fun j => nI (la j)) v (nI (r + 1))))), (a 9, .inl (cI, 759375, .inl R))] := hD
    have eR : upd (fun j => nI (la j)) v (nI (r + 1)) = (fun j => nI (updN la v (r + 1) j)) := upd_nI
    rw [eR] at hP hD
    have hP : va_P (dC, dI) vwCl [(a 0, .inr (8, [.ref (a 1), .ref (a 2), .ref (a 3), .ref (a 4), .int (nI n), .ref (a 5), .ref (a 6), .ref (a 7), .ref (a 8), .ref (a 9)])), (a 1, .inl (cI, 60, .inl F)), (a 2, .inl (cI, 60, .inl T)), (a 3, .inl (cI, 60, .inl P)), (a 4, .inl (cI, 60, .inl V)), (a 5, .inl (cI, 4, .inl Wt)), (a 6, .inl (cI, 60, .inl (fun j => nI (o j)))), (a 7, .inl (cI, 60, .inl G)), (a 8, .inl (cI, 4, .inl (fun j => nI (updN la v (r + 1) j)))), (a 9, .inl (cI, 759375, .inl R))] H := hP
    have hD : va_D A [(a 0, .inr (8, [.ref (a 1), .ref (a 2), .ref (a 3), .ref (a 4), .int (nI n), .ref (a 5), .ref (a 6), .ref (a 7), .ref (a 8), .ref (a 9)])), (a 1, .inl (cI, 60, .inl F)), (a 2, .inl (cI, 60, .inl T)), (a 3, .inl (cI, 60, .inl P)), (a 4, .inl (cI, 60, .inl V)), (a 5, .inl (cI, 4, .inl Wt)), (a 6, .inl (cI, 60, .inl (fun j => nI (o j)))), (a 7, .inl (cI, 60, .inl G)), (a 8, .inl (cI, 4, .inl (fun j => nI (updN la v (r + 1) j)))), (a 9, .inl (cI, 759375, .inl R))] := hD
    refine lv_aload_n hx hb dX8_through_33 rfl (lv_at hl 2 rfl) ?_
    refine va_get (D := (dC, dI)) (ci := 8) (v := .ref (a 9)) (C := RX8) (T := TX8) (N := 10) hx hb hts i_X8 hown hK hP 0 rfl rfl 9 (by decide) k_2 (fun _ h9 => h9) rfl dX8_through_34 ?_
    refine lv_aload_n hx hb dX8_through_37 rfl (lv_at hl 2 rfl) ?_
    refine lv_iload_n hx hb dX8_through_38 rfl (lv_at hl 3 rfl) ?_
    refine lv_iconst (v := 1) hx hb dX8_through_39 (by decide) ?_
    refine lv_iadd hx hb dX8_through_40 ?_
    refine gk_top (y := nI (r + 1)) (gk_addl _ _ _ (by decide)) ?_
    refine vp_callSi (gk_run (va_runV (As := [.int (nI (r + 1))]) (rest := [.ref (a 9)]) ⟨hx, hb, hml, hown, hts⟩ (c_X8_place l dC dI cI a n F T P V Wt o G (updN la v (r + 1)) R hn ho (updN_le hla (by omega)) (updN_le hla4 (by omega)) (r + 1)) (cwV 1 hts gX8_through_X8_place rfl rfl rfl (by decide +kernel) ⟨Nat.le_of_ble_eq_true rfl, Nat.le_of_ble_eq_true rfl⟩) ⟨gk_fb, va_recv hK hP (ci := 8) (q0 := 0) rfl rfl, fun U hU hW => ⟨rfl, by rw [hU]; exact hP, va_K.moved hW.alike hK⟩⟩ rfl rfl hl.1 rfl (lv_room (Nat.le_of_ble_eq_true rfl)) dX8_through_41 ⟨Nat.zero_le _, Nat.zero_le _⟩)) (fun r_3 er_3 => ?_)
    subst er_3
    refine gk_ld hx hb hK hP 9 0 rfl rfl (plc (r + 1) (updN la v (r + 1))) (plc_lt (by omega) (updN_le hla4 (by omega))) (by omega) (v := R (plc (r + 1) (updN la v (r + 1)))) (rfl) dX8_through_44 ?_
    refine lv_istore (lv' := [(5, .int (R (plc (r + 1) (updN la v (r + 1))))), (4, .int (nI (la v))), (3, .int (prc F T P Wt o la r v)), (0, .ref (a 0)), (1, .int (nI r)), (2, .int (nI v))]) hx hb dX8_through_45 hl (by decide) rfl (fun ls hl => ?_)
    refine lv_aload_n hx hb dX8_through_47 rfl (lv_at hl 3 rfl) ?_
    refine va_get (D := (dC, dI)) (ci := 8) (v := .ref (a 8)) (C := RX8) (T := TX8) (N := 10) hx hb hts i_X8 hown hK hP 0 rfl rfl 8 (by decide) k_1 (fun _ h9 => h9) rfl dX8_through_48 ?_
    refine lv_iload_n hx hb dX8_through_51 rfl (lv_at hl 5 rfl) ?_
    refine lv_iload hx hb dX8_through_52 (lv_at hl 1 rfl) ?_
    refine gk_st hx hb hK hP hD hS 8 0 rfl rfl v (by omega) (by omega) dX8_through_54 (fun H locs hP hD hS => ?_)
    have hP : va_P (dC, dI) vwCl [(a 0, .inr (8, [.ref (a 1), .ref (a 2), .ref (a 3), .ref (a 4), .int (nI n), .ref (a 5), .ref (a 6), .ref (a 7), .ref (a 8), .ref (a 9)])), (a 1, .inl (cI, 60, .inl F)), (a 2, .inl (cI, 60, .inl T)), (a 3, .inl (cI, 60, .inl P)), (a 4, .inl (cI, 60, .inl V)), (a 5, .inl (cI, 4, .inl Wt)), (a 6, .inl (cI, 60, .inl (fun j => nI (o j)))), (a 7, .inl (cI, 60, .inl G)), (a 8, .inl (cI, 4, .inl (upd (fun j => nI (updN la v (r + 1) j)) v (nI (la v))))), (a 9, .inl (cI, 759375, .inl R))] H := hP
    have hD : va_D A [(a 0, .inr (8, [.ref (a 1), .ref (a 2), .ref (a 3), .ref (a 4), .int (nI n), .ref (a 5), .ref (a 6), .ref (a 7), .ref (a 8), .ref (a 9)])), (a 1, .inl (cI, 60, .inl F)), (a 2, .inl (cI, 60, .inl T)), (a 3, .inl (cI, 60, .inl P)), (a 4, .inl (cI, 60, .inl V)), (a 5, .inl (cI, 4, .inl Wt)), (a 6, .inl (cI, 60, .inl (fun j => nI (o j)))), (a 7, .inl (cI, 60, .inl G)), (a 8, .inl (cI, 4, .inl (upd (fun j => nI (updN la v (r + 1) j)) v (nI (la v))))), (a 9, .inl (cI, 759375, .inl R))] := hD
    have eR : upd (fun j => nI (updN la v (r + 1) j)) v (nI (la v)) = (fun j => nI (la j)) := by rw [upd_nI, updN_back]
    rw [eR] at hP hD
    have hP : va_P (dC, dI) vwCl [(a 0, .inr (8, [.ref (a 1), .ref (a 2), .ref (a 3), .ref (a 4), .int (nI n), .ref (a 5), .ref (a 6), .ref (a 7), .ref (a 8), .ref (a 9)])), (a 1, .inl (cI, 60, .inl F)), (a 2, .inl (cI, 60, .inl T)), (a 3, .inl (cI, 60, .inl P)), (a 4, .inl (cI, 60, .inl V)), (a 5, .inl (cI, 4, .inl Wt)), (a 6, .inl (cI, 60, .inl (fun j => nI (o j)))), (a 7, .inl (cI, 60, .inl G)), (a 8, .inl (cI, 4, .inl (fun j => nI (la j)))), (a 9, .inl (cI, 759375, .inl R))] H := hP
    have hD : va_D A [(a 0, .inr (8, [.ref (a 1), .ref (a 2), .ref (a 3), .ref (a 4), .int (nI n), .ref (a 5), .ref (a 6), .ref (a 7), .ref (a 8), .ref (a 9)])), (a 1, .inl (cI, 60, .inl F)), (a 2, .inl (cI, 60, .inl T)), (a 3, .inl (cI, 60, .inl P)), (a 4, .inl (cI, 60, .inl V)), (a 5, .inl (cI, 4, .inl Wt)), (a 6, .inl (cI, 60, .inl (fun j => nI (o j)))), (a 7, .inl (cI, 60, .inl G)), (a 8, .inl (cI, 4, .inl (fun j => nI (la j)))), (a 9, .inl (cI, 759375, .inl R))] := hD
    refine lv_iload hx hb dX8_through_55 (lv_at hl 0 rfl) ?_
    refine lv_ldc (v := 2000000000) hx hb hown k_0 dX8_through_57 ?_
    refine lv_icmp_ne (tgt := 67) hx hb dX8_through_59 (by decide) (fun c_4 => ?_) (fun c_4 => ?_)
    · skip
      refine lv_iload_n hx hb dX8_through_67 rfl (lv_at hl 2 rfl) ?_
      refine lv_iload hx hb dX8_through_68 (lv_at hl 0 rfl) ?_
      refine lv_iadd hx hb dX8_through_70 ?_
      exact W.iret (v := (prc F T P Wt o la r v) + (R (plc (r + 1) (updN la v (r + 1))))) hx hb hr (fun t ht hW => ⟨⟨_, (), rfl, (by exact thr_3 (dpn := fun w => R (plc (r + 1) w)) (pr := prc F T P Wt o la r) (la := la) (r := r) (v := v) (by assumption) (by assumption)), by rw [ht]; exact hP, va_K.moved hW.alike hK, hD⟩, hS.F ht⟩) hS.2.2 dX8_through_71
    · skip
      refine lv_ldc (v := 2000000000) hx hb hown k_0 dX8_through_62 ?_
      refine lv_goto (tgt := 71) hx hb dX8_through_64 (by decide) ?_
      exact W.iret (v := 2000000000) hx hb hr (fun t ht hW => ⟨⟨_, (), rfl, (by first | exact thr_1 (dpn := fun w => R (plc (r + 1) w)) (pr := prc F T P Wt o la r) (la := la) (r := r) (v := v) (by assumption) | exact thr_2 (dpn := fun w => R (plc (r + 1) w)) (pr := prc F T P Wt o la r) (la := la) (r := r) (v := v) (by assumption) (by assumption)), by rw [ht]; exact hP, va_K.moved hW.alike hK, hD⟩, hS.F ht⟩) hS.2.2 dX8_through_71
  · skip
    refine lv_ldc (v := 2000000000) hx hb hown k_0 dX8_through_13 ?_
    exact W.iret (v := 2000000000) hx hb hr (fun t ht hW => ⟨⟨_, (), rfl, (by exact thr_1 (dpn := fun w => R (plc (r + 1) w)) (pr := prc F T P Wt o la r) (la := la) (r := r) (v := v) (by assumption)), by rw [ht]; exact hP, va_K.moved hW.alike hK, hD⟩, hS.F ht⟩) hS.2.2 dX8_through_15

set_option maxHeartbeats 1000000 in
set_option maxRecDepth 100000 in
theorem c_X8_leastOf (l : Launch) (dC : Nat → ClassId) (dI : Nat → Nat → Nat) (cI : ClassId) (sz : Nat) (a : Nat → Nat) (n : Nat) (F T P V Wt : Nat → Int32) (o : Nat → Nat) (G : Nat → Int32) (la : Nat → Nat) (R : Nat → Int32) (hn : n ≤ 60) (ho : ∀ j, o j < 60) (hla : ∀ j, la j ≤ 60) (hla4 : ∀ j, la j ≤ 14) (r nv : Nat) (hr0 : r < 14) (hv0 : nv ≤ 4) : Met l yX8_leastOf wsX8_leastOf ({ frames := 3, cells := 0, slots := 0, locals := 73 } : Room) (va_Pc [.ref (a 0), .int (nI r), .int (nI nv)] (fun U => U.heap.size = sz ∧ va_P (dC, dI) vwCl (mW cI a (nI n) F T P V Wt (fun j => nI (o j)) G (fun j => nI (la j)) R) U.heap ∧ va_K (dC, dI) vwCl [(cI, .int)] U ∧ va_D (fun _ => True) (mW cI a (nI n) F T P V Wt (fun j => nI (o j)) G (fun j => nI (la j)) R))) (va_Qi (fun (rr : Int32) (_ : Unit) => rr = (mn (thr (fun w => R (plc (r + 1) w)) (prc F T P Wt o la r) la r) nv).2) (fun u t => va_P (dC, dI) vwCl (mW cI a (nI n) F T P V Wt (fun j => nI (o j)) G (fun j => nI (la j)) R) t.heap ∧ va_K (dC, dI) vwCl [(cI, .int)] t ∧ va_D (va_A (mW cI a (nI n) F T P V Wt (fun j => nI (o j)) G (fun j => nI (la j)) R) sz) (mW cI a (nI n) F T P V Wt (fun j => nI (o j)) G (fun j => nI (la j)) R)) (va_A (mW cI a (nI n) F T P V Wt (fun j => nI (o j)) G (fun j => nI (la j)) R) sz)) 0 0 (va_A (mW cI a (nI n) F T P V Wt (fun j => nI (o j)) G (fun j => nI (la j)) R) sz) := by
  refine Met.ofW (cc := cX8_leastOf) (maxL := 6) (ret := (some .int)) (by decide) rfl ?_
  intro p e s m args below meth c s₁ B hml hv
  obtain ⟨rfl, hsz, hP, hK, hD0⟩ := hv
  have hx := B.exec
  have hb := B.bytes
  have hr := B.returns
  have hts := atoms_spec (ws := wsX8_leastOf) B.pre
  have hown : s.vm.findClass RX8 = some m.cls := findClass_of_methodNamed B.named
  have hlocks := B.notSynchronized
  subst hsz
  have hD := hD0.self (sz := s.heap.size)
  generalize hAe : va_A (mW cI a (nI n) F T P V Wt (fun j => nI (o j)) G (fun j => nI (la j)) R) s.heap.size = A at hD ⊢
  have hA : ∀ q : Nat, s.heap.size ≤ q → A q := fun q h => by rw [← hAe]; exact Or.inr h
  have hS : va_S A s.heap s.heap [] := va_S.rf
  have k_0 := hts (.constant RX8 62 (2000000000)) (by decide +kernel)
  have hl := lv_entry ([.ref (a 0), .int (nI r), .int (nI nv)]) (n := 6) (Nat.le_of_ble_eq_true rfl)
  rw [lg_entry_eq]
  generalize (lg_sl ([.ref (a 0), .int (nI r), .int (nI nv)]) ++ List.replicate (6 - (lg_sl ([.ref (a 0), .int (nI r), .int (nI nv)])).length) Slot.unset).toArray = ls at hl ⊢
  have hl : lv_has ls 6 [(0, .ref (a 0)), (1, .int (nI r)), (2, .int (nI nv))] := hl
  refine lv_ldc (v := 2000000000) hx hb hown k_0 dX8_leastOf_0 ?_
  refine lv_istore_n (lv' := [(3, .int 2000000000), (0, .ref (a 0)), (1, .int (nI r)), (2, .int (nI nv))]) hx hb dX8_leastOf_2 rfl hl (by decide) rfl (fun ls hl => ?_)
  refine lv_iconst (v := 0) hx hb dX8_leastOf_3 (by decide) ?_
  refine lv_istore (lv' := [(4, .int 0), (3, .int 2000000000), (0, .ref (a 0)), (1, .int (nI r)), (2, .int (nI nv))]) hx hb dX8_leastOf_4 hl (by decide) rfl (fun ls hl => ?_)
  have L6 : ∀ (fu : Nat) (v : Nat) (x3 x4 : Int32) (H : Heap) (locs : List Loc) (ls : Array Slot), x3 = (mn (thr (fun w => R (plc (r + 1) w)) (prc F T P Wt o la r) la r) v).2 → x4 = nI v → v ≤ nv → nv - v < fu → va_P (dC, dI) vwCl [(a 0, .inr (8, [.ref (a 1), .ref (a 2), .ref (a 3), .ref (a 4), .int (nI n), .ref (a 5), .ref (a 6), .ref (a 7), .ref (a 8), .ref (a 9)])), (a 1, .inl (cI, 60, .inl F)), (a 2, .inl (cI, 60, .inl T)), (a 3, .inl (cI, 60, .inl P)), (a 4, .inl (cI, 60, .inl V)), (a 5, .inl (cI, 4, .inl Wt)), (a 6, .inl (cI, 60, .inl (fun j => nI (o j)))), (a 7, .inl (cI, 60, .inl G)), (a 8, .inl (cI, 4, .inl (fun j => nI (la j)))), (a 9, .inl (cI, 759375, .inl R))] H → va_D A [(a 0, .inr (8, [.ref (a 1), .ref (a 2), .ref (a 3), .ref (a 4), .int (nI n), .ref (a 5), .ref (a 6), .ref (a 7), .ref (a 8), .ref (a 9)])), (a 1, .inl (cI, 60, .inl F)), (a 2, .inl (cI, 60, .inl T)), (a 3, .inl (cI, 60, .inl P)), (a 4, .inl (cI, 60, .inl V)), (a 5, .inl (cI, 4, .inl Wt)), (a 6, .inl (cI, 60, .inl (fun j => nI (o j)))), (a 7, .inl (cI, 60, .inl G)), (a 8, .inl (cI, 4, .inl (fun j => nI (la j)))), (a 9, .inl (cI, 759375, .inl R))] → va_S A s.heap H locs → lv_has ls 6 [(0, .ref (a 0)), (1, .int (nI r)), (2, .int (nI nv)), (3, .int x3), (4, .int x4)] → W p l e (headSpec wsX8_leastOf ({ frames := 3, cells := 0, slots := 0, locals := 73 } : Room)).room s m [.ref (a 0), .int (nI r), .int (nI nv)].toArray below meth c H locs 0 0 (MQ below (va_Qi (fun (rr : Int32) (_ : Unit) => rr = (mn (thr (fun w => R (plc (r + 1) w)) (prc F T P Wt o la r) la r) nv).2) (fun u t => va_P (dC, dI) vwCl (mW cI a (nI n) F T P V Wt (fun j => nI (o j)) G (fun j => nI (la j)) R) t.heap ∧ va_K (dC, dI) vwCl [(cI, .int)] t ∧ va_D A (mW cI a (nI n) F T P V Wt (fun j => nI (o j)) G (fun j => nI (la j)) R)) A) [.ref (a 0), .int (nI r), .int (nI nv)].toArray s 0 0 A) (F0 m 6 ls []) := by
    intro fu
    induction fu with
    | zero =>
      intro v x3 x4 H locs ls e3 e4 hv1 hfu6 hP hD hS hl
      exact absurd hfu6 (Nat.not_lt_zero _)
    | succ fu ih6 =>
      intro v x3 x4 H locs ls e3 e4 hv1 hfu6 hP hD hS hl
      subst e3
      subst e4
      refine lv_iload hx hb dX8_leastOf_6 (lv_at hl 4 rfl) ?_
      refine lv_iload_n hx hb dX8_leastOf_8 rfl (lv_at hl 2 rfl) ?_
      refine lv_icmp_ge (tgt := 40) hx hb dX8_leastOf_9 (by decide) (fun c_1 => ?_) (fun c_1 => ?_)
      · skip
        have c_1 : v ≥ nv := gk_geT (a := v) (b := nv) (by first | omega | exact Nat.lt_trans (ho _) (by decide) | exact Nat.lt_of_le_of_lt atN_le (by omega) | exact Nat.lt_of_le_of_lt szN_le (by omega) | exact Nat.lt_of_le_of_lt clM_le (by omega) | exact Nat.lt_of_le_of_lt rkN_le (by omega) | exact Nat.lt_of_le_of_lt (cnt_le _ _) (by omega)) (by first | omega | exact Nat.lt_trans (ho _) (by decide) | exact Nat.lt_of_le_of_lt atN_le (by omega) | exact Nat.lt_of_le_of_lt szN_le (by omega) | exact Nat.lt_of_le_of_lt clM_le (by omega) | exact Nat.lt_of_le_of_lt rkN_le (by omega) | exact Nat.lt_of_le_of_lt (cnt_le _ _) (by omega)) c_1
        refine lv_iload_n hx hb dX8_leastOf_40 rfl (lv_at hl 3 rfl) ?_
        exact W.iret (v := (mn (thr (fun w => R (plc (r + 1) w)) (prc F T P Wt o la r) la r) v).2) hx hb hr (fun t ht hW => ⟨⟨_, (), rfl, (by (obtain rfl : v = nv := by omega); rfl), by rw [ht]; exact hP, va_K.moved hW.alike hK, hD⟩, hS.F ht⟩) hS.2.2 dX8_leastOf_41
      · skip
        have c_1 : v < nv := gk_geF (a := v) (b := nv) (by first | omega | exact Nat.lt_trans (ho _) (by decide) | exact Nat.lt_of_le_of_lt atN_le (by omega) | exact Nat.lt_of_le_of_lt szN_le (by omega) | exact Nat.lt_of_le_of_lt clM_le (by omega) | exact Nat.lt_of_le_of_lt rkN_le (by omega) | exact Nat.lt_of_le_of_lt (cnt_le _ _) (by omega)) (by first | omega | exact Nat.lt_trans (ho _) (by decide) | exact Nat.lt_of_le_of_lt atN_le (by omega) | exact Nat.lt_of_le_of_lt szN_le (by omega) | exact Nat.lt_of_le_of_lt clM_le (by omega) | exact Nat.lt_of_le_of_lt rkN_le (by omega) | exact Nat.lt_of_le_of_lt (cnt_le _ _) (by omega)) c_1
        refine lv_aload_n hx hb dX8_leastOf_12 rfl (lv_at hl 0 rfl) ?_
        refine lv_iload_n hx hb dX8_leastOf_13 rfl (lv_at hl 1 rfl) ?_
        refine lv_iload hx hb dX8_leastOf_14 (lv_at hl 4 rfl) ?_
        have hPc := hP.sub (ws' := [(a 0, .inr (8, [.ref (a 1), .ref (a 2), .ref (a 3), .ref (a 4), .int (nI n), .ref (a 5), .ref (a 6), .ref (a 7), .ref (a 8), .ref (a 9)])), (a 1, .inl (cI, 60, .inl F)), (a 2, .inl (cI, 60, .inl T)), (a 3, .inl (cI, 60, .inl P)), (a 4, .inl (cI, 60, .inl V)), (a 5, .inl (cI, 4, .inl Wt)), (a 6, .inl (cI, 60, .inl (fun j => nI (o j)))), (a 7, .inl (cI, 60, .inl G)), (a 8, .inl (cI, 4, .inl (fun j => nI (la j)))), (a 9, .inl (cI, 759375, .inl R))]) [0, 1, 2, 3, 4, 5, 6, 7, 8, 9] rfl
        have hDc := hD.sub (ws' := [(a 0, .inr (8, [.ref (a 1), .ref (a 2), .ref (a 3), .ref (a 4), .int (nI n), .ref (a 5), .ref (a 6), .ref (a 7), .ref (a 8), .ref (a 9)])), (a 1, .inl (cI, 60, .inl F)), (a 2, .inl (cI, 60, .inl T)), (a 3, .inl (cI, 60, .inl P)), (a 4, .inl (cI, 60, .inl V)), (a 5, .inl (cI, 4, .inl Wt)), (a 6, .inl (cI, 60, .inl (fun j => nI (o j)))), (a 7, .inl (cI, 60, .inl G)), (a 8, .inl (cI, 4, .inl (fun j => nI (la j)))), (a 9, .inl (cI, 759375, .inl R))]) [0, 1, 2, 3, 4, 5, 6, 7, 8, 9] (by decide) rfl
        have hFc := va_free (wc := [(a 0, .inr (8, [.ref (a 1), .ref (a 2), .ref (a 3), .ref (a 4), .int (nI n), .ref (a 5), .ref (a 6), .ref (a 7), .ref (a 8), .ref (a 9)])), (a 1, .inl (cI, 60, .inl F)), (a 2, .inl (cI, 60, .inl T)), (a 3, .inl (cI, 60, .inl P)), (a 4, .inl (cI, 60, .inl V)), (a 5, .inl (cI, 4, .inl Wt)), (a 6, .inl (cI, 60, .inl (fun j => nI (o j)))), (a 7, .inl (cI, 60, .inl G)), (a 8, .inl (cI, 4, .inl (fun j => nI (la j)))), (a 9, .inl (cI, 759375, .inl R))]) hD hS hA [0, 1, 2, 3, 4, 5, 6, 7, 8, 9] rfl
        refine va_calli (va_runV (As := [.int (nI r), .int (nI v)]) (rest := []) ⟨hx, hb, hml, hown, hts⟩ (c_X8_through l dC dI cI H.size a n F T P V Wt o G la R hn ho hla hla4 r v hr0 (by omega)) (cwV 2 hts gX8_leastOf_X8_through rfl rfl rfl (by decide +kernel) ⟨Nat.le_of_ble_eq_true rfl, Nat.le_of_ble_eq_true rfl⟩) ⟨gk_fbW, va_recv hK hPc (ci := 8) (q0 := 0) rfl rfl, fun U hU hW => ⟨rfl, by rw [hU], by rw [hU]; exact hPc, va_K.moved hW.alike hK, hDc.weaken (fun _ _ _ _ => trivial)⟩⟩ rfl rfl hl.1 rfl (lv_room (Nat.le_of_ble_eq_true rfl)) dX8_leastOf_16 ⟨Nat.zero_le _, Nat.zero_le _⟩) hS (fun q _ h => hFc q h) hFc (fun r_2 u t H1 locs ht hvm hw hB hz1 hk1 hS => ?_)
        obtain ⟨hP1, hK1, hD1⟩ := hB
        rw [ht] at hP1
        try dsimp only at hw
        obtain ⟨hP, hD⟩ := va_join (wr := []) (w1 := [(a 0, .inr (8, [.ref (a 1), .ref (a 2), .ref (a 3), .ref (a 4), .int (nI n), .ref (a 5), .ref (a 6), .ref (a 7), .ref (a 8), .ref (a 9)])), (a 1, .inl (cI, 60, .inl F)), (a 2, .inl (cI, 60, .inl T)), (a 3, .inl (cI, 60, .inl P)), (a 4, .inl (cI, 60, .inl V)), (a 5, .inl (cI, 4, .inl Wt)), (a 6, .inl (cI, 60, .inl (fun j => nI (o j)))), (a 7, .inl (cI, 60, .inl G)), (a 8, .inl (cI, 4, .inl (fun j => nI (la j)))), (a 9, .inl (cI, 759375, .inl R))]) hP hD [0, 1, 2, 3, 4, 5, 6, 7, 8, 9] [] rfl rfl (by decide) (by decide) hk1 hFc hP1 hD1
        generalize H1 = H at hP hS ⊢
        have hP : va_P (dC, dI) vwCl [(a 0, .inr (8, [.ref (a 1), .ref (a 2), .ref (a 3), .ref (a 4), .int (nI n), .ref (a 5), .ref (a 6), .ref (a 7), .ref (a 8), .ref (a 9)])), (a 1, .inl (cI, 60, .inl F)), (a 2, .inl (cI, 60, .inl T)), (a 3, .inl (cI, 60, .inl P)), (a 4, .inl (cI, 60, .inl V)), (a 5, .inl (cI, 4, .inl Wt)), (a 6, .inl (cI, 60, .inl (fun j => nI (o j)))), (a 7, .inl (cI, 60, .inl G)), (a 8, .inl (cI, 4, .inl (fun j => nI (la j)))), (a 9, .inl (cI, 759375, .inl R))] H := hP
        have hD : va_D A [(a 0, .inr (8, [.ref (a 1), .ref (a 2), .ref (a 3), .ref (a 4), .int (nI n), .ref (a 5), .ref (a 6), .ref (a 7), .ref (a 8), .ref (a 9)])), (a 1, .inl (cI, 60, .inl F)), (a 2, .inl (cI, 60, .inl T)), (a 3, .inl (cI, 60, .inl P)), (a 4, .inl (cI, 60, .inl V)), (a 5, .inl (cI, 4, .inl Wt)), (a 6, .inl (cI, 60, .inl (fun j => nI (o j)))), (a 7, .inl (cI, 60, .inl G)), (a 8, .inl (cI, 4, .inl (fun j => nI (la j)))), (a 9, .inl (cI, 759375, .inl R))] := hD
        subst hw
        refine lv_istore (lv' := [(5, .int (thr (fun w => R (plc (r + 1) w)) (prc F T P Wt o la r) la r v)), (0, .ref (a 0)), (1, .int (nI r)), (2, .int (nI nv)), (3, .int ((mn (thr (fun w => R (plc (r + 1) w)) (prc F T P Wt o la r) la r) v).2)), (4, .int (nI v))]) hx hb dX8_leastOf_19 hl (by decide) rfl (fun ls hl => ?_)
        refine lv_iload hx hb dX8_leastOf_21 (lv_at hl 0 rfl) ?_
        refine lv_iload_n hx hb dX8_leastOf_23 rfl (lv_at hl 4 rfl) ?_
        refine lv_icmp_ge (tgt := 32) hx hb dX8_leastOf_24 (by decide) (fun c_3 => ?_) (fun c_3 => ?_)
        · skip
          refine lv_iload_n hx hb dX8_leastOf_32 rfl (lv_at hl 4 rfl) ?_
          refine lv_istore_n (lv' := [(3, .int ((mn (thr (fun w => R (plc (r + 1) w)) (prc F T P Wt o la r) la r) v).2)), (5, .int (thr (fun w => R (plc (r + 1) w)) (prc F T P Wt o la r) la r v)), (0, .ref (a 0)), (1, .int (nI r)), (2, .int (nI nv)), (4, .int (nI v))]) hx hb dX8_leastOf_33 rfl hl (by decide) rfl (fun ls hl => ?_)
          refine lv_iinc (v := nI (v + 1)) (lv' := [(4, .int (nI (v + 1))), (3, .int ((mn (thr (fun w => R (plc (r + 1) w)) (prc F T P Wt o la r) la r) v).2)), (5, .int (thr (fun w => R (plc (r + 1) w)) (prc F T P Wt o la r) la r v)), (0, .ref (a 0)), (1, .int (nI r)), (2, .int (nI nv))]) hx hb dX8_leastOf_34 hl (k := 5) rfl (gk_inc1 _) (by decide) rfl (fun ls hl => ?_)
          refine lv_goto (tgt := 6) hx hb dX8_leastOf_37 (by decide) ?_
          exact ih6 (v + 1) _ _ _ _ ls (by rw [mn_n (Int32.not_lt.mpr (by assumption))]) (by rfl) (by omega) (by omega) hP hD hS (lv_sub hl [3, 4, 5, 1, 0] rfl)
        · skip
          refine lv_iload hx hb dX8_leastOf_27 (lv_at hl 0 rfl) ?_
          refine lv_goto (tgt := 33) hx hb dX8_leastOf_29 (by decide) ?_
          refine lv_istore_n (lv' := [(3, .int (thr (fun w => R (plc (r + 1) w)) (prc F T P Wt o la r) la r v)), (5, .int (thr (fun w => R (plc (r + 1) w)) (prc F T P Wt o la r) la r v)), (0, .ref (a 0)), (1, .int (nI r)), (2, .int (nI nv)), (4, .int (nI v))]) hx hb dX8_leastOf_33 rfl hl (by decide) rfl (fun ls hl => ?_)
          refine lv_iinc (v := nI (v + 1)) (lv' := [(4, .int (nI (v + 1))), (3, .int (thr (fun w => R (plc (r + 1) w)) (prc F T P Wt o la r) la r v)), (5, .int (thr (fun w => R (plc (r + 1) w)) (prc F T P Wt o la r) la r v)), (0, .ref (a 0)), (1, .int (nI r)), (2, .int (nI nv))]) hx hb dX8_leastOf_34 hl (k := 5) rfl (gk_inc1 _) (by decide) rfl (fun ls hl => ?_)
          refine lv_goto (tgt := 6) hx hb dX8_leastOf_37 (by decide) ?_
          exact ih6 (v + 1) _ _ _ _ ls (by rw [mn_y (Int32.not_le.mp (by assumption))]) (by rfl) (by omega) (by omega) hP hD hS (lv_sub hl [3, 4, 5, 1, 0] rfl)
  exact L6 ((nv) + 1) 0 _ _ _ _ ls (by rfl) (by rfl) (by omega) (by omega) hP hD hS (lv_sub hl [2, 3, 4, 1, 0] rfl)
