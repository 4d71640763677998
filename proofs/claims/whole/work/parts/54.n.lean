theorem nv_of {x : Int32} (h : 1 ≤ x ∧ x ≤ 4) : ∃ nv, 1 ≤ nv ∧ nv ≤ 4 ∧ x = nI nv := by
  obtain ⟨j, hj, rfl⟩ := nI_of (x := x) (by rw [Int32.not_lt, Int32.le_iff_toInt_le]; have := Int32.le_iff_toInt_le.mp h.1; rw [tI1] at this; rw [tI0]; omega)
  have h1 := Int32.le_iff_toInt_le.mp h.1
  have h2 := Int32.le_iff_toInt_le.mp h.2
  rw [nI_toInt hj, tI1] at h1
  rw [nI_toInt hj, tI4] at h2
  exact ⟨j, by omega, by omega, rfl⟩
theorem nv_no {x : Int32} {nv : Nat} (h1 : 1 ≤ nv) (h4 : nv ≤ 4) (e : x = nI nv) : 1 ≤ x ∧ x ≤ 4 := by
  rw [e, Int32.le_iff_toInt_le, Int32.le_iff_toInt_le, nI_toInt (by omega), tI1, tI4]
  omega
theorem nv_eq {x : Int32} {nv nw : Nat} (h4 : nv ≤ 4) (h5 : nw ≤ 4) (e : x = nI nv) (e2 : x = nI nw) : nw = nv := (nI_eq (by omega) (by omega)).mp (e2.symm.trans e)
set_option maxHeartbeats 1000000 in
set_option maxRecDepth 100000 in
theorem c_X8_give (l : Launch) (dC : Nat → ClassId) (dI : Nat → Nat → Nat) (cI : ClassId) (sz : Nat) (a : Nat → Nat) (n : Nat) (F T P V Wt : Nat → Int32) (o : Nat → Nat) (G L R : Nat → Int32) (hn : n ≤ 60) (ho : ∀ j, o j < 60) (hp : prm n o) : Met l yX8_give wsX8_give ({ frames := 0, cells := 0, slots := 0, locals := 0 } : Room) (va_Pc [.ref (a 0)] (fun U => U.heap.size = sz ∧ va_P (dC, dI) vwCl (mW cI a (nI n) F T P V Wt (fun j => nI (o j)) G L R) U.heap ∧ va_K (dC, dI) vwCl [(cI, .int)] U ∧ va_D (fun _ => True) (mW cI a (nI n) F T P V Wt (fun j => nI (o j)) G L R))) (va_Qv (fun V1 : Nat → Int32 => (∀ j, j < n → V1 (o j) = G j) ∧ (∀ j, n ≤ j → V1 j = V j)) (fun V1 t => va_P (dC, dI) vwCl (mW cI a (nI n) F T P V1 Wt (fun j => nI (o j)) G L R) t.heap ∧ va_K (dC, dI) vwCl [(cI, .int)] t ∧ va_D (va_A (mW cI a (nI n) F T P V Wt (fun j => nI (o j)) G L R) sz) (mW cI a (nI n) F T P V1 Wt (fun j => nI (o j)) G L R)) (va_A (mW cI a (nI n) F T P V Wt (fun j => nI (o j)) G L R) sz)) 0 0 (va_A (mW cI a (nI n) F T P V Wt (fun j => nI (o j)) G L R) sz) := by
  refine Met.ofW (cc := cX8_give) (maxL := 2) (ret := none) (by decide) rfl ?_
  intro p e s m args below meth c s₁ B hml hv
  obtain ⟨rfl, hsz, hP, hK, hD0⟩ := hv
  have hx := B.exec
  have hb := B.bytes
  have hr := B.returns
  have hts := atoms_spec (ws := wsX8_give) B.pre
  have hown : s.vm.findClass RX8 = some m.cls := findClass_of_methodNamed B.named
  have hlocks := B.notSynchronized
  subst hsz
  have hD := hD0.self (sz := s.heap.size)
  generalize hAe : va_A (mW cI a (nI n) F T P V Wt (fun j => nI (o j)) G L R) s.heap.size = A at hD ⊢
  have hA : ∀ q : Nat, s.heap.size ≤ q → A q := fun q h => by rw [← hAe]; exact Or.inr h
  have hS : va_S A s.heap s.heap [] := va_S.rf
  have i_X8 : ∀ w ∈ u_ws RX8 TX8 10, w ∈ wsX8_give := by decide +kernel
  have k_0 := hts (.fieldLink RX8 38 "VoiceRowsModel" "notes" "I") (by decide +kernel)
  have k_1 := hts (.fieldLink RX8 19 "VoiceRowsModel" "voice" "[I") (by decide +kernel)
  have k_2 := hts (.fieldLink RX8 25 "VoiceRowsModel" "order" "[I") (by decide +kernel)
  have k_3 := hts (.fieldLink RX8 28 "VoiceRowsModel" "given" "[I") (by decide +kernel)
  have hl := lv_entry ([.ref (a 0)]) (n := 2) (Nat.le_of_ble_eq_true rfl)
  rw [lg_entry_eq]
  generalize (lg_sl ([.ref (a 0)]) ++ List.replicate (2 - (lg_sl ([.ref (a 0)])).length) Slot.unset).toArray = ls at hl ⊢
  have hl : lv_has ls 2 [(0, .ref (a 0))] := hl
  refine lv_iconst (v := 0) hx hb dX8_give_0 (by decide) ?_
  refine lv_istore_n (lv' := [(1, .int 0), (0, .ref (a 0))]) hx hb dX8_give_1 rfl hl (by decide) rfl (fun ls hl => ?_)
  have L2 : ∀ (fu : Nat) (r : Nat) (x1 : Int32) (V1 : Nat → Int32) (H : Heap) (locs : List Loc) (ls : Array Slot), x1 = nI r → r ≤ n → (∀ j, j < r → V1 (o j) = G j) → (∀ j, n ≤ j → V1 j = V j) → n - r < fu → va_P (dC, dI) vwCl [(a 0, .inr (8, [.ref (a 1), .ref (a 2), .ref (a 3), .ref (a 4), .int (nI n), .ref (a 5), .ref (a 6), .ref (a 7), .ref (a 8), .ref (a 9)])), (a 1, .inl (cI, 60, .inl F)), (a 2, .inl (cI, 60, .inl T)), (a 3, .inl (cI, 60, .inl P)), (a 4, .inl (cI, 60, .inl V1)), (a 5, .inl (cI, 4, .inl Wt)), (a 6, .inl (cI, 60, .inl (fun j => nI (o j)))), (a 7, .inl (cI, 60, .inl G)), (a 8, .inl (cI, 4, .inl L)), (a 9, .inl (cI, 759375, .inl R))] H → va_D A [(a 0, .inr (8, [.ref (a 1), .ref (a 2), .ref (a 3), .ref (a 4), .int (nI n), .ref (a 5), .ref (a 6), .ref (a 7), .ref (a 8), .ref (a 9)])), (a 1, .inl (cI, 60, .inl F)), (a 2, .inl (cI, 60, .inl T)), (a 3, .inl (cI, 60, .inl P)), (a 4, .inl (cI, 60, .inl V1)), (a 5, .inl (cI, 4, .inl Wt)), (a 6, .inl (cI, 60, .inl (fun j => nI (o j)))), (a 7, .inl (cI, 60, .inl G)), (a 8, .inl (cI, 4, .inl L)), (a 9, .inl (cI, 759375, .inl R))] → va_S A s.heap H locs → lv_has ls 2 [(0, .ref (a 0)), (1, .int x1)] → W p l e (headSpec wsX8_give ({ frames := 0, cells := 0, slots := 0, locals := 0 } : Room)).room s m [.ref (a 0)].toArray below meth c H locs 0 0 (MQ below (va_Qv (fun V1 : Nat → Int32 => (∀ j, j < n → V1 (o j) = G j) ∧ (∀ j, n ≤ j → V1 j = V j)) (fun V1 t => va_P (dC, dI) vwCl (mW cI a (nI n) F T P V1 Wt (fun j => nI (o j)) G L R) t.heap ∧ va_K (dC, dI) vwCl [(cI, .int)] t ∧ va_D A (mW cI a (nI n) F T P V1 Wt (fun j => nI (o j)) G L R)) A) [.ref (a 0)].toArray s 0 0 A) (F0 m 2 ls []) := by
    intro fu
    induction fu with
    | zero =>
      intro r x1 V1 H locs ls e1 hr1 hg1 hg2 hfu2 hP hD hS hl
      exact absurd hfu2 (Nat.not_lt_zero _)
    | succ fu ih2 =>
      intro r x1 V1 H locs ls e1 hr1 hg1 hg2 hfu2 hP hD hS hl
      subst e1
      refine lv_iload_n hx hb dX8_give_2 rfl (lv_at hl 1 rfl) ?_
      refine lv_aload_n hx hb dX8_give_3 rfl (lv_at hl 0 rfl) ?_
      refine va_get (D := (dC, dI)) (ci := 8) (v := .int (nI n)) (C := RX8) (T := TX8) (N := 10) hx hb hts i_X8 hown hK hP 0 rfl rfl 4 (by decide) k_0 (fun _ h9 => h9) rfl dX8_give_4 ?_
      refine lv_icmp_ge (tgt := 33) hx hb dX8_give_7 (by decide) (fun c_1 => ?_) (fun c_1 => ?_)
      · skip
        have c_1 : r ≥ n := gk_geT (a := r) (b := n) (by first | omega | exact Nat.lt_trans (ho _) (by decide) | exact Nat.lt_of_le_of_lt atN_le (by omega) | exact Nat.lt_of_le_of_lt szN_le (by omega) | exact Nat.lt_of_le_of_lt clM_le (by omega) | exact Nat.lt_of_le_of_lt rkN_le (by omega) | exact Nat.lt_of_le_of_lt (cnt_le _ _) (by omega)) (by first | omega | exact Nat.lt_trans (ho _) (by decide) | exact Nat.lt_of_le_of_lt atN_le (by omega) | exact Nat.lt_of_le_of_lt szN_le (by omega) | exact Nat.lt_of_le_of_lt clM_le (by omega) | exact Nat.lt_of_le_of_lt rkN_le (by omega) | exact Nat.lt_of_le_of_lt (cnt_le _ _) (by omega)) c_1
        exact W.vret hx hb hr (fun t ht hW => ⟨⟨V1, rfl, (by exact ⟨fun j hj => hg1 j (by omega), hg2⟩), by rw [ht]; exact hP, va_K.moved hW.alike hK, hD⟩, hS.F ht⟩) hS.2.2 dX8_give_33
      · skip
        have c_1 : r < n := gk_geF (a := r) (b := n) (by first | omega | exact Nat.lt_trans (ho _) (by decide) | exact Nat.lt_of_le_of_lt atN_le (by omega) | exact Nat.lt_of_le_of_lt szN_le (by omega) | exact Nat.lt_of_le_of_lt clM_le (by omega) | exact Nat.lt_of_le_of_lt rkN_le (by omega) | exact Nat.lt_of_le_of_lt (cnt_le _ _) (by omega)) (by first | omega | exact Nat.lt_trans (ho _) (by decide) | exact Nat.lt_of_le_of_lt atN_le (by omega) | exact Nat.lt_of_le_of_lt szN_le (by omega) | exact Nat.lt_of_le_of_lt clM_le (by omega) | exact Nat.lt_of_le_of_lt rkN_le (by omega) | exact Nat.lt_of_le_of_lt (cnt_le _ _) (by omega)) c_1
        refine lv_aload_n hx hb dX8_give_10 rfl (lv_at hl 0 rfl) ?_
        refine va_get (D := (dC, dI)) (ci := 8) (v := .ref (a 4)) (C := RX8) (T := TX8) (N := 10) hx hb hts i_X8 hown hK hP 0 rfl rfl 3 (by decide) k_1 (fun _ h9 => h9) rfl dX8_give_11 ?_
        refine lv_aload_n hx hb dX8_give_14 rfl (lv_at hl 0 rfl) ?_
        refine va_get (D := (dC, dI)) (ci := 8) (v := .ref (a 6)) (C := RX8) (T := TX8) (N := 10) hx hb hts i_X8 hown hK hP 0 rfl rfl 6 (by decide) k_2 (fun _ h9 => h9) rfl dX8_give_15 ?_
        refine lv_iload_n hx hb dX8_give_18 rfl (lv_at hl 1 rfl) ?_
        refine gk_ld hx hb hK hP 6 0 rfl rfl r (by omega) (by omega) (v := nI (o r)) (rfl) dX8_give_19 ?_
        refine lv_aload_n hx hb dX8_give_20 rfl (lv_at hl 0 rfl) ?_
        refine va_get (D := (dC, dI)) (ci := 8) (v := .ref (a 7)) (C := RX8) (T := TX8) (N := 10) hx hb hts i_X8 hown hK hP 0 rfl rfl 7 (by decide) k_3 (fun _ h9 => h9) rfl dX8_give_21 ?_
        refine lv_iload_n hx hb dX8_give_24 rfl (lv_at hl 1 rfl) ?_
        refine gk_ld hx hb hK hP 7 0 rfl rfl r (by omega) (by omega) (v := G r) (rfl) dX8_give_25 ?_
        refine gk_st hx hb hK hP hD hS 4 0 rfl rfl (o r) (ho _) (by omega) dX8_give_26 (fun H locs hP hD hS => ?_)
        have hP : va_P (dC, dI) vwCl [(a 0, .inr (8, [.ref (a 1), .ref (a 2), .ref (a 3), .ref (a 4), .int (nI n), .ref (a 5), .ref (a 6), .ref (a 7), .ref (a 8), .ref (a 9)])), (a 1, .inl (cI, 60, .inl F)), (a 2, .inl (cI, 60, .inl T)), (a 3, .inl (cI, 60, .inl P)), (a 4, .inl (cI, 60, .inl (upd V1 (o r) (G r)))), (a 5, .inl (cI, 4, .inl Wt)), (a 6, .inl (cI, 60, .inl (fun j => nI (o j)))), (a 7, .inl (cI, 60, .inl G)), (a 8, .inl (cI, 4, .inl L)), (a 9, .inl (cI, 759375, .inl R))] H := hP
        have hD : va_D A [(a 0, .inr (8, [.ref (a 1), .ref (a 2), .ref (a 3), .ref (a 4), .int (nI n), .ref (a 5), .ref (a 6), .ref (a 7), .ref (a 8), .ref (a 9)])), (a 1, .inl (cI, 60, .inl F)), (a 2, .inl (cI, 60, .inl T)), (a 3, .inl (cI, 60, .inl P)), (a 4, .inl (cI, 60, .inl (upd V1 (o r) (G r)))), (a 5, .inl (cI, 4, .inl Wt)), (a 6, .inl (cI, 60, .inl (fun j => nI (o j)))), (a 7, .inl (cI, 60, .inl G)), (a 8, .inl (cI, 4, .inl L)), (a 9, .inl (cI, 759375, .inl R))] := hD
        refine lv_iinc (v := nI (r + 1)) (lv' := [(1, .int (nI (r + 1))), (0, .ref (a 0))]) hx hb dX8_give_27 hl (k := 1) rfl (gk_inc1 _) (by decide) rfl (fun ls hl => ?_)
        refine lv_goto (tgt := 2) hx hb dX8_give_30 (by decide) ?_
        exact ih2 (r + 1) _ _ _ _ ls (by rfl) (by omega) (by first | exact fun j hj => absurd hj (Nat.not_lt_zero j) | exact give_step hp (by omega) hg1) (by first | exact fun _ _ => rfl | exact give_keep hp (by omega) hg2) (by omega) hP hD hS (lv_sub hl [1, 0] rfl)
  exact L2 ((n) + 1) 0 _ _ _ _ ls (by rfl) (by omega) (by first | exact fun j hj => absurd hj (Nat.not_lt_zero j) | exact give_step hp (by omega) hg1) (by first | exact fun _ _ => rfl | exact give_keep hp (by omega) hg2) (by omega) hP hD hS (lv_sub hl [1, 0] rfl)

set_option maxHeartbeats 1000000 in
set_option maxRecDepth 100000 in
theorem c_X7_along (l : Launch) (dC : Nat → ClassId) (dI : Nat → Nat → Nat) (cI : ClassId) (sz : Nat) (b : Nat → Nat) (n : Nat) (F T P V : Nat → Int32) (o kr : Nat → Nat) (Wt : Nat → Int32) (rc : Int32) (RB RE : Nat → Int32) (p1 p2 : Int32) (LA : Nat → Int32) (vs : Int32) (PL : Nat → Int32) (kn kl : Nat) (KN CH : Nat → Int32) (hn : n ≤ 60) (ho : ∀ j, o j < 60) (hp : prm n o) (x : Int32) : Met l yX7_along wsX7_along ({ frames := 4, cells := 0, slots := 0, locals := 101 } : Room) (va_Pc [.ref (b 0), .int x] (fun U => U.heap.size = sz ∧ va_P (dC, dI) vwCl (xW cI b (nI n) F T P V (fun j => nI (o j)) (fun j => nI (kr j)) Wt rc RB RE p1 p2 LA vs PL kn kl KN CH) U.heap ∧ va_K (dC, dI) vwCl [(cI, .int)] U ∧ va_D (fun _ => True) (xW cI b (nI n) F T P V (fun j => nI (o j)) (fun j => nI (kr j)) Wt rc RB RE p1 p2 LA vs PL kn kl KN CH))) (va_Qi (fun (rr : Int32) (u : SS × XJ) => ∃ V1 LA1 CH1 : Nat → Int32, u = ((n, F, T, P, V1, Wt, o), (kr, rc, RB, RE, p1, p2, LA1, vs, PL, kn, kl, KN, CH1)) ∧ (¬ (1 ≤ x ∧ x ≤ 4) → rr = -2 ∧ V1 = V) ∧ (∀ nv, 1 ≤ nv → nv ≤ 4 → x = nI nv → (rr = 1 ∧ (∀ j, j < n → chG F T P Wt o nv j ≠ 0) ∧ (∀ j, j < n → V1 (o j) = nI (chG F T P Wt o nv j - 1)) ∧ (∀ j, n ≤ j → V1 j = V j)) ∨ (rr = -1 ∧ (∃ r, r < n ∧ chG F T P Wt o nv r = 0 ∧ ∀ j, j < r → chG F T P Wt o nv j ≠ 0) ∧ V1 = V))) (fun u t => va_P (dC, dI) vwCl (xWu cI b u.1 u.2) t.heap ∧ va_K (dC, dI) vwCl [(cI, .int)] t ∧ va_D (va_A (xW cI b (nI n) F T P V (fun j => nI (o j)) (fun j => nI (kr j)) Wt rc RB RE p1 p2 LA vs PL kn kl KN CH) sz) (xWu cI b u.1 u.2)) (va_A (xW cI b (nI n) F T P V (fun j => nI (o j)) (fun j => nI (kr j)) Wt rc RB RE p1 p2 LA vs PL kn kl KN CH) sz)) 0 0 (va_A (xW cI b (nI n) F T P V (fun j => nI (o j)) (fun j => nI (kr j)) Wt rc RB RE p1 p2 LA vs PL kn kl KN CH) sz) := by
  refine Met.ofW (cc := cX7_along) (maxL := 2) (ret := (some .int)) (by decide) rfl ?_
  intro p e s m args below meth c s₁ B hml hv
  obtain ⟨rfl, hsz, hP, hK, hD0⟩ := hv
  have hx := B.exec
  have hb := B.bytes
  have hr := B.returns
  have hts := atoms_spec (ws := wsX7_along) B.pre
  have hown : s.vm.findClass RX7 = some m.cls := findClass_of_methodNamed B.named
  have hlocks := B.notSynchronized
  subst hsz
  have hD := hD0.self (sz := s.heap.size)
  generalize hAe : va_A (xW cI b (nI n) F T P V (fun j => nI (o j)) (fun j => nI (kr j)) Wt rc RB RE p1 p2 LA vs PL kn kl KN CH) s.heap.size = A at hD ⊢
  have hA : ∀ q : Nat, s.heap.size ≤ q → A q := fun q h => by rw [← hAe]; exact Or.inr h
  have hS : va_S A s.heap s.heap [] := va_S.rf
  have i_X7 : ∀ w ∈ u_ws RX7 TX7 7, w ∈ wsX7_along := by decide +kernel
  have k_0 := hts (.fieldLink RX7 70 "VoiceRows" "goer" "LVoiceRows$Goer;") (by decide +kernel)
  have hl := lv_entry ([.ref (b 0), .int x]) (n := 2) (Nat.le_of_ble_eq_true rfl)
  rw [lg_entry_eq]
  generalize (lg_sl ([.ref (b 0), .int x]) ++ List.replicate (2 - (lg_sl ([.ref (b 0), .int x])).length) Slot.unset).toArray = ls at hl ⊢
  have hl : lv_has ls 2 [(0, .ref (b 0)), (1, .int x)] := hl
  refine lv_iload_n hx hb dX7_along_0 rfl (lv_at hl 1 rfl) ?_
  refine lv_iconst (v := 1) hx hb dX7_along_1 (by decide) ?_
  refine lv_iconst (v := 4) hx hb dX7_along_2 (by decide) ?_
  refine vp_callSi (gk_run (va_runS (As := [.int x, .int 1, .int 4]) (rest := []) ⟨hx, hb, hml, hown, hts⟩ (c_X7_within l x 1 4) (gk_cwS 3 hts gX7_along_X7_within rfl rfl rfl (by decide +kernel) ⟨Nat.le_of_ble_eq_true rfl, Nat.le_of_ble_eq_true rfl⟩) ⟨gk_fbT, fun U hU hW => ⟨rfl, trivial⟩⟩ rfl rfl hl.1 rfl (lv_room (Nat.le_of_ble_eq_true rfl)) dX7_along_3 ⟨Nat.zero_le _, Nat.zero_le _⟩)) (fun r_1 er_1 => ?_)
  subst er_1
  refine lv_if_ne (tgt := 12) hx hb dX7_along_6 (by decide) (fun c_2 => ?_) (fun c_2 => ?_)
  · skip
    have c_2 : (decide (1 ≤ x) && decide (x ≤ 4)) = true := b2i_1.mp c_2
    obtain ⟨nv, hv1, hv2, ev⟩ := nv_of (x := x) (by (simp only [decide_eq_true_eq, decide_eq_false_iff_not, Bool.and_eq_true, Bool.and_eq_false_iff, Bool.or_eq_true, Bool.or_eq_false_iff, Bool.not_eq_true, Bool.not_eq_false, ne_eq, not_and, not_or, tog_t, tog_f, ahd_t, ahd_f, isoB_t, isoB_f, ixB_t, ixB_f, vOK_t, vOK_f, wOK_t, wOK_f, tn4, tI5, Int32.lt_iff_toInt_lt, Int32.le_iff_toInt_le, ← Int32.toInt_inj, tI0, tI1, tI2, tI3, tI4, tI6, tI14, tI59, tI60, tI127, tI1000, tI100000, tIm1, tIm2, tIm3, tIm4, tIbig] at c_2 ⊢; first | done | omega))
    refine lv_aload_n hx hb dX7_along_12 rfl (lv_at hl 0 rfl) ?_
    refine va_get (D := (dC, dI)) (ci := 7) (v := .ref (b 19)) (C := RX7) (T := TX7) (N := 7) hx hb hts i_X7 hown hK hP 0 rfl rfl 6 (by decide) k_0 (fun _ h9 => h9) rfl dX7_along_13 ?_
    refine lv_iload_n hx hb dX7_along_16 rfl (lv_at hl 1 rfl) ?_
    refine gk_top (y := nI nv) (ev) ?_
    have hPc := hP.sub (ws' := [(b 19, .inr (2, [.ref (b 1), .ref (b 14), .ref (b 20)])), (b 20, .inl (cI, 60, .inl CH)), (b 14, .inr (3, [.ref (b 1), .ref (b 8), .ref (b 15)])), (b 8, .inl (cI, 4, .inl Wt)), (b 15, .inl (cI, 4, .inl LA)), (b 1, .inr (6, [.int (nI n), .ref (b 2), .ref (b 3), .ref (b 4), .ref (b 5), .ref (b 6), .ref (b 7)])), (b 2, .inl (cI, 60, .inl F)), (b 3, .inl (cI, 60, .inl T)), (b 4, .inl (cI, 60, .inl P)), (b 5, .inl (cI, 60, .inl V)), (b 6, .inl (cI, 60, .inl (fun j => nI (o j)))), (b 7, .inl (cI, 60, .inl (fun j => nI (kr j))))]) [19, 20, 14, 8, 15, 1, 2, 3, 4, 5, 6, 7] rfl
    have hDc := hD.sub (ws' := [(b 19, .inr (2, [.ref (b 1), .ref (b 14), .ref (b 20)])), (b 20, .inl (cI, 60, .inl CH)), (b 14, .inr (3, [.ref (b 1), .ref (b 8), .ref (b 15)])), (b 8, .inl (cI, 4, .inl Wt)), (b 15, .inl (cI, 4, .inl LA)), (b 1, .inr (6, [.int (nI n), .ref (b 2), .ref (b 3), .ref (b 4), .ref (b 5), .ref (b 6), .ref (b 7)])), (b 2, .inl (cI, 60, .inl F)), (b 3, .inl (cI, 60, .inl T)), (b 4, .inl (cI, 60, .inl P)), (b 5, .inl (cI, 60, .inl V)), (b 6, .inl (cI, 60, .inl (fun j => nI (o j)))), (b 7, .inl (cI, 60, .inl (fun j => nI (kr j))))]) [19, 20, 14, 8, 15, 1, 2, 3, 4, 5, 6, 7] (by decide) rfl
    have hFc := va_free (wc := [(b 19, .inr (2, [.ref (b 1), .ref (b 14), .ref (b 20)])), (b 20, .inl (cI, 60, .inl CH)), (b 14, .inr (3, [.ref (b 1), .ref (b 8), .ref (b 15)])), (b 8, .inl (cI, 4, .inl Wt)), (b 15, .inl (cI, 4, .inl LA)), (b 1, .inr (6, [.int (nI n), .ref (b 2), .ref (b 3), .ref (b 4), .ref (b 5), .ref (b 6), .ref (b 7)])), (b 2, .inl (cI, 60, .inl F)), (b 3, .inl (cI, 60, .inl T)), (b 4, .inl (cI, 60, .inl P)), (b 5, .inl (cI, 60, .inl V)), (b 6, .inl (cI, 60, .inl (fun j => nI (o j)))), (b 7, .inl (cI, 60, .inl (fun j => nI (kr j))))]) hD hS hA [19, 20, 14, 8, 15, 1, 2, 3, 4, 5, 6, 7] rfl
    refine va_calli (va_runV (As := [.int (nI nv)]) (rest := []) ⟨hx, hb, hml, hown, hts⟩ (c_X2_go l dC dI cI s.heap.size b n F T P V o kr hn ho Wt LA CH hp nv hv2) (cwV 1 hts gX7_along_X2_go rfl rfl rfl (by decide +kernel) ⟨Nat.le_of_ble_eq_true rfl, Nat.le_of_ble_eq_true rfl⟩) ⟨gk_fbW, va_recv hK hPc (ci := 2) (q0 := 0) rfl rfl, fun U hU hW => ⟨rfl, by rw [hU], by rw [hU]; exact hPc, va_K.moved hW.alike hK, hDc.weaken (fun _ _ _ _ => trivial)⟩⟩ rfl rfl hl.1 rfl (lv_room (Nat.le_of_ble_eq_true rfl)) dX7_along_17 ⟨Nat.zero_le _, Nat.zero_le _⟩) hS (fun q _ h => hFc q h) hFc (fun r_3 u t H1 locs ht hvm hw hB hz1 hk1 hS => ?_)
    obtain ⟨CH1, LA1, V1⟩ := u
    obtain ⟨hP1, hK1, hD1⟩ := hB
    rw [ht] at hP1
    try dsimp only at hw
    obtain ⟨hP, hD⟩ := va_join (wr := [(b 0, .inr (7, [.ref (b 1), .ref (b 8), .ref (b 9), .ref (b 12), .ref (b 13), .ref (b 16), .ref (b 19)])), (b 9, .inr (5, [.ref (b 1), .int rc, .ref (b 10), .ref (b 11)])), (b 10, .inl (cI, 61, .inl RB)), (b 11, .inl (cI, 61, .inl RE)), (b 12, .inr (4, [.ref (b 1), .int p1, .int p2])), (b 13, .inr (0, [.ref (b 1), .ref (b 8), .ref (b 12)])), (b 16, .inr (1, [.ref (b 1), .ref (b 14), .ref (b 17), .int vs, .ref kn])), (b 17, .inl (cI, 4, .inl PL)), (kn, .inl (cI, kl, .inl KN))]) (w1 := [(b 19, .inr (2, [.ref (b 1), .ref (b 14), .ref (b 20)])), (b 20, .inl (cI, 60, .inl CH1)), (b 14, .inr (3, [.ref (b 1), .ref (b 8), .ref (b 15)])), (b 8, .inl (cI, 4, .inl Wt)), (b 15, .inl (cI, 4, .inl LA1)), (b 1, .inr (6, [.int (nI n), .ref (b 2), .ref (b 3), .ref (b 4), .ref (b 5), .ref (b 6), .ref (b 7)])), (b 2, .inl (cI, 60, .inl F)), (b 3, .inl (cI, 60, .inl T)), (b 4, .inl (cI, 60, .inl P)), (b 5, .inl (cI, 60, .inl V1)), (b 6, .inl (cI, 60, .inl (fun j => nI (o j)))), (b 7, .inl (cI, 60, .inl (fun j => nI (kr j))))]) hP hD [19, 20, 14, 8, 15, 1, 2, 3, 4, 5, 6, 7] [0, 9, 10, 11, 12, 13, 16, 17, 18] rfl rfl (by decide) (by decide) hk1 hFc hP1 hD1
    generalize H1 = H at hP hS ⊢
    have hP := hP.sub (ws' := [(b 0, .inr (7, [.ref (b 1), .ref (b 8), .ref (b 9), .ref (b 12), .ref (b 13), .ref (b 16), .ref (b 19)])), (b 1, .inr (6, [.int (nI n), .ref (b 2), .ref (b 3), .ref (b 4), .ref (b 5), .ref (b 6), .ref (b 7)])), (b 2, .inl (cI, 60, .inl F)), (b 3, .inl (cI, 60, .inl T)), (b 4, .inl (cI, 60, .inl P)), (b 5, .inl (cI, 60, .inl V1)), (b 6, .inl (cI, 60, .inl (fun j => nI (o j)))), (b 7, .inl (cI, 60, .inl (fun j => nI (kr j)))), (b 8, .inl (cI, 4, .inl Wt)), (b 9, .inr (5, [.ref (b 1), .int rc, .ref (b 10), .ref (b 11)])), (b 10, .inl (cI, 61, .inl RB)), (b 11, .inl (cI, 61, .inl RE)), (b 12, .inr (4, [.ref (b 1), .int p1, .int p2])), (b 13, .inr (0, [.ref (b 1), .ref (b 8), .ref (b 12)])), (b 14, .inr (3, [.ref (b 1), .ref (b 8), .ref (b 15)])), (b 15, .inl (cI, 4, .inl LA1)), (b 16, .inr (1, [.ref (b 1), .ref (b 14), .ref (b 17), .int vs, .ref kn])), (b 17, .inl (cI, 4, .inl PL)), (kn, .inl (cI, kl, .inl KN)), (b 19, .inr (2, [.ref (b 1), .ref (b 14), .ref (b 20)])), (b 20, .inl (cI, 60, .inl CH1))]) [0, 14, 15, 16, 17, 18, 19, 20, 12, 1, 2, 3, 4, 5, 11, 13, 6, 7, 8, 9, 10] rfl
    have hD := hD.sub (ws' := [(b 0, .inr (7, [.ref (b 1), .ref (b 8), .ref (b 9), .ref (b 12), .ref (b 13), .ref (b 16), .ref (b 19)])), (b 1, .inr (6, [.int (nI n), .ref (b 2), .ref (b 3), .ref (b 4), .ref (b 5), .ref (b 6), .ref (b 7)])), (b 2, .inl (cI, 60, .inl F)), (b 3, .inl (cI, 60, .inl T)), (b 4, .inl (cI, 60, .inl P)), (b 5, .inl (cI, 60, .inl V1)), (b 6, .inl (cI, 60, .inl (fun j => nI (o j)))), (b 7, .inl (cI, 60, .inl (fun j => nI (kr j)))), (b 8, .inl (cI, 4, .inl Wt)), (b 9, .inr (5, [.ref (b 1), .int rc, .ref (b 10), .ref (b 11)])), (b 10, .inl (cI, 61, .inl RB)), (b 11, .inl (cI, 61, .inl RE)), (b 12, .inr (4, [.ref (b 1), .int p1, .int p2])), (b 13, .inr (0, [.ref (b 1), .ref (b 8), .ref (b 12)])), (b 14, .inr (3, [.ref (b 1), .ref (b 8), .ref (b 15)])), (b 15, .inl (cI, 4, .inl LA1)), (b 16, .inr (1, [.ref (b 1), .ref (b 14), .ref (b 17), .int vs, .ref kn])), (b 17, .inl (cI, 4, .inl PL)), (kn, .inl (cI, kl, .inl KN)), (b 19, .inr (2, [.ref (b 1), .ref (b 14), .ref (b 20)])), (b 20, .inl (cI, 60, .inl CH1))]) [0, 14, 15, 16, 17, 18, 19, 20, 12, 1, 2, 3, 4, 5, 11, 13, 6, 7, 8, 9, 10] (by decide) rfl
    have hP : va_P (dC, dI) vwCl [(b 0, .inr (7, [.ref (b 1), .ref (b 8), .ref (b 9), .ref (b 12), .ref (b 13), .ref (b 16), .ref (b 19)])), (b 1, .inr (6, [.int (nI n), .ref (b 2), .ref (b 3), .ref (b 4), .ref (b 5), .ref (b 6), .ref (b 7)])), (b 2, .inl (cI, 60, .inl F)), (b 3, .inl (cI, 60, .inl T)), (b 4, .inl (cI, 60, .inl P)), (b 5, .inl (cI, 60, .inl V1)), (b 6, .inl (cI, 60, .inl (fun j => nI (o j)))), (b 7, .inl (cI, 60, .inl (fun j => nI (kr j)))), (b 8, .inl (cI, 4, .inl Wt)), (b 9, .inr (5, [.ref (b 1), .int rc, .ref (b 10), .ref (b 11)])), (b 10, .inl (cI, 61, .inl RB)), (b 11, .inl (cI, 61, .inl RE)), (b 12, .inr (4, [.ref (b 1), .int p1, .int p2])), (b 13, .inr (0, [.ref (b 1), .ref (b 8), .ref (b 12)])), (b 14, .inr (3, [.ref (b 1), .ref (b 8), .ref (b 15)])), (b 15, .inl (cI, 4, .inl LA1)), (b 16, .inr (1, [.ref (b 1), .ref (b 14), .ref (b 17), .int vs, .ref kn])), (b 17, .inl (cI, 4, .inl PL)), (kn, .inl (cI, kl, .inl KN)), (b 19, .inr (2, [.ref (b 1), .ref (b 14), .ref (b 20)])), (b 20, .inl (cI, 60, .inl CH1))] H := hP
    have hD : va_D A [(b 0, .inr (7, [.ref (b 1), .ref (b 8), .ref (b 9), .ref (b 12), .ref (b 13), .ref (b 16), .ref (b 19)])), (b 1, .inr (6, [.int (nI n), .ref (b 2), .ref (b 3), .ref (b 4), .ref (b 5), .ref (b 6), .ref (b 7)])), (b 2, .inl (cI, 60, .inl F)), (b 3, .inl (cI, 60, .inl T)), (b 4, .inl (cI, 60, .inl P)), (b 5, .inl (cI, 60, .inl V1)), (b 6, .inl (cI, 60, .inl (fun j => nI (o j)))), (b 7, .inl (cI, 60, .inl (fun j => nI (kr j)))), (b 8, .inl (cI, 4, .inl Wt)), (b 9, .inr (5, [.ref (b 1), .int rc, .ref (b 10), .ref (b 11)])), (b 10, .inl (cI, 61, .inl RB)), (b 11, .inl (cI, 61, .inl RE)), (b 12, .inr (4, [.ref (b 1), .int p1, .int p2])), (b 13, .inr (0, [.ref (b 1), .ref (b 8), .ref (b 12)])), (b 14, .inr (3, [.ref (b 1), .ref (b 8), .ref (b 15)])), (b 15, .inl (cI, 4, .inl LA1)), (b 16, .inr (1, [.ref (b 1), .ref (b 14), .ref (b 17), .int vs, .ref kn])), (b 17, .inl (cI, 4, .inl PL)), (kn, .inl (cI, kl, .inl KN)), (b 19, .inr (2, [.ref (b 1), .ref (b 14), .ref (b 20)])), (b 20, .inl (cI, 60, .inl CH1))] := hD
    refine lv_if_eq (tgt := 27) hx hb dX7_along_20 (by decide) (fun c_4 => ?_) (fun c_4 => ?_)
    · skip
      refine lv_iconst (v := (-1)) hx hb dX7_along_27 (by decide) ?_
      exact W.iret (v := (-1)) hx hb hr (fun t ht hW => ⟨⟨_, ((n, F, T, P, V1, Wt, o), (kr, rc, RB, RE, p1, p2, LA1, vs, PL, kn, kl, KN, CH1)), rfl, (by refine ⟨V1, LA1, CH1, rfl, fun h => absurd (nv_no hv1 hv2 ev) h, fun nw h1 h2 e1 => ?_⟩; obtain rfl := nv_eq hv2 h2 ev e1; rcases hw with ⟨w0, w1, w2, w3⟩ | ⟨w0, w1, w2⟩; (rw [w0] at c_4; exact absurd c_4 (by decide)); exact Or.inr ⟨rfl, w1, w2⟩), by rw [ht]; exact hP, va_K.moved hW.alike hK, hD⟩, hS.F ht⟩) hS.2.2 dX7_along_28
    · skip
      refine lv_iconst (v := 1) hx hb dX7_along_23 (by decide) ?_
      refine lv_goto (tgt := 28) hx hb dX7_along_24 (by decide) ?_
      exact W.iret (v := 1) hx hb hr (fun t ht hW => ⟨⟨_, ((n, F, T, P, V1, Wt, o), (kr, rc, RB, RE, p1, p2, LA1, vs, PL, kn, kl, KN, CH1)), rfl, (by refine ⟨V1, LA1, CH1, rfl, fun h => absurd (nv_no hv1 hv2 ev) h, fun nw h1 h2 e1 => ?_⟩; obtain rfl := nv_eq hv2 h2 ev e1; rcases hw with ⟨w0, w1, w2, w3⟩ | ⟨w0, w1, w2⟩; (exact Or.inl ⟨rfl, w1, w2, w3⟩); rw [w0] at c_4; exact absurd c_4 (by decide)), by rw [ht]; exact hP, va_K.moved hW.alike hK, hD⟩, hS.F ht⟩) hS.2.2 dX7_along_28
  · skip
    have c_2 : (decide (1 ≤ x) && decide (x ≤ 4)) = false := b2i_0.mp c_2
    refine lv_bipush (v := (-2)) hx hb dX7_along_9 (by decide) ?_
    exact W.iret (v := (-2)) hx hb hr (fun t ht hW => ⟨⟨_, ((n, F, T, P, V, Wt, o), (kr, rc, RB, RE, p1, p2, LA, vs, PL, kn, kl, KN, CH)), rfl, (by refine ⟨V, LA, CH, rfl, fun _ => ⟨rfl, rfl⟩, fun nv h1 h2 e1 => ?_⟩; exfalso; have hx9 := nv_no h1 h2 e1; (simp only [decide_eq_true_eq, decide_eq_false_iff_not, Bool.and_eq_true, Bool.and_eq_false_iff, Bool.or_eq_true, Bool.or_eq_false_iff, Bool.not_eq_true, Bool.not_eq_false, ne_eq, not_and, not_or, tog_t, tog_f, ahd_t, ahd_f, isoB_t, isoB_f, ixB_t, ixB_f, vOK_t, vOK_f, wOK_t, wOK_f, tn4, tI5, Int32.lt_iff_toInt_lt, Int32.le_iff_toInt_le, ← Int32.toInt_inj, tI0, tI1, tI2, tI3, tI4, tI6, tI14, tI59, tI60, tI127, tI1000, tI100000, tIm1, tIm2, tIm3, tIm4, tIbig] at hx9 c_2; first | done | omega)), by rw [ht]; exact hP, va_K.moved hW.alike hK, hD⟩, hS.F ht⟩) hS.2.2 dX7_along_11

set_option maxHeartbeats 1000000 in
set_option maxRecDepth 100000 in
theorem c_X8_along (l : Launch) (dC : Nat → ClassId) (dI : Nat → Nat → Nat) (cI : ClassId) (sz : Nat) (a : Nat → Nat) (n : Nat) (F T P V Wt : Nat → Int32) (o : Nat → Nat) (G L R : Nat → Int32) (hn : n ≤ 60) (ho : ∀ j, o j < 60) (hp : prm n o) (x : Int32) : Met l yX8_along wsX8_along ({ frames := 2, cells := 0, slots := 0, locals := 48 } : Room) (va_Pc [.ref (a 0), .int x] (fun U => U.heap.size = sz ∧ va_P (dC, dI) vwCl (mW cI a (nI n) F T P V Wt (fun j => nI (o j)) G L R) U.heap ∧ va_K (dC, dI) vwCl [(cI, .int)] U ∧ va_D (fun _ => True) (mW cI a (nI n) F T P V Wt (fun j => nI (o j)) G L R))) (va_Qi (fun (rr : Int32) (u : SS × MJ) => ∃ V1 G1 L1 : Nat → Int32, u = ((n, F, T, P, V1, Wt, o), (G1, L1, R)) ∧ (¬ (1 ≤ x ∧ x ≤ 4) → rr = -2 ∧ V1 = V) ∧ (∀ nv, 1 ≤ nv → nv ≤ 4 → x = nI nv → (rr = 1 ∧ (∀ j, j < n → chM F T P Wt o nv j ≠ 0) ∧ (∀ j, j < n → V1 (o j) = nI (chM F T P Wt o nv j - 1)) ∧ (∀ j, n ≤ j → V1 j = V j)) ∨ (rr = -1 ∧ (∃ r, r < n ∧ chM F T P Wt o nv r = 0 ∧ ∀ j, j < r → chM F T P Wt o nv j ≠ 0) ∧ V1 = V))) (fun u t => va_P (dC, dI) vwCl (mWu cI a u.1 u.2) t.heap ∧ va_K (dC, dI) vwCl [(cI, .int)] t ∧ va_D (va_A (mW cI a (nI n) F T P V Wt (fun j => nI (o j)) G L R) sz) (mWu cI a u.1 u.2)) (va_A (mW cI a (nI n) F T P V Wt (fun j => nI (o j)) G L R) sz)) 0 0 (va_A (mW cI a (nI n) F T P V Wt (fun j => nI (o j)) G L R) sz) := by
  refine Met.ofW (cc := cX8_along) (maxL := 7) (ret := (some .int)) (by decide) rfl ?_
  intro p e s m args below meth c s₁ B hml hv
  obtain ⟨rfl, hsz, hP, hK, hD0⟩ := hv
  have hx := B.exec
  have hb := B.bytes
  have hr := B.returns
  have hts := atoms_spec (ws := wsX8_along) B.pre
  have hown : s.vm.findClass RX8 = some m.cls := findClass_of_methodNamed B.named
  have hlocks := B.notSynchronized
  subst hsz
  have hD := hD0.self (sz := s.heap.size)
  generalize hAe : va_A (mW cI a (nI n) F T P V Wt (fun j => nI (o j)) G L R) s.heap.size = A at hD ⊢
  have hA : ∀ q : Nat, s.heap.size ≤ q → A q := fun q h => by rw [← hAe]; exact Or.inr h
  have hS : va_S A s.heap s.heap [] := va_S.rf
  have i_X8 : ∀ w ∈ u_ws RX8 TX8 10, w ∈ wsX8_along := by decide +kernel
  have k_0 := hts (.fieldLink RX8 38 "VoiceRowsModel" "notes" "I") (by decide +kernel)
  have k_1 := hts (.constant RX8 62 (2000000000)) (by decide +kernel)
  have k_2 := hts (.fieldLink RX8 28 "VoiceRowsModel" "given" "[I") (by decide +kernel)
  have k_3 := hts (.fieldLink RX8 31 "VoiceRowsModel" "last" "[I") (by decide +kernel)
  have hl := lv_entry ([.ref (a 0), .int x]) (n := 7) (Nat.le_of_ble_eq_true rfl)
  rw [lg_entry_eq]
  generalize (lg_sl ([.ref (a 0), .int x]) ++ List.replicate (7 - (lg_sl ([.ref (a 0), .int x])).length) Slot.unset).toArray = ls at hl ⊢
  have hl : lv_has ls 7 [(0, .ref (a 0)), (1, .int x)] := hl
  refine lv_iload_n hx hb dX8_along_0 rfl (lv_at hl 1 rfl) ?_
  refine lv_iconst (v := 1) hx hb dX8_along_1 (by decide) ?_
  refine lv_icmp_lt (tgt := 10) hx hb dX8_along_2 (by decide) (fun c_1 => ?_) (fun c_1 => ?_)
  · skip
    refine lv_bipush (v := (-2)) hx hb dX8_along_10 (by decide) ?_
    exact W.iret (v := (-2)) hx hb hr (fun t ht hW => ⟨⟨_, ((n, F, T, P, V, Wt, o), (G, L, R)), rfl, (by refine ⟨V, G, L, rfl, fun _ => ⟨rfl, rfl⟩, fun nv h1 h2 e1 => ?_⟩; exfalso; have hx9 := nv_no h1 h2 e1; (simp only [decide_eq_true_eq, decide_eq_false_iff_not, Bool.and_eq_true, Bool.and_eq_false_iff, Bool.or_eq_true, Bool.or_eq_false_iff, Bool.not_eq_true, Bool.not_eq_false, ne_eq, not_and, not_or, tog_t, tog_f, ahd_t, ahd_f, isoB_t, isoB_f, ixB_t, ixB_f, vOK_t, vOK_f, wOK_t, wOK_f, tn4, tI5, Int32.lt_iff_toInt_lt, Int32.le_iff_toInt_le, ← Int32.toInt_inj, tI0, tI1, tI2, tI3, tI4, tI6, tI14, tI59, tI60, tI127, tI1000, tI100000, tIm1, tIm2, tIm3, tIm4, tIbig] at hx9 c_1; first | done | omega)), by rw [ht]; exact hP, va_K.moved hW.alike hK, hD⟩, hS.F ht⟩) hS.2.2 dX8_along_12
  · skip
    refine lv_iload_n hx hb dX8_along_5 rfl (lv_at hl 1 rfl) ?_
    refine lv_iconst (v := 4) hx hb dX8_along_6 (by decide) ?_
    refine lv_icmp_le (tgt := 13) hx hb dX8_along_7 (by decide) (fun c_2 => ?_) (fun c_2 => ?_)
    · skip
      obtain ⟨nv, hv1, hv2, ev⟩ := nv_of (x := x) (by (simp only [decide_eq_true_eq, decide_eq_false_iff_not, Bool.and_eq_true, Bool.and_eq_false_iff, Bool.or_eq_true, Bool.or_eq_false_iff, Bool.not_eq_true, Bool.not_eq_false, ne_eq, not_and, not_or, tog_t, tog_f, ahd_t, ahd_f, isoB_t, isoB_f, ixB_t, ixB_f, vOK_t, vOK_f, wOK_t, wOK_f, tn4, tI5, Int32.lt_iff_toInt_lt, Int32.le_iff_toInt_le, ← Int32.toInt_inj, tI0, tI1, tI2, tI3, tI4, tI6, tI14, tI59, tI60, tI127, tI1000, tI100000, tIm1, tIm2, tIm3, tIm4, tIbig] at c_1 c_2 ⊢; first | done | omega))
      have hcm : ∀ r, chM F T P Wt o nv r ≤ nv := fun r => mn_le nv
      refine lv_iconst (v := 0) hx hb dX8_along_13 (by decide) ?_
      refine lv_istore_n (lv' := [(2, .int 0), (0, .ref (a 0)), (1, .int x)]) hx hb dX8_along_14 rfl hl (by decide) rfl (fun ls hl => ?_)
      have L15 : ∀ (fu : Nat) (v : Nat) (x2 : Int32) (L1 : Nat → Int32) (H : Heap) (locs : List Loc) (ls : Array Slot), x2 = nI v → v ≤ 4 → (∀ j, j < v → L1 j = 0) → 4 - v < fu → va_P (dC, dI) vwCl [(a 0, .inr (8, [.ref (a 1), .ref (a 2), .ref (a 3), .ref (a 4), .int (nI n), .ref (a 5), .ref (a 6), .ref (a 7), .ref (a 8), .ref (a 9)])), (a 1, .inl (cI, 60, .inl F)), (a 2, .inl (cI, 60, .inl T)), (a 3, .inl (cI, 60, .inl P)), (a 4, .inl (cI, 60, .inl V)), (a 5, .inl (cI, 4, .inl Wt)), (a 6, .inl (cI, 60, .inl (fun j => nI (o j)))), (a 7, .inl (cI, 60, .inl G)), (a 8, .inl (cI, 4, .inl L1)), (a 9, .inl (cI, 759375, .inl R))] H → va_D A [(a 0, .inr (8, [.ref (a 1), .ref (a 2), .ref (a 3), .ref (a 4), .int (nI n), .ref (a 5), .ref (a 6), .ref (a 7), .ref (a 8), .ref (a 9)])), (a 1, .inl (cI, 60, .inl F)), (a 2, .inl (cI, 60, .inl T)), (a 3, .inl (cI, 60, .inl P)), (a 4, .inl (cI, 60, .inl V)), (a 5, .inl (cI, 4, .inl Wt)), (a 6, .inl (cI, 60, .inl (fun j => nI (o j)))), (a 7, .inl (cI, 60, .inl G)), (a 8, .inl (cI, 4, .inl L1)), (a 9, .inl (cI, 759375, .inl R))] → va_S A s.heap H locs → lv_has ls 7 [(0, .ref (a 0)), (1, .int x), (2, .int x2)] → W p l e (headSpec wsX8_along ({ frames := 2, cells := 0, slots := 0, locals := 48 } : Room)).room s m [.ref (a 0), .int x].toArray below meth c H locs 0 0 (MQ below (va_Qi (fun (rr : Int32) (u : SS × MJ) => ∃ V1 G1 L1 : Nat → Int32, u = ((n, F, T, P, V1, Wt, o), (G1, L1, R)) ∧ (¬ (1 ≤ x ∧ x ≤ 4) → rr = -2 ∧ V1 = V) ∧ (∀ nv, 1 ≤ nv → nv ≤ 4 → x = nI nv → (rr = 1 ∧ (∀ j, j < n → chM F T P Wt o nv j ≠ 0) ∧ (∀ j, j < n → V1 (o j) = nI (chM F T P Wt o nv j - 1)) ∧ (∀ j, n ≤ j → V1 j = V j)) ∨ (rr = -1 ∧ (∃ r, r < n ∧ chM F T P Wt o nv r = 0 ∧ ∀ j, j < r → chM F T P Wt o nv j ≠ 0) ∧ V1 = V))) (fun u t => va_P (dC, dI) vwCl (mWu cI a u.1 u.2) t.heap ∧ va_K (dC, dI) vwCl [(cI, .int)] t ∧ va_D A (mWu cI a u.1 u.2)) A) [.ref (a 0), .int x].toArray s 0 0 A) (F0 m 15 ls []) := by
        intro fu
        induction fu with
        | zero =>
          intro v x2 L1 H locs ls e2 hv3 hL1 hfu15 hP hD hS hl
          exact absurd hfu15 (Nat.not_lt_zero _)
        | succ fu ih15 =>
          intro v x2 L1 H locs ls e2 hv3 hL1 hfu15 hP hD hS hl
          subst e2
          refine lv_iload_n hx hb dX8_along_15 rfl (lv_at hl 2 rfl) ?_
          refine lv_iconst (v := 4) hx hb dX8_along_16 (by decide) ?_
          refine lv_icmp_ge (tgt := 33) hx hb dX8_along_17 (by decide) (fun c_3 => ?_) (fun c_3 => ?_)
          · skip
            have c_3 : v ≥ 4 := gk_geT (a := v) (b := 4) (by first | omega | exact Nat.lt_trans (ho _) (by decide) | exact Nat.lt_of_le_of_lt atN_le (by omega) | exact Nat.lt_of_le_of_lt szN_le (by omega) | exact Nat.lt_of_le_of_lt clM_le (by omega) | exact Nat.lt_of_le_of_lt rkN_le (by omega) | exact Nat.lt_of_le_of_lt (cnt_le _ _) (by omega)) (by first | omega | exact Nat.lt_trans (ho _) (by decide) | exact Nat.lt_of_le_of_lt atN_le (by omega) | exact Nat.lt_of_le_of_lt szN_le (by omega) | exact Nat.lt_of_le_of_lt clM_le (by omega) | exact Nat.lt_of_le_of_lt rkN_le (by omega) | exact Nat.lt_of_le_of_lt (cnt_le _ _) (by omega)) c_3
            have hP := gk_extP (g := (fun j => nI (ln0 j))) hP 8 rfl (fun j hj => (hL1 j (by omega)).trans nI_0.symm)
            have hD := gk_extD (e := .inl (cI, 4, .inl (fun j => nI (ln0 j)))) hD 8 rfl
            have hP : va_P (dC, dI) vwCl [(a 0, .inr (8, [.ref (a 1), .ref (a 2), .ref (a 3), .ref (a 4), .int (nI n), .ref (a 5), .ref (a 6), .ref (a 7), .ref (a 8), .ref (a 9)])), (a 1, .inl (cI, 60, .inl F)), (a 2, .inl (cI, 60, .inl T)), (a 3, .inl (cI, 60, .inl P)), (a 4, .inl (cI, 60, .inl V)), (a 5, .inl (cI, 4, .inl Wt)), (a 6, .inl (cI, 60, .inl (fun j => nI (o j)))), (a 7, .inl (cI, 60, .inl G)), (a 8, .inl (cI, 4, .inl (fun j => nI (ln0 j)))), (a 9, .inl (cI, 759375, .inl R))] H := hP
            have hD : va_D A [(a 0, .inr (8, [.ref (a 1), .ref (a 2), .ref (a 3), .ref (a 4), .int (nI n), .ref (a 5), .ref (a 6), .ref (a 7), .ref (a 8), .ref (a 9)])), (a 1, .inl (cI, 60, .inl F)), (a 2, .inl (cI, 60, .inl T)), (a 3, .inl (cI, 60, .inl P)), (a 4, .inl (cI, 60, .inl V)), (a 5, .inl (cI, 4, .inl Wt)), (a 6, .inl (cI, 60, .inl (fun j => nI (o j)))), (a 7, .inl (cI, 60, .inl G)), (a 8, .inl (cI, 4, .inl (fun j => nI (ln0 j)))), (a 9, .inl (cI, 759375, .inl R))] := hD
            refine lv_iconst (v := 0) hx hb dX8_along_33 (by decide) ?_
            refine lv_istore_n (lv' := [(2, .int 0), (0, .ref (a 0)), (1, .int x)]) hx hb dX8_along_34 rfl hl (by decide) rfl (fun ls hl => ?_)
            have L35 : ∀ (fu : Nat) (r : Nat) (x2 : Int32) (L2 G1 : Nat → Int32) (H : Heap) (locs : List Loc) (ls : Array Slot), x2 = nI r → L2 = (fun j => nI (laG F T P Wt o nv r j)) → r ≤ n → (∀ j, j < r → chM F T P Wt o nv j ≠ 0) → (∀ j, j < r → G1 j = nI (chM F T P Wt o nv j - 1)) → n - r < fu → va_P (dC, dI) vwCl [(a 0, .inr (8, [.ref (a 1), .ref (a 2), .ref (a 3), .ref (a 4), .int (nI n), .ref (a 5), .ref (a 6), .ref (a 7), .ref (a 8), .ref (a 9)])), (a 1, .inl (cI, 60, .inl F)), (a 2, .inl (cI, 60, .inl T)), (a 3, .inl (cI, 60, .inl P)), (a 4, .inl (cI, 60, .inl V)), (a 5, .inl (cI, 4, .inl Wt)), (a 6, .inl (cI, 60, .inl (fun j => nI (o j)))), (a 7, .inl (cI, 60, .inl G1)), (a 8, .inl (cI, 4, .inl L2)), (a 9, .inl (cI, 759375, .inl R))] H → va_D A [(a 0, .inr (8, [.ref (a 1), .ref (a 2), .ref (a 3), .ref (a 4), .int (nI n), .ref (a 5), .ref (a 6), .ref (a 7), .ref (a 8), .ref (a 9)])), (a 1, .inl (cI, 60, .inl F)), (a 2, .inl (cI, 60, .inl T)), (a 3, .inl (cI, 60, .inl P)), (a 4, .inl (cI, 60, .inl V)), (a 5, .inl (cI, 4, .inl Wt)), (a 6, .inl (cI, 60, .inl (fun j => nI (o j)))), (a 7, .inl (cI, 60, .inl G1)), (a 8, .inl (cI, 4, .inl L2)), (a 9, .inl (cI, 759375, .inl R))] → va_S A s.heap H locs → lv_has ls 7 [(0, .ref (a 0)), (1, .int x), (2, .int x2)] → W p l e (headSpec wsX8_along ({ frames := 2, cells := 0, slots := 0, locals := 48 } : Room)).room s m [.ref (a 0), .int x].toArray below meth c H locs 0 0 (MQ below (va_Qi (fun (rr : Int32) (u : SS × MJ) => ∃ V1 G1 L1 : Nat → Int32, u = ((n, F, T, P, V1, Wt, o), (G1, L1, R)) ∧ (¬ (1 ≤ x ∧ x ≤ 4) → rr = -2 ∧ V1 = V) ∧ (∀ nv, 1 ≤ nv → nv ≤ 4 → x = nI nv → (rr = 1 ∧ (∀ j, j < n → chM F T P Wt o nv j ≠ 0) ∧ (∀ j, j < n → V1 (o j) = nI (chM F T P Wt o nv j - 1)) ∧ (∀ j, n ≤ j → V1 j = V j)) ∨ (rr = -1 ∧ (∃ r, r < n ∧ chM F T P Wt o nv r = 0 ∧ ∀ j, j < r → chM F T P Wt o nv j ≠ 0) ∧ V1 = V))) (fun u t => va_P (dC, dI) vwCl (mWu cI a u.1 u.2) t.heap ∧ va_K (dC, dI) vwCl [(cI, .int)] t ∧ va_D A (mWu cI a u.1 u.2)) A) [.ref (a 0), .int x].toArray s 0 0 A) (F0 m 35 ls []) := by
              intro fu
              induction fu with
              | zero =>
                intro r x2 L2 G1 H locs ls e2 r_L2 hr1 hc1 hc2 hfu35 hP hD hS hl
                exact absurd hfu35 (Nat.not_lt_zero _)
              | succ fu ih35 =>
                intro r x2 L2 G1 H locs ls e2 r_L2 hr1 hc1 hc2 hfu35 hP hD hS hl
                subst e2
                subst r_L2
                refine lv_iload_n hx hb dX8_along_35 rfl (lv_at hl 2 rfl) ?_
                refine lv_aload_n hx hb dX8_along_36 rfl (lv_at hl 0 rfl) ?_
                refine va_get (D := (dC, dI)) (ci := 8) (v := .int (nI n)) (C := RX8) (T := TX8) (N := 10) hx hb hts i_X8 hown hK hP 0 rfl rfl 4 (by decide) k_0 (fun _ h9 => h9) rfl dX8_along_37 ?_
                refine lv_icmp_ge (tgt := 117) hx hb dX8_along_40 (by decide) (fun c_4 => ?_) (fun c_4 => ?_)
                · skip
                  have c_4 : r ≥ n := gk_geT (a := r) (b := n) (by first | omega | exact Nat.lt_trans (ho _) (by decide) | exact Nat.lt_of_le_of_lt atN_le (by omega) | exact Nat.lt_of_le_of_lt szN_le (by omega) | exact Nat.lt_of_le_of_lt clM_le (by omega) | exact Nat.lt_of_le_of_lt rkN_le (by omega) | exact Nat.lt_of_le_of_lt (cnt_le _ _) (by omega)) (by first | omega | exact Nat.lt_trans (ho _) (by decide) | exact Nat.lt_of_le_of_lt atN_le (by omega) | exact Nat.lt_of_le_of_lt szN_le (by omega) | exact Nat.lt_of_le_of_lt clM_le (by omega) | exact Nat.lt_of_le_of_lt rkN_le (by omega) | exact Nat.lt_of_le_of_lt (cnt_le _ _) (by omega)) c_4
                  refine lv_aload_n hx hb dX8_along_117 rfl (lv_at hl 0 rfl) ?_
                  have hPc := hP.sub (ws' := [(a 0, .inr (8, [.ref (a 1), .ref (a 2), .ref (a 3), .ref (a 4), .int (nI n), .ref (a 5), .ref (a 6), .ref (a 7), .ref (a 8), .ref (a 9)])), (a 1, .inl (cI, 60, .inl F)), (a 2, .inl (cI, 60, .inl T)), (a 3, .inl (cI, 60, .inl P)), (a 4, .inl (cI, 60, .inl V)), (a 5, .inl (cI, 4, .inl Wt)), (a 6, .inl (cI, 60, .inl (fun j => nI (o j)))), (a 7, .inl (cI, 60, .inl G1)), (a 8, .inl (cI, 4, .inl (fun j => nI (laG F T P Wt o nv r j)))), (a 9, .inl (cI, 759375, .inl R))]) [0, 1, 2, 3, 4, 5, 6, 7, 8, 9] rfl
                  have hDc := hD.sub (ws' := [(a 0, .inr (8, [.ref (a 1), .ref (a 2), .ref (a 3), .ref (a 4), .int (nI n), .ref (a 5), .ref (a 6), .ref (a 7), .ref (a 8), .ref (a 9)])), (a 1, .inl (cI, 60, .inl F)), (a 2, .inl (cI, 60, .inl T)), (a 3, .inl (cI, 60, .inl P)), (a 4, .inl (cI, 60, .inl V)), (a 5, .inl (cI, 4, .inl Wt)), (a 6, .inl (cI, 60, .inl (fun j => nI (o j)))), (a 7, .inl (cI, 60, .inl G1)), (a 8, .inl (cI, 4, .inl (fun j => nI (laG F T P Wt o nv r j)))), (a 9, .inl (cI, 759375, .inl R))]) [0, 1, 2, 3, 4, 5, 6, 7, 8, 9] (by decide) rfl
                  have hFc := va_free (wc := [(a 0, .inr (8, [.ref (a 1), .ref (a 2), .ref (a 3), .ref (a 4), .int (nI n), .ref (a 5), .ref (a 6), .ref (a 7), .ref (a 8), .ref (a 9)])), (a 1, .inl (cI, 60, .inl F)), (a 2, .inl (cI, 60, .inl T)), (a 3, .inl (cI, 60, .inl P)), (a 4, .inl (cI, 60, .inl V)), (a 5, .inl (cI, 4, .inl Wt)), (a 6, .inl (cI, 60, .inl (fun j => nI (o j)))), (a 7, .inl (cI, 60, .inl G1)), (a 8, .inl (cI, 4, .inl (fun j => nI (laG F T P Wt o nv r j)))), (a 9, .inl (cI, 759375, .inl R))]) hD hS hA [0, 1, 2, 3, 4, 5, 6, 7, 8, 9] rfl
                  refine va_callv (va_runV (As := []) (rest := []) ⟨hx, hb, hml, hown, hts⟩ (c_X8_give l dC dI cI H.size a n F T P V Wt o G1 (fun j => nI (laG F T P Wt o nv r j)) R hn ho hp) (cwV 0 hts gX8_along_X8_give rfl rfl rfl (by decide +kernel) ⟨Nat.le_of_ble_eq_true rfl, Nat.le_of_ble_eq_true rfl⟩) ⟨gk_fbW, va_recv hK hPc (ci := 8) (q0 := 0) rfl rfl, fun U hU hW => ⟨rfl, by rw [hU], by rw [hU]; exact hPc, va_K.moved hW.alike hK, hDc.weaken (fun _ _ _ _ => trivial)⟩⟩ rfl rfl hl.1 rfl (lv_room (Nat.le_of_ble_eq_true rfl)) dX8_along_118 ⟨Nat.zero_le _, Nat.zero_le _⟩) hS (fun q _ h => hFc q h) hFc (fun u t H1 locs ht hvm hw hB hz1 hk1 hS => ?_)
                  obtain ⟨hP1, hK1, hD1⟩ := hB
                  rw [ht] at hP1
                  try dsimp only at hw
                  obtain ⟨hP, hD⟩ := va_join (wr := []) (w1 := [(a 0, .inr (8, [.ref (a 1), .ref (a 2), .ref (a 3), .ref (a 4), .int (nI n), .ref (a 5), .ref (a 6), .ref (a 7), .ref (a 8), .ref (a 9)])), (a 1, .inl (cI, 60, .inl F)), (a 2, .inl (cI, 60, .inl T)), (a 3, .inl (cI, 60, .inl P)), (a 4, .inl (cI, 60, .inl u)), (a 5, .inl (cI, 4, .inl Wt)), (a 6, .inl (cI, 60, .inl (fun j => nI (o j)))), (a 7, .inl (cI, 60, .inl G1)), (a 8, .inl (cI, 4, .inl (fun j => nI (laG F T P Wt o nv r j)))), (a 9, .inl (cI, 759375, .inl R))]) hP hD [0, 1, 2, 3, 4, 5, 6, 7, 8, 9] [] rfl rfl (by decide) (by decide) hk1 hFc hP1 hD1
                  generalize H1 = H at hP hS ⊢
                  have hP : va_P (dC, dI) vwCl [(a 0, .inr (8, [.ref (a 1), .ref (a 2), .ref (a 3), .ref (a 4), .int (nI n), .ref (a 5), .ref (a 6), .ref (a 7), .ref (a 8), .ref (a 9)])), (a 1, .inl (cI, 60, .inl F)), (a 2, .inl (cI, 60, .inl T)), (a 3, .inl (cI, 60, .inl P)), (a 4, .inl (cI, 60, .inl u)), (a 5, .inl (cI, 4, .inl Wt)), (a 6, .inl (cI, 60, .inl (fun j => nI (o j)))), (a 7, .inl (cI, 60, .inl G1)), (a 8, .inl (cI, 4, .inl (fun j => nI (laG F T P Wt o nv r j)))), (a 9, .inl (cI, 759375, .inl R))] H := hP
                  have hD : va_D A [(a 0, .inr (8, [.ref (a 1), .ref (a 2), .ref (a 3), .ref (a 4), .int (nI n), .ref (a 5), .ref (a 6), .ref (a 7), .ref (a 8), .ref (a 9)])), (a 1, .inl (cI, 60, .inl F)), (a 2, .inl (cI, 60, .inl T)), (a 3, .inl (cI, 60, .inl P)), (a 4, .inl (cI, 60, .inl u)), (a 5, .inl (cI, 4, .inl Wt)), (a 6, .inl (cI, 60, .inl (fun j => nI (o j)))), (a 7, .inl (cI, 60, .inl G1)), (a 8, .inl (cI, 4, .inl (fun j => nI (laG F T P Wt o nv r j)))), (a 9, .inl (cI, 759375, .inl R))] := hD
                  obtain ⟨w1, w2⟩ := hw
                  refine lv_iconst (v := 1) hx hb dX8_along_121 (by decide) ?_
                  exact W.iret (v := 1) hx hb hr (fun t ht hW => ⟨⟨_, ((n, F, T, P, u, Wt, o), (G1, (fun j => nI (laG F T P Wt o nv r j)), R)), rfl, (by refine ⟨u, G1, _, rfl, fun h => absurd (nv_no hv1 hv2 ev) h, fun nw h1 h2 e1 => ?_⟩; obtain rfl := nv_eq hv2 h2 ev e1; exact Or.inl ⟨rfl, fun j hj => hc1 j (by omega), fun j hj => (w1 j hj).trans (hc2 j (by omega)), w2⟩), by rw [ht]; exact hP, va_K.moved hW.alike hK, hD⟩, hS.F ht⟩) hS.2.2 dX8_along_122
                · skip
                  have c_4 : r < n := gk_geF (a := r) (b := n) (by first | omega | exact Nat.lt_trans (ho _) (by decide) | exact Nat.lt_of_le_of_lt atN_le (by omega) | exact Nat.lt_of_le_of_lt szN_le (by omega) | exact Nat.lt_of_le_of_lt clM_le (by omega) | exact Nat.lt_of_le_of_lt rkN_le (by omega) | exact Nat.lt_of_le_of_lt (cnt_le _ _) (by omega)) (by first | omega | exact Nat.lt_trans (ho _) (by decide) | exact Nat.lt_of_le_of_lt atN_le (by omega) | exact Nat.lt_of_le_of_lt szN_le (by omega) | exact Nat.lt_of_le_of_lt clM_le (by omega) | exact Nat.lt_of_le_of_lt rkN_le (by omega) | exact Nat.lt_of_le_of_lt (cnt_le _ _) (by omega)) c_4
                  refine lv_ldc (v := 2000000000) hx hb hown k_1 dX8_along_43 ?_
                  refine lv_istore_n (lv' := [(3, .int 2000000000), (0, .ref (a 0)), (1, .int x), (2, .int (nI r))]) hx hb dX8_along_45 rfl hl (by decide) rfl (fun ls hl => ?_)
                  refine lv_iconst (v := (-1)) hx hb dX8_along_46 (by decide) ?_
                  refine lv_istore (lv' := [(4, .int (-1)), (3, .int 2000000000), (0, .ref (a 0)), (1, .int x), (2, .int (nI r))]) hx hb dX8_along_47 hl (by decide) rfl (fun ls hl => ?_)
                  refine lv_iconst (v := 0) hx hb dX8_along_49 (by decide) ?_
                  refine lv_istore (lv' := [(5, .int 0), (4, .int (-1)), (3, .int 2000000000), (0, .ref (a 0)), (1, .int x), (2, .int (nI r))]) hx hb dX8_along_50 hl (by decide) rfl (fun ls hl => ?_)
                  have L52 : ∀ (fu : Nat) (v : Nat) (x3 x4 x5 : Int32) (H : Heap) (locs : List Loc) (ls : Array Slot), x3 = (mn (prc F T P Wt o (laG F T P Wt o nv r) r) v).2 → x4 = oi (mn (prc F T P Wt o (laG F T P Wt o nv r) r) v).1 → x5 = nI v → v ≤ nv → nv - v < fu → va_P (dC, dI) vwCl [(a 0, .inr (8, [.ref (a 1), .ref (a 2), .ref (a 3), .ref (a 4), .int (nI n), .ref (a 5), .ref (a 6), .ref (a 7), .ref (a 8), .ref (a 9)])), (a 1, .inl (cI, 60, .inl F)), (a 2, .inl (cI, 60, .inl T)), (a 3, .inl (cI, 60, .inl P)), (a 4, .inl (cI, 60, .inl V)), (a 5, .inl (cI, 4, .inl Wt)), (a 6, .inl (cI, 60, .inl (fun j => nI (o j)))), (a 7, .inl (cI, 60, .inl G1)), (a 8, .inl (cI, 4, .inl (fun j => nI (laG F T P Wt o nv r j)))), (a 9, .inl (cI, 759375, .inl R))] H → va_D A [(a 0, .inr (8, [.ref (a 1), .ref (a 2), .ref (a 3), .ref (a 4), .int (nI n), .ref (a 5), .ref (a 6), .ref (a 7), .ref (a 8), .ref (a 9)])), (a 1, .inl (cI, 60, .inl F)), (a 2, .inl (cI, 60, .inl T)), (a 3, .inl (cI, 60, .inl P)), (a 4, .inl (cI, 60, .inl V)), (a 5, .inl (cI, 4, .inl Wt)), (a 6, .inl (cI, 60, .inl (fun j => nI (o j)))), (a 7, .inl (cI, 60, .inl G1)), (a 8, .inl (cI, 4, .inl (fun j => nI (laG F T P Wt o nv r j)))), (a 9, .inl (cI, 759375, .inl R))] → va_S A s.heap H locs → lv_has ls 7 [(0, .ref (a 0)), (1, .int x), (2, .int (nI r)), (3, .int x3), (4, .int x4), (5, .int x5)] → W p l e (headSpec wsX8_along ({ frames := 2, cells := 0, slots := 0, locals := 48 } : Room)).room s m [.ref (a 0), .int x].toArray below meth c H locs 0 0 (MQ below (va_Qi (fun (rr : Int32) (u : SS × MJ) => ∃ V1 G1 L1 : Nat → Int32, u = ((n, F, T, P, V1, Wt, o), (G1, L1, R)) ∧ (¬ (1 ≤ x ∧ x ≤ 4) → rr = -2 ∧ V1 = V) ∧ (∀ nv, 1 ≤ nv → nv ≤ 4 → x = nI nv → (rr = 1 ∧ (∀ j, j < n → chM F T P Wt o nv j ≠ 0) ∧ (∀ j, j < n → V1 (o j) = nI (chM F T P Wt o nv j - 1)) ∧ (∀ j, n ≤ j → V1 j = V j)) ∨ (rr = -1 ∧ (∃ r, r < n ∧ chM F T P Wt o nv r = 0 ∧ ∀ j, j < r → chM F T P Wt o nv j ≠ 0) ∧ V1 = V))) (fun u t => va_P (dC, dI) vwCl (mWu cI a u.1 u.2) t.heap ∧ va_K (dC, dI) vwCl [(cI, .int)] t ∧ va_D A (mWu cI a u.1 u.2)) A) [.ref (a 0), .int x].toArray s 0 0 A) (F0 m 52 ls []) := by
                    intro fu
                    induction fu with
                    | zero =>
                      intro v x3 x4 x5 H locs ls e3 e4 e5 hv4 hfu52 hP hD hS hl
                      exact absurd hfu52 (Nat.not_lt_zero _)
                    | succ fu ih52 =>
                      intro v x3 x4 x5 H locs ls e3 e4 e5 hv4 hfu52 hP hD hS hl
                      subst e3
                      subst e4
                      subst e5
                      refine lv_iload hx hb dX8_along_52 (lv_at hl 5 rfl) ?_
                      refine lv_iload_n hx hb dX8_along_54 rfl (lv_at hl 1 rfl) ?_
                      refine gk_top (y := nI nv) (ev) ?_
                      refine lv_icmp_ge (tgt := 86) hx hb dX8_along_55 (by decide) (fun c_6 => ?_) (fun c_6 => ?_)
                      · skip
                        have c_6 : v ≥ nv := gk_geT (a := v) (b := nv) (by first | omega | exact Nat.lt_trans (ho _) (by decide) | exact Nat.lt_of_le_of_lt atN_le (by omega) | exact Nat.lt_of_le_of_lt szN_le (by omega) | exact Nat.lt_of_le_of_lt clM_le (by omega) | exact Nat.lt_of_le_of_lt rkN_le (by omega) | exact Nat.lt_of_le_of_lt (cnt_le _ _) (by omega)) (by first | omega | exact Nat.lt_trans (ho _) (by decide) | exact Nat.lt_of_le_of_lt atN_le (by omega) | exact Nat.lt_of_le_of_lt szN_le (by omega) | exact Nat.lt_of_le_of_lt clM_le (by omega) | exact Nat.lt_of_le_of_lt rkN_le (by omega) | exact Nat.lt_of_le_of_lt (cnt_le _ _) (by omega)) c_6
                        obtain rfl : nv = v := by omega
                        have hl : lv_has ls 7 [(0, .ref (a 0)), (1, .int x), (2, .int (nI r)), (3, .int ((mn (prc F T P Wt o (laG F T P Wt o nv r) r) nv).2)), (4, .int (oi (chM F T P Wt o nv r))), (5, .int (nI nv))] := hl
                        refine lv_iload hx hb dX8_along_86 (lv_at hl 4 rfl) ?_
                        refine lv_if_ge (tgt := 93) hx hb dX8_along_88 (by decide) (fun c_7 => ?_) (fun c_7 => ?_)
                        · skip
                          have c_7 : (chM F T P Wt o nv r) ≠ 0 := (oi_ge (by have := hcm r; omega)).mp (by first | exact c_7 | exact Int32.not_lt.mp c_7)
                          refine lv_aload_n hx hb dX8_along_93 rfl (lv_at hl 0 rfl) ?_
                          refine va_get (D := (dC, dI)) (ci := 8) (v := .ref (a 7)) (C := RX8) (T := TX8) (N := 10) hx hb hts i_X8 hown hK hP 0 rfl rfl 7 (by decide) k_2 (fun _ h9 => h9) rfl dX8_along_94 ?_
                          refine lv_iload_n hx hb dX8_along_97 rfl (lv_at hl 2 rfl) ?_
                          refine lv_iload hx hb dX8_along_98 (lv_at hl 4 rfl) ?_
                          refine gk_top (y := nI (chM F T P Wt o nv r - 1)) (oi_pos (by assumption)) ?_
                          refine gk_st hx hb hK hP hD hS 7 0 rfl rfl r (by omega) (by omega) dX8_along_100 (fun H locs hP hD hS => ?_)
                          have hP : va_P (dC, dI) vwCl [(a 0, .inr (8, [.ref (a 1), .ref (a 2), .ref (a 3), .ref (a 4), .int (nI n), .ref (a 5), .ref (a 6), .ref (a 7), .ref (a 8), .ref (a 9)])), (a 1, .inl (cI, 60, .inl F)), (a 2, .inl (cI, 60, .inl T)), (a 3, .inl (cI, 60, .inl P)), (a 4, .inl (cI, 60, .inl V)), (a 5, .inl (cI, 4, .inl Wt)), (a 6, .inl (cI, 60, .inl (fun j => nI (o j)))), (a 7, .inl (cI, 60, .inl (upd G1 r (nI (chM F T P Wt o nv r - 1))))), (a 8, .inl (cI, 4, .inl (fun j => nI (laG F T P Wt o nv r j)))), (a 9, .inl (cI, 759375, .inl R))] H := hP
                          have hD : va_D A [(a 0, .inr (8, [.ref (a 1), .ref (a 2), .ref (a 3), .ref (a 4), .int (nI n), .ref (a 5), .ref (a 6), .ref (a 7), .ref (a 8), .ref (a 9)])), (a 1, .inl (cI, 60, .inl F)), (a 2, .inl (cI, 60, .inl T)), (a 3, .inl (cI, 60, .inl P)), (a 4, .inl (cI, 60, .inl V)), (a 5, .inl (cI, 4, .inl Wt)), (a 6, .inl (cI, 60, .inl (fun j => nI (o j)))), (a 7, .inl (cI, 60, .inl (upd G1 r (nI (chM F T P Wt o nv r - 1))))), (a 8, .inl (cI, 4, .inl (fun j => nI (laG F T P Wt o nv r j)))), (a 9, .inl (cI, 759375, .inl R))] := hD
                          refine lv_aload_n hx hb dX8_along_101 rfl (lv_at hl 0 rfl) ?_
                          refine va_get (D := (dC, dI)) (ci := 8) (v := .ref (a 8)) (C := RX8) (T := TX8) (N := 10) hx hb hts i_X8 hown hK hP 0 rfl rfl 8 (by decide) k_3 (fun _ h9 => h9) rfl dX8_along_102 ?_
                          refine lv_iload hx hb dX8_along_105 (lv_at hl 4 rfl) ?_
                          refine gk_top (y := nI (chM F T P Wt o nv r - 1)) (oi_pos (by assumption)) ?_
                          refine lv_iload_n hx hb dX8_along_107 rfl (lv_at hl 2 rfl) ?_
                          refine lv_iconst (v := 1) hx hb dX8_along_108 (by decide) ?_
                          refine lv_iadd hx hb dX8_along_109 ?_
                          refine gk_top (y := nI (r + 1)) (gk_addl _ _ _ (by decide)) ?_
                          refine gk_st hx hb hK hP hD hS 8 0 rfl rfl (chM F T P Wt o nv r - 1) (by have := hcm r; omega) (by omega) dX8_along_110 (fun H locs hP hD hS => ?_)
                          have hP : va_P (dC, dI) vwCl [(a 0, .inr (8, [.ref (a 1), .ref (a 2), .ref (a 3), .ref (a 4), .int (nI n), .ref (a 5), .ref (a 6), .ref (a 7), .ref (a 8), .ref (a 9)])), (a 1, .inl (cI, 60, .inl F)), (a 2, .inl (cI, 60, .inl T)), (a 3, .inl (cI, 60, .inl P)), (a 4, .inl (cI, 60, .inl V)), (a 5, .inl (cI, 4, .inl Wt)), (a 6, .inl (cI, 60, .inl (fun j => nI (o j)))), (a 7, .inl (cI, 60, .inl (upd G1 r (nI (chM F T P Wt o nv r - 1))))), (a 8, .inl (cI, 4, .inl (upd (fun j => nI (laG F T P Wt o nv r j)) (chM F T P Wt o nv r - 1) (nI (r + 1))))), (a 9, .inl (cI, 759375, .inl R))] H := hP
                          have hD : va_D A [(a 0, .inr (8, [.ref (a 1), .ref (a 2), .ref (a 3), .ref (a 4), .int (nI n), .ref (a 5), .ref (a 6), .ref (a 7), .ref (a 8), .ref (a 9)])), (a 1, .inl (cI, 60, .inl F)), (a 2, .inl (cI, 60, .inl T)), (a 3, .inl (cI, 60, .inl P)), (a 4, .inl (cI, 60, .inl V)), (a 5, .inl (cI, 4, .inl Wt)), (a 6, .inl (cI, 60, .inl (fun j => nI (o j)))), (a 7, .inl (cI, 60, .inl (upd G1 r (nI (chM F T P Wt o nv r - 1))))), (a 8, .inl (cI, 4, .inl (upd (fun j => nI (laG F T P Wt o nv r j)) (chM F T P Wt o nv r - 1) (nI (r + 1))))), (a 9, .inl (cI, 759375, .inl R))] := hD
                          have eR : upd (fun j => nI (laG F T P Wt o nv r j)) (chM F T P Wt o nv r - 1) (nI (r + 1)) = (fun j => nI (updN (laG F T P Wt o nv r) (chM F T P Wt o nv r - 1) (r + 1) j)) := upd_nI
                          rw [eR] at hP hD
                          have hP : va_P (dC, dI) vwCl [(a 0, .inr (8, [.ref (a 1), .ref (a 2), .ref (a 3), .ref (a 4), .int (nI n), .ref (a 5), .ref (a 6), .ref (a 7), .ref (a 8), .ref (a 9)])), (a 1, .inl (cI, 60, .inl F)), (a 2, .inl (cI, 60, .inl T)), (a 3, .inl (cI, 60, .inl P)), (a 4, .inl (cI, 60, .inl V)), (a 5, .inl (cI, 4, .inl Wt)), (a 6, .inl (cI, 60, .inl (fun j => nI (o j)))), (a 7, .inl (cI, 60, .inl (upd G1 r (nI (chM F T P Wt o nv r - 1))))), (a 8, .inl (cI, 4, .inl (fun j => nI (updN (laG F T P Wt o nv r) (chM F T P Wt o nv r - 1) (r + 1) j)))), (a 9, .inl (cI, 759375, .inl R))] H := hP
                          have hD : va_D A [(a 0, .inr (8, [.ref (a 1), .ref (a 2), .ref (a 3), .ref (a 4), .int (nI n), .ref (a 5), .ref (a 6), .ref (a 7), .ref (a 8), .ref (a 9)])), (a 1, .inl (cI, 60, .inl F)), (a 2, .inl (cI, 60, .inl T)), (a 3, .inl (cI, 60, .inl P)), (a 4, .inl (cI, 60, .inl V)), (a 5, .inl (cI, 4, .inl Wt)), (a 6, .inl (cI, 60, .inl (fun j => nI (o j)))), (a 7, .inl (cI, 60, .inl (upd G1 r (nI (chM F T P Wt o nv r - 1))))), (a 8, .inl (cI, 4, .inl (fun j => nI (updN (laG F T P Wt o nv r) (chM F T P Wt o nv r - 1) (r + 1) j)))), (a 9, .inl (cI, 759375, .inl R))] := hD
                          refine lv_iinc (v := nI (r + 1)) (lv' := [(2, .int (nI (r + 1))), (0, .ref (a 0)), (1, .int x), (3, .int ((mn (prc F T P Wt o (laG F T P Wt o nv r) r) nv).2)), (4, .int (oi (chM F T P Wt o nv r))), (5, .int (nI nv))]) hx hb dX8_along_111 hl (k := 2) rfl (gk_inc1 _) (by decide) rfl (fun ls hl => ?_)
                          refine lv_goto (tgt := 35) hx hb dX8_along_114 (by decide) ?_
                          exact ih35 (r + 1) _ _ _ _ _ ls (by rfl) (by rfl) (by omega) (by first | exact fun j hj => absurd hj (Nat.not_lt_zero j) | exact fun j hj => (Nat.lt_succ_iff_lt_or_eq.mp hj).elim (hc1 j) (fun e => e ▸ (by assumption))) (by first | exact fun j hj => absurd hj (Nat.not_lt_zero j) | exact row_step (f := fun j => nI (chM F T P Wt o nv j - 1)) hc2) (by omega) hP hD hS (lv_sub hl [1, 2, 0] rfl)
                        · skip
                          have c_7 : (chM F T P Wt o nv r) = 0 := Decidable.not_not.mp (fun q => absurd c_7 (by first | exact Int32.not_lt.mpr ((oi_ge (by have := hcm r; omega)).mpr q) | exact fun w => w ((oi_ge (by have := hcm r; omega)).mpr q)))
                          refine lv_iconst (v := (-1)) hx hb dX8_along_91 (by decide) ?_
                          exact W.iret (v := (-1)) hx hb hr (fun t ht hW => ⟨⟨_, ((n, F, T, P, V, Wt, o), (G1, (fun j => nI (laG F T P Wt o nv r j)), R)), rfl, (by refine ⟨V, G1, _, rfl, fun h => absurd (nv_no hv1 hv2 ev) h, fun nw h1 h2 e1 => ?_⟩; obtain rfl := nv_eq hv2 h2 ev e1; exact Or.inr ⟨rfl, ⟨r, by omega, by assumption, hc1⟩, rfl⟩), by rw [ht]; exact hP, va_K.moved hW.alike hK, hD⟩, hS.F ht⟩) hS.2.2 dX8_along_92
                      · skip
                        have c_6 : v < nv := gk_geF (a := v) (b := nv) (by first | omega | exact Nat.lt_trans (ho _) (by decide) | exact Nat.lt_of_le_of_lt atN_le (by omega) | exact Nat.lt_of_le_of_lt szN_le (by omega) | exact Nat.lt_of_le_of_lt clM_le (by omega) | exact Nat.lt_of_le_of_lt rkN_le (by omega) | exact Nat.lt_of_le_of_lt (cnt_le _ _) (by omega)) (by first | omega | exact Nat.lt_trans (ho _) (by decide) | exact Nat.lt_of_le_of_lt atN_le (by omega) | exact Nat.lt_of_le_of_lt szN_le (by omega) | exact Nat.lt_of_le_of_lt clM_le (by omega) | exact Nat.lt_of_le_of_lt rkN_le (by omega) | exact Nat.lt_of_le_of_lt (cnt_le _ _) (by omega)) c_6
                        refine lv_aload_n hx hb dX8_along_58 rfl (lv_at hl 0 rfl) ?_
                        refine lv_iload_n hx hb dX8_along_59 rfl (lv_at hl 2 rfl) ?_
                        refine lv_iload hx hb dX8_along_60 (lv_at hl 5 rfl) ?_
                        refine vp_callSi (gk_run (va_runV (As := [.int (nI r), .int (nI v)]) (rest := []) ⟨hx, hb, hml, hown, hts⟩ (c_X8_price l dC dI cI a n F T P V Wt o G1 (laG F T P Wt o nv r) R hn ho (fun j => Nat.le_trans (laG_le r j) (by omega)) r v (by omega) (by omega)) (cwV 2 hts gX8_along_X8_price rfl rfl rfl (by decide +kernel) ⟨Nat.le_of_ble_eq_true rfl, Nat.le_of_ble_eq_true rfl⟩) ⟨gk_fb, va_recv hK hP (ci := 8) (q0 := 0) rfl rfl, fun U hU hW => ⟨rfl, by rw [hU]; exact hP, va_K.moved hW.alike hK⟩⟩ rfl rfl hl.1 rfl (lv_room (Nat.le_of_ble_eq_true rfl)) dX8_along_62 ⟨Nat.zero_le _, Nat.zero_le _⟩)) (fun r_8 er_8 => ?_)
                        subst er_8
                        refine lv_istore (lv' := [(6, .int (prc F T P Wt o (laG F T P Wt o nv r) r v)), (0, .ref (a 0)), (1, .int x), (2, .int (nI r)), (3, .int ((mn (prc F T P Wt o (laG F T P Wt o nv r) r) v).2)), (4, .int (oi (mn (prc F T P Wt o (laG F T P Wt o nv r) r) v).1)), (5, .int (nI v))]) hx hb dX8_along_65 hl (by decide) rfl (fun ls hl => ?_)
                        refine lv_iload hx hb dX8_along_67 (lv_at hl 0 rfl) ?_
                        refine lv_iload_n hx hb dX8_along_69 rfl (lv_at hl 4 rfl) ?_
                        refine lv_icmp_ge (tgt := 80) hx hb dX8_along_70 (by decide) (fun c_9 => ?_) (fun c_9 => ?_)
                        · skip
                          refine lv_iinc (v := nI (v + 1)) (lv' := [(5, .int (nI (v + 1))), (6, .int (prc F T P Wt o (laG F T P Wt o nv r) r v)), (0, .ref (a 0)), (1, .int x), (2, .int (nI r)), (3, .int ((mn (prc F T P Wt o (laG F T P Wt o nv r) r) v).2)), (4, .int (oi (mn (prc F T P Wt o (laG F T P Wt o nv r) r) v).1))]) hx hb dX8_along_80 hl (k := 6) rfl (gk_inc1 _) (by decide) rfl (fun ls hl => ?_)
                          refine lv_goto (tgt := 52) hx hb dX8_along_83 (by decide) ?_
                          exact ih52 (v + 1) _ _ _ _ _ ls (by rw [mn_n (Int32.not_lt.mpr (by assumption))]) (by rw [mn_n (Int32.not_lt.mpr (by assumption))]) (by rfl) (by omega) (by omega) hP hD hS (lv_sub hl [2, 3, 4, 5, 6, 0] rfl)
                        · skip
                          refine lv_iload hx hb dX8_along_73 (lv_at hl 0 rfl) ?_
                          refine lv_istore_n (lv' := [(3, .int (prc F T P Wt o (laG F T P Wt o nv r) r v)), (6, .int (prc F T P Wt o (laG F T P Wt o nv r) r v)), (0, .ref (a 0)), (1, .int x), (2, .int (nI r)), (4, .int (oi (mn (prc F T P Wt o (laG F T P Wt o nv r) r) v).1)), (5, .int (nI v))]) hx hb dX8_along_75 rfl hl (by decide) rfl (fun ls hl => ?_)
                          refine lv_iload hx hb dX8_along_76 (lv_at hl 6 rfl) ?_
                          refine lv_istore (lv' := [(4, .int (nI v)), (3, .int (prc F T P Wt o (laG F T P Wt o nv r) r v)), (6, .int (prc F T P Wt o (laG F T P Wt o nv r) r v)), (0, .ref (a 0)), (1, .int x), (2, .int (nI r)), (5, .int (nI v))]) hx hb dX8_along_78 hl (by decide) rfl (fun ls hl => ?_)
                          refine lv_iinc (v := nI (v + 1)) (lv' := [(5, .int (nI (v + 1))), (4, .int (nI v)), (3, .int (prc F T P Wt o (laG F T P Wt o nv r) r v)), (6, .int (prc F T P Wt o (laG F T P Wt o nv r) r v)), (0, .ref (a 0)), (1, .int x), (2, .int (nI r))]) hx hb dX8_along_80 hl (k := 6) rfl (gk_inc1 _) (by decide) rfl (fun ls hl => ?_)
                          refine lv_goto (tgt := 52) hx hb dX8_along_83 (by decide) ?_
                          exact ih52 (v + 1) _ _ _ _ _ ls (by rw [mn_y (Int32.not_le.mp (by assumption))]) (by rw [mn_y (Int32.not_le.mp (by assumption))]; exact (oi_s v).symm) (by rfl) (by omega) (by omega) hP hD hS (lv_sub hl [4, 5, 6, 2, 1, 0] rfl)
                  exact L52 ((nv) + 1) 0 _ _ _ _ _ ls (by rfl) (by rfl) (by rfl) (by omega) (by omega) hP hD hS (lv_sub hl [3, 4, 5, 2, 1, 0] rfl)
            exact L35 ((n) + 1) 0 _ _ _ _ _ ls (by rfl) (by rfl) (by omega) (by first | exact fun j hj => absurd hj (Nat.not_lt_zero j) | exact fun j hj => (Nat.lt_succ_iff_lt_or_eq.mp hj).elim (hc1 j) (fun e => e ▸ (by assumption))) (by first | exact fun j hj => absurd hj (Nat.not_lt_zero j) | exact row_step (f := fun j => nI (chM F T P Wt o nv j - 1)) hc2) (by omega) hP hD hS (lv_sub hl [1, 2, 0] rfl)
          · skip
            have c_3 : v < 4 := gk_geF (a := v) (b := 4) (by first | omega | exact Nat.lt_trans (ho _) (by decide) | exact Nat.lt_of_le_of_lt atN_le (by omega) | exact Nat.lt_of_le_of_lt szN_le (by omega) | exact Nat.lt_of_le_of_lt clM_le (by omega) | exact Nat.lt_of_le_of_lt rkN_le (by omega) | exact Nat.lt_of_le_of_lt (cnt_le _ _) (by omega)) (by first | omega | exact Nat.lt_trans (ho _) (by decide) | exact Nat.lt_of_le_of_lt atN_le (by omega) | exact Nat.lt_of_le_of_lt szN_le (by omega) | exact Nat.lt_of_le_of_lt clM_le (by omega) | exact Nat.lt_of_le_of_lt rkN_le (by omega) | exact Nat.lt_of_le_of_lt (cnt_le _ _) (by omega)) c_3
            refine lv_aload_n hx hb dX8_along_20 rfl (lv_at hl 0 rfl) ?_
            refine va_get (D := (dC, dI)) (ci := 8) (v := .ref (a 8)) (C := RX8) (T := TX8) (N := 10) hx hb hts i_X8 hown hK hP 0 rfl rfl 8 (by decide) k_3 (fun _ h9 => h9) rfl dX8_along_21 ?_
            refine lv_iload_n hx hb dX8_along_24 rfl (lv_at hl 2 rfl) ?_
            refine lv_iconst (v := 0) hx hb dX8_along_25 (by decide) ?_
            refine gk_st hx hb hK hP hD hS 8 0 rfl rfl v (by omega) (by omega) dX8_along_26 (fun H locs hP hD hS => ?_)
            have hP : va_P (dC, dI) vwCl [(a 0, .inr (8, [.ref (a 1), .ref (a 2), .ref (a 3), .ref (a 4), .int (nI n), .ref (a 5), .ref (a 6), .ref (a 7), .ref (a 8), .ref (a 9)])), (a 1, .inl (cI, 60, .inl F)), (a 2, .inl (cI, 60, .inl T)), (a 3, .inl (cI, 60, .inl P)), (a 4, .inl (cI, 60, .inl V)), (a 5, .inl (cI, 4, .inl Wt)), (a 6, .inl (cI, 60, .inl (fun j => nI (o j)))), (a 7, .inl (cI, 60, .inl G)), (a 8, .inl (cI, 4, .inl (upd L1 v 0))), (a 9, .inl (cI, 759375, .inl R))] H := hP
            have hD : va_D A [(a 0, .inr (8, [.ref (a 1), .ref (a 2), .ref (a 3), .ref (a 4), .int (nI n), .ref (a 5), .ref (a 6), .ref (a 7), .ref (a 8), .ref (a 9)])), (a 1, .inl (cI, 60, .inl F)), (a 2, .inl (cI, 60, .inl T)), (a 3, .inl (cI, 60, .inl P)), (a 4, .inl (cI, 60, .inl V)), (a 5, .inl (cI, 4, .inl Wt)), (a 6, .inl (cI, 60, .inl (fun j => nI (o j)))), (a 7, .inl (cI, 60, .inl G)), (a 8, .inl (cI, 4, .inl (upd L1 v 0))), (a 9, .inl (cI, 759375, .inl R))] := hD
            refine lv_iinc (v := nI (v + 1)) (lv' := [(2, .int (nI (v + 1))), (0, .ref (a 0)), (1, .int x)]) hx hb dX8_along_27 hl (k := 2) rfl (gk_inc1 _) (by decide) rfl (fun ls hl => ?_)
            refine lv_goto (tgt := 15) hx hb dX8_along_30 (by decide) ?_
            exact ih15 (v + 1) _ _ _ _ ls (by rfl) (by omega) (by first | exact fun j hj => absurd hj (Nat.not_lt_zero j) | exact row_step (f := fun _ => 0) hL1) (by omega) hP hD hS (lv_sub hl [1, 2, 0] rfl)
      exact L15 ((4) + 1) 0 _ _ _ _ ls (by rfl) (by omega) (by first | exact fun j hj => absurd hj (Nat.not_lt_zero j) | exact row_step (f := fun _ => 0) hL1) (by omega) hP hD hS (lv_sub hl [1, 2, 0] rfl)
    · skip
      refine lv_bipush (v := (-2)) hx hb dX8_along_10 (by decide) ?_
      exact W.iret (v := (-2)) hx hb hr (fun t ht hW => ⟨⟨_, ((n, F, T, P, V, Wt, o), (G, L, R)), rfl, (by refine ⟨V, G, L, rfl, fun _ => ⟨rfl, rfl⟩, fun nv h1 h2 e1 => ?_⟩; exfalso; have hx9 := nv_no h1 h2 e1; (simp only [decide_eq_true_eq, decide_eq_false_iff_not, Bool.and_eq_true, Bool.and_eq_false_iff, Bool.or_eq_true, Bool.or_eq_false_iff, Bool.not_eq_true, Bool.not_eq_false, ne_eq, not_and, not_or, tog_t, tog_f, ahd_t, ahd_f, isoB_t, isoB_f, ixB_t, ixB_f, vOK_t, vOK_f, wOK_t, wOK_f, tn4, tI5, Int32.lt_iff_toInt_lt, Int32.le_iff_toInt_le, ← Int32.toInt_inj, tI0, tI1, tI2, tI3, tI4, tI6, tI14, tI59, tI60, tI127, tI1000, tI100000, tIm1, tIm2, tIm3, tIm4, tIbig] at hx9 c_1 c_2; first | done | omega)), by rw [ht]; exact hP, va_K.moved hW.alike hK, hD⟩, hS.F ht⟩) hS.2.2 dX8_along_12
