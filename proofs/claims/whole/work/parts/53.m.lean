set_option maxHeartbeats 1000000 in
set_option maxRecDepth 100000 in
theorem c_J7_fill_53178 (l : Launch) (dC : Nat → ClassId) (dI : Nat → Nat → Nat) (cI : ClassId) (sz : Nat) (q N : Nat) (f : Nat → Int32) (hN : N < 2 ^ 31) (x : Int32) : Met l yJ7_fill_53178 wsJ7_fill_53178 ({ frames := 0, cells := 0, slots := 0, locals := 0 } : Room) (va_Pc [.ref q, .int x] (fun U => U.heap.size = sz ∧ va_P (dC, dI) vwCl [(q, .inl (cI, N, .inl f))] U.heap ∧ va_K (dC, dI) vwCl [(cI, .int)] U ∧ va_D (fun _ => True) [(q, .inl (cI, N, .inl f))])) (va_Qv (fun _ : Unit => True) (fun u t => va_P (dC, dI) vwCl [(q, .inl (cI, N, .inl (fillF f x 0 N)))] t.heap ∧ va_K (dC, dI) vwCl [(cI, .int)] t ∧ va_D (va_A [(q, .inl (cI, N, .inl f))] sz) [(q, .inl (cI, N, .inl (fillF f x 0 N)))]) (va_A [(q, .inl (cI, N, .inl f))] sz)) 0 0 (va_A [(q, .inl (cI, N, .inl f))] sz) := by
  refine Met.ofW (cc := cJ7_fill_53178) (maxL := 4) (ret := none) (by decide) rfl ?_
  intro p e s m args below meth c s₁ B hml hv
  obtain ⟨rfl, hsz, hP, hK, hD0⟩ := hv
  have hx := B.exec
  have hb := B.bytes
  have hr := B.returns
  have hts := atoms_spec (ws := wsJ7_fill_53178) B.pre
  have hown : s.vm.findClass RJ7 = some m.cls := findClass_of_methodNamed B.named
  have hlocks := B.notSynchronized
  subst hsz
  have hD := hD0.self (sz := s.heap.size)
  generalize hAe : va_A [(q, .inl (cI, N, .inl f))] s.heap.size = A at hD ⊢
  have hA : ∀ q : Nat, s.heap.size ≤ q → A q := fun q h => by rw [← hAe]; exact Or.inr h
  have hS : va_S A s.heap s.heap [] := va_S.rf
  have hl := lv_entry ([.ref q, .int x]) (n := 4) (Nat.le_of_ble_eq_true rfl)
  rw [lg_entry_eq]
  generalize (lg_sl ([.ref q, .int x]) ++ List.replicate (4 - (lg_sl ([.ref q, .int x])).length) Slot.unset).toArray = ls at hl ⊢
  have hl : lv_has ls 4 [(0, .ref q), (1, .int x)] := hl
  refine lv_iconst (v := 0) hx hb dJ7_fill_53178_0 (by decide) ?_
  refine lv_istore_n (lv' := [(2, .int 0), (0, .ref q), (1, .int x)]) hx hb dJ7_fill_53178_1 rfl hl (by decide) rfl (fun ls hl => ?_)
  refine lv_aload_n hx hb dJ7_fill_53178_2 rfl (lv_at hl 1 rfl) ?_
  refine va_alen hx hb hK hP 0 0 rfl rfl (v := nI N) rfl dJ7_fill_53178_3 ?_
  refine lv_istore_n (lv' := [(3, .int (nI N)), (2, .int 0), (0, .ref q), (1, .int x)]) hx hb dJ7_fill_53178_4 rfl hl (by decide) rfl (fun ls hl => ?_)
  have L5 : ∀ (fu : Nat) (i : Nat) (x2 : Int32) (f1 : Nat → Int32) (H : Heap) (locs : List Loc) (ls : Array Slot), x2 = nI i → f1 = fillF f x 0 i → i ≤ N → N - i < fu → va_P (dC, dI) vwCl [(q, .inl (cI, N, .inl f1))] H → va_D A [(q, .inl (cI, N, .inl f1))] → va_S A s.heap H locs → lv_has ls 4 [(0, .ref q), (1, .int x), (2, .int x2), (3, .int (nI N))] → W p l e (headSpec wsJ7_fill_53178 ({ frames := 0, cells := 0, slots := 0, locals := 0 } : Room)).room s m [.ref q, .int x].toArray below meth c H locs 0 0 (MQ below (va_Qv (fun _ : Unit => True) (fun u t => va_P (dC, dI) vwCl [(q, .inl (cI, N, .inl (fillF f x 0 N)))] t.heap ∧ va_K (dC, dI) vwCl [(cI, .int)] t ∧ va_D A [(q, .inl (cI, N, .inl (fillF f x 0 N)))]) A) [.ref q, .int x].toArray s 0 0 A) (F0 m 5 ls []) := by
    intro fu
    induction fu with
    | zero =>
      intro i x2 f1 H locs ls e2 r_f1 hi1 hfu5 hP hD hS hl
      exact absurd hfu5 (Nat.not_lt_zero _)
    | succ fu ih5 =>
      intro i x2 f1 H locs ls e2 r_f1 hi1 hfu5 hP hD hS hl
      subst e2
      subst r_f1
      refine lv_iload_n hx hb dJ7_fill_53178_5 rfl (lv_at hl 2 rfl) ?_
      refine lv_iload_n hx hb dJ7_fill_53178_6 rfl (lv_at hl 3 rfl) ?_
      refine lv_icmp_ge (tgt := 20) hx hb dJ7_fill_53178_7 (by decide) (fun c_1 => ?_) (fun c_1 => ?_)
      · skip
        have c_1 : i ≥ N := gk_geT (a := i) (b := N) (by first | omega | exact Nat.lt_trans (ho _) (by decide) | exact Nat.lt_of_le_of_lt atN_le (by omega) | exact Nat.lt_of_le_of_lt szN_le (by omega) | exact Nat.lt_of_le_of_lt clM_le (by omega) | exact Nat.lt_of_le_of_lt rkN_le (by omega) | exact Nat.lt_of_le_of_lt (cnt_le _ _) (by omega)) (by first | omega | exact Nat.lt_trans (ho _) (by decide) | exact Nat.lt_of_le_of_lt atN_le (by omega) | exact Nat.lt_of_le_of_lt szN_le (by omega) | exact Nat.lt_of_le_of_lt clM_le (by omega) | exact Nat.lt_of_le_of_lt rkN_le (by omega) | exact Nat.lt_of_le_of_lt (cnt_le _ _) (by omega)) c_1
        obtain rfl : i = N := by omega
        exact W.vret hx hb hr (fun t ht hW => ⟨⟨(), rfl, (by exact trivial), by rw [ht]; exact hP, va_K.moved hW.alike hK, hD⟩, hS.F ht⟩) hS.2.2 dJ7_fill_53178_20
      · skip
        have c_1 : i < N := gk_geF (a := i) (b := N) (by first | omega | exact Nat.lt_trans (ho _) (by decide) | exact Nat.lt_of_le_of_lt atN_le (by omega) | exact Nat.lt_of_le_of_lt szN_le (by omega) | exact Nat.lt_of_le_of_lt clM_le (by omega) | exact Nat.lt_of_le_of_lt rkN_le (by omega) | exact Nat.lt_of_le_of_lt (cnt_le _ _) (by omega)) (by first | omega | exact Nat.lt_trans (ho _) (by decide) | exact Nat.lt_of_le_of_lt atN_le (by omega) | exact Nat.lt_of_le_of_lt szN_le (by omega) | exact Nat.lt_of_le_of_lt clM_le (by omega) | exact Nat.lt_of_le_of_lt rkN_le (by omega) | exact Nat.lt_of_le_of_lt (cnt_le _ _) (by omega)) c_1
        refine lv_aload_n hx hb dJ7_fill_53178_10 rfl (lv_at hl 0 rfl) ?_
        refine lv_iload_n hx hb dJ7_fill_53178_11 rfl (lv_at hl 2 rfl) ?_
        refine lv_iload_n hx hb dJ7_fill_53178_12 rfl (lv_at hl 1 rfl) ?_
        refine gk_st hx hb hK hP hD hS 0 0 rfl rfl i (by omega) (by omega) dJ7_fill_53178_13 (fun H locs hP hD hS => ?_)
        have hP : va_P (dC, dI) vwCl [(q, .inl (cI, N, .inl (upd (fillF f x 0 i) i x)))] H := hP
        have hD : va_D A [(q, .inl (cI, N, .inl (upd (fillF f x 0 i) i x)))] := hD
        refine lv_iinc (v := nI (i + 1)) (lv' := [(2, .int (nI (i + 1))), (0, .ref q), (1, .int x), (3, .int (nI N))]) hx hb dJ7_fill_53178_14 hl (k := 2) rfl (gk_inc1 _) (by decide) rfl (fun ls hl => ?_)
        refine lv_goto (tgt := 5) hx hb dJ7_fill_53178_17 (by decide) ?_
        exact ih5 (i + 1) _ _ _ _ ls (by rfl) (by first | exact fillF_0 | exact fillF_s (by omega)) (by omega) (by omega) hP hD hS (lv_sub hl [1, 2, 0, 3] rfl)
  exact L5 ((N) + 1) 0 _ _ _ _ ls (by rfl) (by first | exact fillF_0 | exact fillF_s (by omega)) (by omega) (by omega) hP hD hS (lv_sub hl [2, 3, 1, 0] rfl)

set_option maxHeartbeats 1000000 in
set_option maxRecDepth 100000 in
theorem c_X3_empty (l : Launch) (dC : Nat → ClassId) (dI : Nat → Nat → Nat) (cI : ClassId) (sz : Nat) (b : Nat → Nat) (n : Nat) (F T P V : Nat → Int32) (o kr : Nat → Nat) (hn : n ≤ 60) (ho : ∀ j, o j < 60) (Wt LA : Nat → Int32) : Met l yX3_empty wsX3_empty ({ frames := 1, cells := 0, slots := 0, locals := 23 } : Room) (va_Pc [.ref (b 14)] (fun U => U.heap.size = sz ∧ va_P (dC, dI) vwCl [(b 14, .inr (3, [.ref (b 1), .ref (b 8), .ref (b 15)])), (b 8, .inl (cI, 4, .inl Wt)), (b 15, .inl (cI, 4, .inl LA)), (b 1, .inr (6, [.int (nI n), .ref (b 2), .ref (b 3), .ref (b 4), .ref (b 5), .ref (b 6), .ref (b 7)])), (b 2, .inl (cI, 60, .inl F)), (b 3, .inl (cI, 60, .inl T)), (b 4, .inl (cI, 60, .inl P)), (b 5, .inl (cI, 60, .inl V)), (b 6, .inl (cI, 60, .inl (fun j => nI (o j)))), (b 7, .inl (cI, 60, .inl (fun j => nI (kr j))))] U.heap ∧ va_K (dC, dI) vwCl [(cI, .int)] U ∧ va_D (fun _ => True) [(b 14, .inr (3, [.ref (b 1), .ref (b 8), .ref (b 15)])), (b 8, .inl (cI, 4, .inl Wt)), (b 15, .inl (cI, 4, .inl LA)), (b 1, .inr (6, [.int (nI n), .ref (b 2), .ref (b 3), .ref (b 4), .ref (b 5), .ref (b 6), .ref (b 7)])), (b 2, .inl (cI, 60, .inl F)), (b 3, .inl (cI, 60, .inl T)), (b 4, .inl (cI, 60, .inl P)), (b 5, .inl (cI, 60, .inl V)), (b 6, .inl (cI, 60, .inl (fun j => nI (o j)))), (b 7, .inl (cI, 60, .inl (fun j => nI (kr j))))])) (va_Qv (fun _ : Unit => True) (fun u t => va_P (dC, dI) vwCl [(b 14, .inr (3, [.ref (b 1), .ref (b 8), .ref (b 15)])), (b 8, .inl (cI, 4, .inl Wt)), (b 15, .inl (cI, 4, .inl (fun j => oi (ln0 j)))), (b 1, .inr (6, [.int (nI n), .ref (b 2), .ref (b 3), .ref (b 4), .ref (b 5), .ref (b 6), .ref (b 7)])), (b 2, .inl (cI, 60, .inl F)), (b 3, .inl (cI, 60, .inl T)), (b 4, .inl (cI, 60, .inl P)), (b 5, .inl (cI, 60, .inl V)), (b 6, .inl (cI, 60, .inl (fun j => nI (o j)))), (b 7, .inl (cI, 60, .inl (fun j => nI (kr j))))] t.heap ∧ va_K (dC, dI) vwCl [(cI, .int)] t ∧ va_D (va_A [(b 14, .inr (3, [.ref (b 1), .ref (b 8), .ref (b 15)])), (b 8, .inl (cI, 4, .inl Wt)), (b 15, .inl (cI, 4, .inl LA)), (b 1, .inr (6, [.int (nI n), .ref (b 2), .ref (b 3), .ref (b 4), .ref (b 5), .ref (b 6), .ref (b 7)])), (b 2, .inl (cI, 60, .inl F)), (b 3, .inl (cI, 60, .inl T)), (b 4, .inl (cI, 60, .inl P)), (b 5, .inl (cI, 60, .inl V)), (b 6, .inl (cI, 60, .inl (fun j => nI (o j)))), (b 7, .inl (cI, 60, .inl (fun j => nI (kr j))))] sz) [(b 14, .inr (3, [.ref (b 1), .ref (b 8), .ref (b 15)])), (b 8, .inl (cI, 4, .inl Wt)), (b 15, .inl (cI, 4, .inl (fun j => oi (ln0 j)))), (b 1, .inr (6, [.int (nI n), .ref (b 2), .ref (b 3), .ref (b 4), .ref (b 5), .ref (b 6), .ref (b 7)])), (b 2, .inl (cI, 60, .inl F)), (b 3, .inl (cI, 60, .inl T)), (b 4, .inl (cI, 60, .inl P)), (b 5, .inl (cI, 60, .inl V)), (b 6, .inl (cI, 60, .inl (fun j => nI (o j)))), (b 7, .inl (cI, 60, .inl (fun j => nI (kr j))))]) (va_A [(b 14, .inr (3, [.ref (b 1), .ref (b 8), .ref (b 15)])), (b 8, .inl (cI, 4, .inl Wt)), (b 15, .inl (cI, 4, .inl LA)), (b 1, .inr (6, [.int (nI n), .ref (b 2), .ref (b 3), .ref (b 4), .ref (b 5), .ref (b 6), .ref (b 7)])), (b 2, .inl (cI, 60, .inl F)), (b 3, .inl (cI, 60, .inl T)), (b 4, .inl (cI, 60, .inl P)), (b 5, .inl (cI, 60, .inl V)), (b 6, .inl (cI, 60, .inl (fun j => nI (o j)))), (b 7, .inl (cI, 60, .inl (fun j => nI (kr j))))] sz)) 0 0 (va_A [(b 14, .inr (3, [.ref (b 1), .ref (b 8), .ref (b 15)])), (b 8, .inl (cI, 4, .inl Wt)), (b 15, .inl (cI, 4, .inl LA)), (b 1, .inr (6, [.int (nI n), .ref (b 2), .ref (b 3), .ref (b 4), .ref (b 5), .ref (b 6), .ref (b 7)])), (b 2, .inl (cI, 60, .inl F)), (b 3, .inl (cI, 60, .inl T)), (b 4, .inl (cI, 60, .inl P)), (b 5, .inl (cI, 60, .inl V)), (b 6, .inl (cI, 60, .inl (fun j => nI (o j)))), (b 7, .inl (cI, 60, .inl (fun j => nI (kr j))))] sz) := by
  refine Met.ofW (cc := cX3_empty) (maxL := 1) (ret := none) (by decide) rfl ?_
  intro p e s m args below meth c s₁ B hml hv
  obtain ⟨rfl, hsz, hP, hK, hD0⟩ := hv
  have hx := B.exec
  have hb := B.bytes
  have hr := B.returns
  have hts := atoms_spec (ws := wsX3_empty) B.pre
  have hown : s.vm.findClass RX3 = some m.cls := findClass_of_methodNamed B.named
  have hlocks := B.notSynchronized
  subst hsz
  have hD := hD0.self (sz := s.heap.size)
  generalize hAe : va_A [(b 14, .inr (3, [.ref (b 1), .ref (b 8), .ref (b 15)])), (b 8, .inl (cI, 4, .inl Wt)), (b 15, .inl (cI, 4, .inl LA)), (b 1, .inr (6, [.int (nI n), .ref (b 2), .ref (b 3), .ref (b 4), .ref (b 5), .ref (b 6), .ref (b 7)])), (b 2, .inl (cI, 60, .inl F)), (b 3, .inl (cI, 60, .inl T)), (b 4, .inl (cI, 60, .inl P)), (b 5, .inl (cI, 60, .inl V)), (b 6, .inl (cI, 60, .inl (fun j => nI (o j)))), (b 7, .inl (cI, 60, .inl (fun j => nI (kr j))))] s.heap.size = A at hD ⊢
  have hA : ∀ q : Nat, s.heap.size ≤ q → A q := fun q h => by rw [← hAe]; exact Or.inr h
  have hS : va_S A s.heap s.heap [] := va_S.rf
  have i_X3 : ∀ w ∈ u_ws RX3 TX3 3, w ∈ wsX3_empty := by decide +kernel
  have k_0 := hts (.fieldLink RX3 9 "VoiceRows$Lines" "last" "[I") (by decide +kernel)
  have hl := lv_entry ([.ref (b 14)]) (n := 1) (Nat.le_of_ble_eq_true rfl)
  rw [lg_entry_eq]
  generalize (lg_sl ([.ref (b 14)]) ++ List.replicate (1 - (lg_sl ([.ref (b 14)])).length) Slot.unset).toArray = ls at hl ⊢
  have hl : lv_has ls 1 [(0, .ref (b 14))] := hl
  refine lv_aload_n hx hb dX3_empty_0 rfl (lv_at hl 0 rfl) ?_
  refine va_get (D := (dC, dI)) (ci := 3) (v := .ref (b 15)) (C := RX3) (T := TX3) (N := 3) hx hb hts i_X3 hown hK hP 0 rfl rfl 2 (by decide) k_0 (fun _ h9 => h9) rfl dX3_empty_1 ?_
  refine lv_iconst (v := (-1)) hx hb dX3_empty_4 (by decide) ?_
  have hPc := hP.sub (ws' := [(b 15, .inl (cI, 4, .inl LA))]) [2] rfl
  have hDc := hD.sub (ws' := [(b 15, .inl (cI, 4, .inl LA))]) [2] (by decide) rfl
  have hFc := va_free (wc := [(b 15, .inl (cI, 4, .inl LA))]) hD hS hA [2] rfl
  refine va_callv (va_runS (As := [.ref (b 15), .int (-1)]) (rest := []) ⟨hx, hb, hml, hown, hts⟩ (c_J7_fill_53178 l dC dI cI s.heap.size (b 15) 4 LA (by decide) (-1)) (gk_cwS 2 hts gX3_empty_J7_fill_53178 rfl rfl rfl (by decide +kernel) ⟨Nat.le_of_ble_eq_true rfl, Nat.le_of_ble_eq_true rfl⟩) ⟨gk_fbW, fun U hU hW => ⟨rfl, by rw [hU], by rw [hU]; exact hPc, va_K.moved hW.alike hK, hDc.weaken (fun _ _ _ _ => trivial)⟩⟩ rfl rfl hl.1 rfl (lv_room (Nat.le_of_ble_eq_true rfl)) dX3_empty_5 ⟨Nat.zero_le _, Nat.zero_le _⟩) hS (fun q _ h => hFc q h) hFc (fun u t H1 locs ht hvm hw hB hz1 hk1 hS => ?_)
  obtain ⟨hP1, hK1, hD1⟩ := hB
  rw [ht] at hP1
  try dsimp only at hw
  obtain ⟨hP, hD⟩ := va_join (wr := [(b 14, .inr (3, [.ref (b 1), .ref (b 8), .ref (b 15)])), (b 8, .inl (cI, 4, .inl Wt)), (b 1, .inr (6, [.int (nI n), .ref (b 2), .ref (b 3), .ref (b 4), .ref (b 5), .ref (b 6), .ref (b 7)])), (b 2, .inl (cI, 60, .inl F)), (b 3, .inl (cI, 60, .inl T)), (b 4, .inl (cI, 60, .inl P)), (b 5, .inl (cI, 60, .inl V)), (b 6, .inl (cI, 60, .inl (fun j => nI (o j)))), (b 7, .inl (cI, 60, .inl (fun j => nI (kr j))))]) (w1 := [(b 15, .inl (cI, 4, .inl (fillF LA (-1) 0 4)))]) hP hD [2] [0, 1, 3, 4, 5, 6, 7, 8, 9] rfl rfl (by decide) (by decide) hk1 hFc hP1 hD1
  generalize H1 = H at hP hS ⊢
  have hP := hP.sub (ws' := [(b 14, .inr (3, [.ref (b 1), .ref (b 8), .ref (b 15)])), (b 8, .inl (cI, 4, .inl Wt)), (b 15, .inl (cI, 4, .inl (fillF LA (-1) 0 4))), (b 1, .inr (6, [.int (nI n), .ref (b 2), .ref (b 3), .ref (b 4), .ref (b 5), .ref (b 6), .ref (b 7)])), (b 2, .inl (cI, 60, .inl F)), (b 3, .inl (cI, 60, .inl T)), (b 4, .inl (cI, 60, .inl P)), (b 5, .inl (cI, 60, .inl V)), (b 6, .inl (cI, 60, .inl (fun j => nI (o j)))), (b 7, .inl (cI, 60, .inl (fun j => nI (kr j))))]) [0, 1, 9, 2, 3, 4, 5, 6, 7, 8] rfl
  have hD := hD.sub (ws' := [(b 14, .inr (3, [.ref (b 1), .ref (b 8), .ref (b 15)])), (b 8, .inl (cI, 4, .inl Wt)), (b 15, .inl (cI, 4, .inl (fillF LA (-1) 0 4))), (b 1, .inr (6, [.int (nI n), .ref (b 2), .ref (b 3), .ref (b 4), .ref (b 5), .ref (b 6), .ref (b 7)])), (b 2, .inl (cI, 60, .inl F)), (b 3, .inl (cI, 60, .inl T)), (b 4, .inl (cI, 60, .inl P)), (b 5, .inl (cI, 60, .inl V)), (b 6, .inl (cI, 60, .inl (fun j => nI (o j)))), (b 7, .inl (cI, 60, .inl (fun j => nI (kr j))))]) [0, 1, 9, 2, 3, 4, 5, 6, 7, 8] (by decide) rfl
  have hP : va_P (dC, dI) vwCl [(b 14, .inr (3, [.ref (b 1), .ref (b 8), .ref (b 15)])), (b 8, .inl (cI, 4, .inl Wt)), (b 15, .inl (cI, 4, .inl (fillF LA (-1) 0 4))), (b 1, .inr (6, [.int (nI n), .ref (b 2), .ref (b 3), .ref (b 4), .ref (b 5), .ref (b 6), .ref (b 7)])), (b 2, .inl (cI, 60, .inl F)), (b 3, .inl (cI, 60, .inl T)), (b 4, .inl (cI, 60, .inl P)), (b 5, .inl (cI, 60, .inl V)), (b 6, .inl (cI, 60, .inl (fun j => nI (o j)))), (b 7, .inl (cI, 60, .inl (fun j => nI (kr j))))] H := hP
  have hD : va_D A [(b 14, .inr (3, [.ref (b 1), .ref (b 8), .ref (b 15)])), (b 8, .inl (cI, 4, .inl Wt)), (b 15, .inl (cI, 4, .inl (fillF LA (-1) 0 4))), (b 1, .inr (6, [.int (nI n), .ref (b 2), .ref (b 3), .ref (b 4), .ref (b 5), .ref (b 6), .ref (b 7)])), (b 2, .inl (cI, 60, .inl F)), (b 3, .inl (cI, 60, .inl T)), (b 4, .inl (cI, 60, .inl P)), (b 5, .inl (cI, 60, .inl V)), (b 6, .inl (cI, 60, .inl (fun j => nI (o j)))), (b 7, .inl (cI, 60, .inl (fun j => nI (kr j))))] := hD
  have hP := gk_extP (g := (fun j => oi (ln0 j))) hP 2 rfl (fun j hj => by simp only [fillF]; rw [if_pos ⟨Nat.zero_le j, hj⟩]; rfl)
  have hD := gk_extD (e := .inl (cI, 4, .inl (fun j => oi (ln0 j)))) hD 2 rfl
  have hP : va_P (dC, dI) vwCl [(b 14, .inr (3, [.ref (b 1), .ref (b 8), .ref (b 15)])), (b 8, .inl (cI, 4, .inl Wt)), (b 15, .inl (cI, 4, .inl (fun j => oi (ln0 j)))), (b 1, .inr (6, [.int (nI n), .ref (b 2), .ref (b 3), .ref (b 4), .ref (b 5), .ref (b 6), .ref (b 7)])), (b 2, .inl (cI, 60, .inl F)), (b 3, .inl (cI, 60, .inl T)), (b 4, .inl (cI, 60, .inl P)), (b 5, .inl (cI, 60, .inl V)), (b 6, .inl (cI, 60, .inl (fun j => nI (o j)))), (b 7, .inl (cI, 60, .inl (fun j => nI (kr j))))] H := hP
  have hD : va_D A [(b 14, .inr (3, [.ref (b 1), .ref (b 8), .ref (b 15)])), (b 8, .inl (cI, 4, .inl Wt)), (b 15, .inl (cI, 4, .inl (fun j => oi (ln0 j)))), (b 1, .inr (6, [.int (nI n), .ref (b 2), .ref (b 3), .ref (b 4), .ref (b 5), .ref (b 6), .ref (b 7)])), (b 2, .inl (cI, 60, .inl F)), (b 3, .inl (cI, 60, .inl T)), (b 4, .inl (cI, 60, .inl P)), (b 5, .inl (cI, 60, .inl V)), (b 6, .inl (cI, 60, .inl (fun j => nI (o j)))), (b 7, .inl (cI, 60, .inl (fun j => nI (kr j))))] := hD
  exact W.vret hx hb hr (fun t ht hW => ⟨⟨(), rfl, (by exact trivial), by rw [ht]; exact hP, va_K.moved hW.alike hK, hD⟩, hS.F ht⟩) hS.2.2 dX3_empty_8

set_option maxHeartbeats 1000000 in
set_option maxRecDepth 100000 in
theorem c_X2_cheapest (l : Launch) (dC : Nat → ClassId) (dI : Nat → Nat → Nat) (cI : ClassId) (b : Nat → Nat) (n : Nat) (F T P V : Nat → Int32) (o kr : Nat → Nat) (hn : n ≤ 60) (ho : ∀ j, o j < 60) (Wt : Nat → Int32) (ln : Nat → Nat) (hln : ∀ j, ln j ≤ 60) (CH : Nat → Int32) (x nv : Nat) (hx0 : x < 60) (hv0 : nv ≤ 4) : Met l yX2_cheapest wsX2_cheapest ({ frames := 2, cells := 0, slots := 0, locals := 51 } : Room) (va_Pc [.ref (b 19), .int (nI x), .int (nI nv)] (fun U => va_P (dC, dI) vwCl [(b 19, .inr (2, [.ref (b 1), .ref (b 14), .ref (b 20)])), (b 20, .inl (cI, 60, .inl CH)), (b 14, .inr (3, [.ref (b 1), .ref (b 8), .ref (b 15)])), (b 8, .inl (cI, 4, .inl Wt)), (b 15, .inl (cI, 4, .inl (fun j => oi (ln j)))), (b 1, .inr (6, [.int (nI n), .ref (b 2), .ref (b 3), .ref (b 4), .ref (b 5), .ref (b 6), .ref (b 7)])), (b 2, .inl (cI, 60, .inl F)), (b 3, .inl (cI, 60, .inl T)), (b 4, .inl (cI, 60, .inl P)), (b 5, .inl (cI, 60, .inl V)), (b 6, .inl (cI, 60, .inl (fun j => nI (o j)))), (b 7, .inl (cI, 60, .inl (fun j => nI (kr j))))] U.heap ∧ va_K (dC, dI) vwCl [(cI, .int)] U)) (vp_Si (fun rr => rr = oi (cm (adC F T P Wt ln x) nv).1)) 0 0 (fun _ => False) := by
  refine Met.ofW (cc := cX2_cheapest) (maxL := 7) (ret := (some .int)) (by decide) rfl ?_
  intro p e s m args below meth c s₁ B hml hv
  obtain ⟨rfl, hP, hK⟩ := hv
  have hx := B.exec
  have hb := B.bytes
  have hr := B.returns
  have hts := atoms_spec (ws := wsX2_cheapest) B.pre
  have hown : s.vm.findClass RX2 = some m.cls := findClass_of_methodNamed B.named
  have hlocks := B.notSynchronized
  have i_X2 : ∀ w ∈ u_ws RX2 TX2 3, w ∈ wsX2_cheapest := by decide +kernel
  have k_0 := hts (.fieldLink RX2 19 "VoiceRows$Goer" "lines" "LVoiceRows$Lines;") (by decide +kernel)
  have hl := lv_entry ([.ref (b 19), .int (nI x), .int (nI nv)]) (n := 7) (Nat.le_of_ble_eq_true rfl)
  rw [lg_entry_eq]
  generalize (lg_sl ([.ref (b 19), .int (nI x), .int (nI nv)]) ++ List.replicate (7 - (lg_sl ([.ref (b 19), .int (nI x), .int (nI nv)])).length) Slot.unset).toArray = ls at hl ⊢
  have hl : lv_has ls 7 [(0, .ref (b 19)), (1, .int (nI x)), (2, .int (nI nv))] := hl
  refine lv_iconst (v := (-1)) hx hb dX2_cheapest_0 (by decide) ?_
  refine lv_istore_n (lv' := [(3, .int (-1)), (0, .ref (b 19)), (1, .int (nI x)), (2, .int (nI nv))]) hx hb dX2_cheapest_1 rfl hl (by decide) rfl (fun ls hl => ?_)
  refine lv_iconst (v := (-1)) hx hb dX2_cheapest_2 (by decide) ?_
  refine lv_istore (lv' := [(4, .int (-1)), (3, .int (-1)), (0, .ref (b 19)), (1, .int (nI x)), (2, .int (nI nv))]) hx hb dX2_cheapest_3 hl (by decide) rfl (fun ls hl => ?_)
  refine lv_iconst (v := 0) hx hb dX2_cheapest_5 (by decide) ?_
  refine lv_istore (lv' := [(5, .int 0), (4, .int (-1)), (3, .int (-1)), (0, .ref (b 19)), (1, .int (nI x)), (2, .int (nI nv))]) hx hb dX2_cheapest_6 hl (by decide) rfl (fun ls hl => ?_)
  have L8 : ∀ (fu : Nat) (k : Nat) (x3 x4 x5 : Int32) (ls : Array Slot), x3 = oi (cm (adC F T P Wt ln x) k).1 → x4 = (cm (adC F T P Wt ln x) k).2 → x5 = nI k → k ≤ nv → nv - k < fu → lv_has ls 7 [(0, .ref (b 19)), (1, .int (nI x)), (2, .int (nI nv)), (3, .int x3), (4, .int x4), (5, .int x5)] → W p l e (headSpec wsX2_cheapest ({ frames := 2, cells := 0, slots := 0, locals := 51 } : Room)).room s m [.ref (b 19), .int (nI x), .int (nI nv)].toArray below meth c s.heap [] 0 0 (MQ below (vp_Si (fun rr => rr = oi (cm (adC F T P Wt ln x) nv).1)) [.ref (b 19), .int (nI x), .int (nI nv)].toArray s 0 0 (fun _ => False)) (F0 m 8 ls []) := by
    intro fu
    induction fu with
    | zero =>
      intro k x3 x4 x5 ls e3 e4 e5 hk1 hfu8 hl
      exact absurd hfu8 (Nat.not_lt_zero _)
    | succ fu ih8 =>
      intro k x3 x4 x5 ls e3 e4 e5 hk1 hfu8 hl
      subst e3
      subst e4
      subst e5
      refine lv_iload hx hb dX2_cheapest_8 (lv_at hl 5 rfl) ?_
      refine lv_iload_n hx hb dX2_cheapest_10 rfl (lv_at hl 2 rfl) ?_
      refine lv_icmp_ge (tgt := 57) hx hb dX2_cheapest_11 (by decide) (fun c_1 => ?_) (fun c_1 => ?_)
      · skip
        have c_1 : k ≥ nv := gk_geT (a := k) (b := nv) (by first | omega | exact Nat.lt_trans (ho _) (by decide) | exact Nat.lt_of_le_of_lt atN_le (by omega) | exact Nat.lt_of_le_of_lt szN_le (by omega) | exact Nat.lt_of_le_of_lt clM_le (by omega) | exact Nat.lt_of_le_of_lt rkN_le (by omega) | exact Nat.lt_of_le_of_lt (cnt_le _ _) (by omega)) (by first | omega | exact Nat.lt_trans (ho _) (by decide) | exact Nat.lt_of_le_of_lt atN_le (by omega) | exact Nat.lt_of_le_of_lt szN_le (by omega) | exact Nat.lt_of_le_of_lt clM_le (by omega) | exact Nat.lt_of_le_of_lt rkN_le (by omega) | exact Nat.lt_of_le_of_lt (cnt_le _ _) (by omega)) c_1
        refine lv_iload_n hx hb dX2_cheapest_57 rfl (lv_at hl 3 rfl) ?_
        exact W.iret (v := oi (cm (adC F T P Wt ln x) k).1) hx hb hr (fun t ht _ => ⟨_, rfl, by (obtain rfl : k = nv := by omega); rfl, ht⟩) (fun q h => by cases h) dX2_cheapest_58
      · skip
        have c_1 : k < nv := gk_geF (a := k) (b := nv) (by first | omega | exact Nat.lt_trans (ho _) (by decide) | exact Nat.lt_of_le_of_lt atN_le (by omega) | exact Nat.lt_of_le_of_lt szN_le (by omega) | exact Nat.lt_of_le_of_lt clM_le (by omega) | exact Nat.lt_of_le_of_lt rkN_le (by omega) | exact Nat.lt_of_le_of_lt (cnt_le _ _) (by omega)) (by first | omega | exact Nat.lt_trans (ho _) (by decide) | exact Nat.lt_of_le_of_lt atN_le (by omega) | exact Nat.lt_of_le_of_lt szN_le (by omega) | exact Nat.lt_of_le_of_lt clM_le (by omega) | exact Nat.lt_of_le_of_lt rkN_le (by omega) | exact Nat.lt_of_le_of_lt (cnt_le _ _) (by omega)) c_1
        refine lv_aload_n hx hb dX2_cheapest_14 rfl (lv_at hl 0 rfl) ?_
        refine va_get (D := (dC, dI)) (ci := 2) (v := .ref (b 14)) (C := RX2) (T := TX2) (N := 3) hx hb hts i_X2 hown hK hP 0 rfl rfl 1 (by decide) k_0 (fun _ h9 => h9) rfl dX2_cheapest_15 ?_
        refine lv_iload_n hx hb dX2_cheapest_18 rfl (lv_at hl 1 rfl) ?_
        refine lv_iload hx hb dX2_cheapest_19 (lv_at hl 5 rfl) ?_
        have hPc_2 := hP.sub (ws' := [(b 14, .inr (3, [.ref (b 1), .ref (b 8), .ref (b 15)])), (b 8, .inl (cI, 4, .inl Wt)), (b 15, .inl (cI, 4, .inl (fun j => oi (ln j)))), (b 1, .inr (6, [.int (nI n), .ref (b 2), .ref (b 3), .ref (b 4), .ref (b 5), .ref (b 6), .ref (b 7)])), (b 2, .inl (cI, 60, .inl F)), (b 3, .inl (cI, 60, .inl T)), (b 4, .inl (cI, 60, .inl P)), (b 5, .inl (cI, 60, .inl V)), (b 6, .inl (cI, 60, .inl (fun j => nI (o j)))), (b 7, .inl (cI, 60, .inl (fun j => nI (kr j))))]) [2, 3, 4, 5, 6, 7, 8, 9, 10, 11] rfl
        refine vp_callSi (gk_run (va_runV (As := [.int (nI x), .int (nI k)]) (rest := []) ⟨hx, hb, hml, hown, hts⟩ (c_X3_added l dC dI cI b n F T P V o kr hn ho Wt ln hln x k hx0 (by omega)) (cwV 2 hts gX2_cheapest_X3_added rfl rfl rfl (by decide +kernel) ⟨Nat.le_of_ble_eq_true rfl, Nat.le_of_ble_eq_true rfl⟩) ⟨gk_fb, va_recv hK hPc_2 (ci := 3) (q0 := 0) rfl rfl, fun U hU hW => ⟨rfl, by rw [hU]; exact hPc_2, va_K.moved hW.alike hK⟩⟩ rfl rfl hl.1 rfl (lv_room (Nat.le_of_ble_eq_true rfl)) dX2_cheapest_21 ⟨Nat.zero_le _, Nat.zero_le _⟩)) (fun r_3 er_3 => ?_)
        subst er_3
        refine lv_istore (lv' := [(6, .int (adC F T P Wt ln x k)), (0, .ref (b 19)), (1, .int (nI x)), (2, .int (nI nv)), (3, .int (oi (cm (adC F T P Wt ln x) k).1)), (4, .int ((cm (adC F T P Wt ln x) k).2)), (5, .int (nI k))]) hx hb dX2_cheapest_24 hl (by decide) rfl (fun ls hl => ?_)
        refine lv_iload hx hb dX2_cheapest_26 (lv_at hl 0 rfl) ?_
        refine lv_iconst (v := (-1)) hx hb dX2_cheapest_28 (by decide) ?_
        refine lv_icmp_eq (tgt := 51) hx hb dX2_cheapest_29 (by decide) (fun c_4 => ?_) (fun c_4 => ?_)
        · skip
          refine lv_iinc (v := nI (k + 1)) (lv' := [(5, .int (nI (k + 1))), (6, .int (adC F T P Wt ln x k)), (0, .ref (b 19)), (1, .int (nI x)), (2, .int (nI nv)), (3, .int (oi (cm (adC F T P Wt ln x) k).1)), (4, .int ((cm (adC F T P Wt ln x) k).2))]) hx hb dX2_cheapest_51 hl (k := 6) rfl (gk_inc1 _) (by decide) rfl (fun ls hl => ?_)
          refine lv_goto (tgt := 8) hx hb dX2_cheapest_54 (by decide) ?_
          exact ih8 (k + 1) _ _ _ ls (by rw [cm_n (by first | (intro h9; exact h9.1 (by assumption)) | (intro h9; rcases h9.2 with h8 | h8; (exact absurd h8 (by assumption)); exact absurd h8 (Int32.not_lt.mpr (by assumption))))]) (by rw [cm_n (by first | (intro h9; exact h9.1 (by assumption)) | (intro h9; rcases h9.2 with h8 | h8; (exact absurd h8 (by assumption)); exact absurd h8 (Int32.not_lt.mpr (by assumption))))]) (by rfl) (by omega) (by omega) (lv_sub hl [2, 3, 4, 5, 6, 0] rfl)
        · skip
          refine lv_iload_n hx hb dX2_cheapest_32 rfl (lv_at hl 4 rfl) ?_
          refine lv_iconst (v := (-1)) hx hb dX2_cheapest_33 (by decide) ?_
          refine lv_icmp_eq (tgt := 44) hx hb dX2_cheapest_34 (by decide) (fun c_5 => ?_) (fun c_5 => ?_)
          · skip
            have c_5 : ((cm (adC F T P Wt ln x) k).1) = 0 := (oi_m1 (by have := cm_le (ad := (adC F T P Wt ln x)) k; omega)).mp c_5
            refine lv_iload hx hb dX2_cheapest_44 (lv_at hl 6 rfl) ?_
            refine lv_istore_n (lv' := [(3, .int (nI k)), (6, .int (adC F T P Wt ln x k)), (0, .ref (b 19)), (1, .int (nI x)), (2, .int (nI nv)), (4, .int ((cm (adC F T P Wt ln x) k).2)), (5, .int (nI k))]) hx hb dX2_cheapest_46 rfl hl (by decide) rfl (fun ls hl => ?_)
            refine lv_iload hx hb dX2_cheapest_47 (lv_at hl 1 rfl) ?_
            refine lv_istore (lv' := [(4, .int (adC F T P Wt ln x k)), (3, .int (nI k)), (6, .int (adC F T P Wt ln x k)), (0, .ref (b 19)), (1, .int (nI x)), (2, .int (nI nv)), (5, .int (nI k))]) hx hb dX2_cheapest_49 hl (by decide) rfl (fun ls hl => ?_)
            refine lv_iinc (v := nI (k + 1)) (lv' := [(5, .int (nI (k + 1))), (4, .int (adC F T P Wt ln x k)), (3, .int (nI k)), (6, .int (adC F T P Wt ln x k)), (0, .ref (b 19)), (1, .int (nI x)), (2, .int (nI nv))]) hx hb dX2_cheapest_51 hl (k := 6) rfl (gk_inc1 _) (by decide) rfl (fun ls hl => ?_)
            refine lv_goto (tgt := 8) hx hb dX2_cheapest_54 (by decide) ?_
            exact ih8 (k + 1) _ _ _ ls (by rw [cm_y (by first | exact ⟨by assumption, Or.inl (by assumption)⟩ | exact ⟨by assumption, Or.inr (Int32.not_le.mp (by assumption))⟩)]; exact (oi_s k).symm) (by rw [cm_y (by first | exact ⟨by assumption, Or.inl (by assumption)⟩ | exact ⟨by assumption, Or.inr (Int32.not_le.mp (by assumption))⟩)]) (by rfl) (by omega) (by omega) (lv_sub hl [4, 5, 6, 2, 1, 0] rfl)
          · skip
            have c_5 : ((cm (adC F T P Wt ln x) k).1) ≠ 0 := fun q => c_5 ((oi_m1 (by have := cm_le (ad := (adC F T P Wt ln x)) k; omega)).mpr q)
            refine lv_iload hx hb dX2_cheapest_37 (lv_at hl 0 rfl) ?_
            refine lv_iload hx hb dX2_cheapest_39 (lv_at hl 5 rfl) ?_
            refine lv_icmp_ge (tgt := 51) hx hb dX2_cheapest_41 (by decide) (fun c_6 => ?_) (fun c_6 => ?_)
            · skip
              refine lv_iinc (v := nI (k + 1)) (lv' := [(5, .int (nI (k + 1))), (6, .int (adC F T P Wt ln x k)), (0, .ref (b 19)), (1, .int (nI x)), (2, .int (nI nv)), (3, .int (oi (cm (adC F T P Wt ln x) k).1)), (4, .int ((cm (adC F T P Wt ln x) k).2))]) hx hb dX2_cheapest_51 hl (k := 6) rfl (gk_inc1 _) (by decide) rfl (fun ls hl => ?_)
              refine lv_goto (tgt := 8) hx hb dX2_cheapest_54 (by decide) ?_
              exact ih8 (k + 1) _ _ _ ls (by rw [cm_n (by first | (intro h9; exact h9.1 (by assumption)) | (intro h9; rcases h9.2 with h8 | h8; (exact absurd h8 (by assumption)); exact absurd h8 (Int32.not_lt.mpr (by assumption))))]) (by rw [cm_n (by first | (intro h9; exact h9.1 (by assumption)) | (intro h9; rcases h9.2 with h8 | h8; (exact absurd h8 (by assumption)); exact absurd h8 (Int32.not_lt.mpr (by assumption))))]) (by rfl) (by omega) (by omega) (lv_sub hl [2, 3, 4, 5, 6, 0] rfl)
            · skip
              refine lv_iload hx hb dX2_cheapest_44 (lv_at hl 6 rfl) ?_
              refine lv_istore_n (lv' := [(3, .int (nI k)), (6, .int (adC F T P Wt ln x k)), (0, .ref (b 19)), (1, .int (nI x)), (2, .int (nI nv)), (4, .int ((cm (adC F T P Wt ln x) k).2)), (5, .int (nI k))]) hx hb dX2_cheapest_46 rfl hl (by decide) rfl (fun ls hl => ?_)
              refine lv_iload hx hb dX2_cheapest_47 (lv_at hl 1 rfl) ?_
              refine lv_istore (lv' := [(4, .int (adC F T P Wt ln x k)), (3, .int (nI k)), (6, .int (adC F T P Wt ln x k)), (0, .ref (b 19)), (1, .int (nI x)), (2, .int (nI nv)), (5, .int (nI k))]) hx hb dX2_cheapest_49 hl (by decide) rfl (fun ls hl => ?_)
              refine lv_iinc (v := nI (k + 1)) (lv' := [(5, .int (nI (k + 1))), (4, .int (adC F T P Wt ln x k)), (3, .int (nI k)), (6, .int (adC F T P Wt ln x k)), (0, .ref (b 19)), (1, .int (nI x)), (2, .int (nI nv))]) hx hb dX2_cheapest_51 hl (k := 6) rfl (gk_inc1 _) (by decide) rfl (fun ls hl => ?_)
              refine lv_goto (tgt := 8) hx hb dX2_cheapest_54 (by decide) ?_
              exact ih8 (k + 1) _ _ _ ls (by rw [cm_y (by first | exact ⟨by assumption, Or.inl (by assumption)⟩ | exact ⟨by assumption, Or.inr (Int32.not_le.mp (by assumption))⟩)]; exact (oi_s k).symm) (by rw [cm_y (by first | exact ⟨by assumption, Or.inl (by assumption)⟩ | exact ⟨by assumption, Or.inr (Int32.not_le.mp (by assumption))⟩)]) (by rfl) (by omega) (by omega) (lv_sub hl [4, 5, 6, 2, 1, 0] rfl)
  exact L8 ((nv) + 1) 0 _ _ _ ls (by rfl) (by rfl) (by rfl) (by omega) (by omega) (lv_sub hl [3, 4, 5, 2, 1, 0] rfl)

set_option maxHeartbeats 1000000 in
set_option maxRecDepth 100000 in
theorem c_X2_go (l : Launch) (dC : Nat → ClassId) (dI : Nat → Nat → Nat) (cI : ClassId) (sz : Nat) (b : Nat → Nat) (n : Nat) (F T P V : Nat → Int32) (o kr : Nat → Nat) (hn : n ≤ 60) (ho : ∀ j, o j < 60) (Wt LA CH : Nat → Int32) (hp : prm n o) (nv : Nat) (hv0 : nv ≤ 4) : Met l yX2_go wsX2_go ({ frames := 3, cells := 0, slots := 0, locals := 77 } : Room) (va_Pc [.ref (b 19), .int (nI nv)] (fun U => U.heap.size = sz ∧ va_P (dC, dI) vwCl [(b 19, .inr (2, [.ref (b 1), .ref (b 14), .ref (b 20)])), (b 20, .inl (cI, 60, .inl CH)), (b 14, .inr (3, [.ref (b 1), .ref (b 8), .ref (b 15)])), (b 8, .inl (cI, 4, .inl Wt)), (b 15, .inl (cI, 4, .inl LA)), (b 1, .inr (6, [.int (nI n), .ref (b 2), .ref (b 3), .ref (b 4), .ref (b 5), .ref (b 6), .ref (b 7)])), (b 2, .inl (cI, 60, .inl F)), (b 3, .inl (cI, 60, .inl T)), (b 4, .inl (cI, 60, .inl P)), (b 5, .inl (cI, 60, .inl V)), (b 6, .inl (cI, 60, .inl (fun j => nI (o j)))), (b 7, .inl (cI, 60, .inl (fun j => nI (kr j))))] U.heap ∧ va_K (dC, dI) vwCl [(cI, .int)] U ∧ va_D (fun _ => True) [(b 19, .inr (2, [.ref (b 1), .ref (b 14), .ref (b 20)])), (b 20, .inl (cI, 60, .inl CH)), (b 14, .inr (3, [.ref (b 1), .ref (b 8), .ref (b 15)])), (b 8, .inl (cI, 4, .inl Wt)), (b 15, .inl (cI, 4, .inl LA)), (b 1, .inr (6, [.int (nI n), .ref (b 2), .ref (b 3), .ref (b 4), .ref (b 5), .ref (b 6), .ref (b 7)])), (b 2, .inl (cI, 60, .inl F)), (b 3, .inl (cI, 60, .inl T)), (b 4, .inl (cI, 60, .inl P)), (b 5, .inl (cI, 60, .inl V)), (b 6, .inl (cI, 60, .inl (fun j => nI (o j)))), (b 7, .inl (cI, 60, .inl (fun j => nI (kr j))))])) (va_Qi (fun (rr : Int32) (u : (Nat → Int32) × (Nat → Int32) × (Nat → Int32)) => (rr = 1 ∧ (∀ j, j < n → chG F T P Wt o nv j ≠ 0) ∧ (∀ j, j < n → u.2.2 (o j) = nI (chG F T P Wt o nv j - 1)) ∧ (∀ j, n ≤ j → u.2.2 j = V j)) ∨ (rr = 0 ∧ (∃ r, r < n ∧ chG F T P Wt o nv r = 0 ∧ ∀ j, j < r → chG F T P Wt o nv j ≠ 0) ∧ u.2.2 = V)) (fun u t => va_P (dC, dI) vwCl [(b 19, .inr (2, [.ref (b 1), .ref (b 14), .ref (b 20)])), (b 20, .inl (cI, 60, .inl u.1)), (b 14, .inr (3, [.ref (b 1), .ref (b 8), .ref (b 15)])), (b 8, .inl (cI, 4, .inl Wt)), (b 15, .inl (cI, 4, .inl u.2.1)), (b 1, .inr (6, [.int (nI n), .ref (b 2), .ref (b 3), .ref (b 4), .ref (b 5), .ref (b 6), .ref (b 7)])), (b 2, .inl (cI, 60, .inl F)), (b 3, .inl (cI, 60, .inl T)), (b 4, .inl (cI, 60, .inl P)), (b 5, .inl (cI, 60, .inl u.2.2)), (b 6, .inl (cI, 60, .inl (fun j => nI (o j)))), (b 7, .inl (cI, 60, .inl (fun j => nI (kr j))))] t.heap ∧ va_K (dC, dI) vwCl [(cI, .int)] t ∧ va_D (va_A [(b 19, .inr (2, [.ref (b 1), .ref (b 14), .ref (b 20)])), (b 20, .inl (cI, 60, .inl CH)), (b 14, .inr (3, [.ref (b 1), .ref (b 8), .ref (b 15)])), (b 8, .inl (cI, 4, .inl Wt)), (b 15, .inl (cI, 4, .inl LA)), (b 1, .inr (6, [.int (nI n), .ref (b 2), .ref (b 3), .ref (b 4), .ref (b 5), .ref (b 6), .ref (b 7)])), (b 2, .inl (cI, 60, .inl F)), (b 3, .inl (cI, 60, .inl T)), (b 4, .inl (cI, 60, .inl P)), (b 5, .inl (cI, 60, .inl V)), (b 6, .inl (cI, 60, .inl (fun j => nI (o j)))), (b 7, .inl (cI, 60, .inl (fun j => nI (kr j))))] sz) [(b 19, .inr (2, [.ref (b 1), .ref (b 14), .ref (b 20)])), (b 20, .inl (cI, 60, .inl u.1)), (b 14, .inr (3, [.ref (b 1), .ref (b 8), .ref (b 15)])), (b 8, .inl (cI, 4, .inl Wt)), (b 15, .inl (cI, 4, .inl u.2.1)), (b 1, .inr (6, [.int (nI n), .ref (b 2), .ref (b 3), .ref (b 4), .ref (b 5), .ref (b 6), .ref (b 7)])), (b 2, .inl (cI, 60, .inl F)), (b 3, .inl (cI, 60, .inl T)), (b 4, .inl (cI, 60, .inl P)), (b 5, .inl (cI, 60, .inl u.2.2)), (b 6, .inl (cI, 60, .inl (fun j => nI (o j)))), (b 7, .inl (cI, 60, .inl (fun j => nI (kr j))))]) (va_A [(b 19, .inr (2, [.ref (b 1), .ref (b 14), .ref (b 20)])), (b 20, .inl (cI, 60, .inl CH)), (b 14, .inr (3, [.ref (b 1), .ref (b 8), .ref (b 15)])), (b 8, .inl (cI, 4, .inl Wt)), (b 15, .inl (cI, 4, .inl LA)), (b 1, .inr (6, [.int (nI n), .ref (b 2), .ref (b 3), .ref (b 4), .ref (b 5), .ref (b 6), .ref (b 7)])), (b 2, .inl (cI, 60, .inl F)), (b 3, .inl (cI, 60, .inl T)), (b 4, .inl (cI, 60, .inl P)), (b 5, .inl (cI, 60, .inl V)), (b 6, .inl (cI, 60, .inl (fun j => nI (o j)))), (b 7, .inl (cI, 60, .inl (fun j => nI (kr j))))] sz)) 0 0 (va_A [(b 19, .inr (2, [.ref (b 1), .ref (b 14), .ref (b 20)])), (b 20, .inl (cI, 60, .inl CH)), (b 14, .inr (3, [.ref (b 1), .ref (b 8), .ref (b 15)])), (b 8, .inl (cI, 4, .inl Wt)), (b 15, .inl (cI, 4, .inl LA)), (b 1, .inr (6, [.int (nI n), .ref (b 2), .ref (b 3), .ref (b 4), .ref (b 5), .ref (b 6), .ref (b 7)])), (b 2, .inl (cI, 60, .inl F)), (b 3, .inl (cI, 60, .inl T)), (b 4, .inl (cI, 60, .inl P)), (b 5, .inl (cI, 60, .inl V)), (b 6, .inl (cI, 60, .inl (fun j => nI (o j)))), (b 7, .inl (cI, 60, .inl (fun j => nI (kr j))))] sz) := by
  refine Met.ofW (cc := cX2_go) (maxL := 5) (ret := (some .boolean)) (by decide) rfl ?_
  intro p e s m args below meth c s₁ B hml hv
  obtain ⟨rfl, hsz, hP, hK, hD0⟩ := hv
  have hx := B.exec
  have hb := B.bytes
  have hr := B.returns
  have hts := atoms_spec (ws := wsX2_go) B.pre
  have hown : s.vm.findClass RX2 = some m.cls := findClass_of_methodNamed B.named
  have hlocks := B.notSynchronized
  subst hsz
  have hD := hD0.self (sz := s.heap.size)
  generalize hAe : va_A [(b 19, .inr (2, [.ref (b 1), .ref (b 14), .ref (b 20)])), (b 20, .inl (cI, 60, .inl CH)), (b 14, .inr (3, [.ref (b 1), .ref (b 8), .ref (b 15)])), (b 8, .inl (cI, 4, .inl Wt)), (b 15, .inl (cI, 4, .inl LA)), (b 1, .inr (6, [.int (nI n), .ref (b 2), .ref (b 3), .ref (b 4), .ref (b 5), .ref (b 6), .ref (b 7)])), (b 2, .inl (cI, 60, .inl F)), (b 3, .inl (cI, 60, .inl T)), (b 4, .inl (cI, 60, .inl P)), (b 5, .inl (cI, 60, .inl V)), (b 6, .inl (cI, 60, .inl (fun j => nI (o j)))), (b 7, .inl (cI, 60, .inl (fun j => nI (kr j))))] s.heap.size = A at hD ⊢
  have hA : ∀ q : Nat, s.heap.size ≤ q → A q := fun q h => by rw [← hAe]; exact Or.inr h
  have hS : va_S A s.heap s.heap [] := va_S.rf
  have i_X2 : ∀ w ∈ u_ws RX2 TX2 3, w ∈ wsX2_go := by decide +kernel
  have i_X6 : ∀ w ∈ u_ws RX6 TX6 7, w ∈ wsX2_go := by decide +kernel
  have i_X3 : ∀ w ∈ u_ws RX3 TX3 3, w ∈ wsX2_go := by decide +kernel
  have k_0 := hts (.fieldLink RX2 19 "VoiceRows$Goer" "lines" "LVoiceRows$Lines;") (by decide +kernel)
  have k_1 := hts (.fieldLink RX2 15 "VoiceRows$Goer" "score" "LVoiceRows$Score;") (by decide +kernel)
  have k_2 := hts (.fieldLink RX2 28 "VoiceRows$Score" "count" "I") (by decide +kernel)
  have k_3 := hts (.fieldLink RX2 9 "VoiceRows$Goer" "chosen" "[I") (by decide +kernel)
  have k_4 := hts (.fieldLink RX2 44 "VoiceRows$Score" "voice" "[I") (by decide +kernel)
  have k_5 := hts (.methodLink RX2 47 arraycopyName) (by decide +kernel)
  have k_6 := hts (.native arraycopyName) (by decide +kernel)
  have k_7 := hts (.static arraycopyName) (by decide +kernel)
  have k_8 := hts (.initialized "java/lang/System") (by decide +kernel)
  have k_9 := hts (.fieldLink RX2 34 "VoiceRows$Score" "order" "[I") (by decide +kernel)
  have k_10 := hts (.fieldLink RX2 41 "VoiceRows$Lines" "last" "[I") (by decide +kernel)
  have hl := lv_entry ([.ref (b 19), .int (nI nv)]) (n := 5) (Nat.le_of_ble_eq_true rfl)
  rw [lg_entry_eq]
  generalize (lg_sl ([.ref (b 19), .int (nI nv)]) ++ List.replicate (5 - (lg_sl ([.ref (b 19), .int (nI nv)])).length) Slot.unset).toArray = ls at hl ⊢
  have hl : lv_has ls 5 [(0, .ref (b 19)), (1, .int (nI nv))] := hl
  have hlg : ∀ r j, lnG F T P Wt o nv r j ≤ 60 := lnG_le ho
  have hcl : ∀ r, chG F T P Wt o nv r ≤ nv := fun r => cm_le nv
  refine lv_aload_n hx hb dX2_go_0 rfl (lv_at hl 0 rfl) ?_
  refine va_get (D := (dC, dI)) (ci := 2) (v := .ref (b 14)) (C := RX2) (T := TX2) (N := 3) hx hb hts i_X2 hown hK hP 0 rfl rfl 1 (by decide) k_0 (fun _ h9 => h9) rfl dX2_go_1 ?_
  have hPc := hP.sub (ws' := [(b 14, .inr (3, [.ref (b 1), .ref (b 8), .ref (b 15)])), (b 8, .inl (cI, 4, .inl Wt)), (b 15, .inl (cI, 4, .inl LA)), (b 1, .inr (6, [.int (nI n), .ref (b 2), .ref (b 3), .ref (b 4), .ref (b 5), .ref (b 6), .ref (b 7)])), (b 2, .inl (cI, 60, .inl F)), (b 3, .inl (cI, 60, .inl T)), (b 4, .inl (cI, 60, .inl P)), (b 5, .inl (cI, 60, .inl V)), (b 6, .inl (cI, 60, .inl (fun j => nI (o j)))), (b 7, .inl (cI, 60, .inl (fun j => nI (kr j))))]) [2, 3, 4, 5, 6, 7, 8, 9, 10, 11] rfl
  have hDc := hD.sub (ws' := [(b 14, .inr (3, [.ref (b 1), .ref (b 8), .ref (b 15)])), (b 8, .inl (cI, 4, .inl Wt)), (b 15, .inl (cI, 4, .inl LA)), (b 1, .inr (6, [.int (nI n), .ref (b 2), .ref (b 3), .ref (b 4), .ref (b 5), .ref (b 6), .ref (b 7)])), (b 2, .inl (cI, 60, .inl F)), (b 3, .inl (cI, 60, .inl T)), (b 4, .inl (cI, 60, .inl P)), (b 5, .inl (cI, 60, .inl V)), (b 6, .inl (cI, 60, .inl (fun j => nI (o j)))), (b 7, .inl (cI, 60, .inl (fun j => nI (kr j))))]) [2, 3, 4, 5, 6, 7, 8, 9, 10, 11] (by decide) rfl
  have hFc := va_free (wc := [(b 14, .inr (3, [.ref (b 1), .ref (b 8), .ref (b 15)])), (b 8, .inl (cI, 4, .inl Wt)), (b 15, .inl (cI, 4, .inl LA)), (b 1, .inr (6, [.int (nI n), .ref (b 2), .ref (b 3), .ref (b 4), .ref (b 5), .ref (b 6), .ref (b 7)])), (b 2, .inl (cI, 60, .inl F)), (b 3, .inl (cI, 60, .inl T)), (b 4, .inl (cI, 60, .inl P)), (b 5, .inl (cI, 60, .inl V)), (b 6, .inl (cI, 60, .inl (fun j => nI (o j)))), (b 7, .inl (cI, 60, .inl (fun j => nI (kr j))))]) hD hS hA [2, 3, 4, 5, 6, 7, 8, 9, 10, 11] rfl
  refine va_callv (va_runV (As := []) (rest := []) ⟨hx, hb, hml, hown, hts⟩ (c_X3_empty l dC dI cI s.heap.size b n F T P V o kr hn ho Wt LA) (cwV 0 hts gX2_go_X3_empty rfl rfl rfl (by decide +kernel) ⟨Nat.le_of_ble_eq_true rfl, Nat.le_of_ble_eq_true rfl⟩) ⟨gk_fbW, va_recv hK hPc (ci := 3) (q0 := 0) rfl rfl, fun U hU hW => ⟨rfl, by rw [hU], by rw [hU]; exact hPc, va_K.moved hW.alike hK, hDc.weaken (fun _ _ _ _ => trivial)⟩⟩ rfl rfl hl.1 rfl (lv_room (Nat.le_of_ble_eq_true rfl)) dX2_go_4 ⟨Nat.zero_le _, Nat.zero_le _⟩) hS (fun q _ h => hFc q h) hFc (fun u t H1 locs ht hvm hw hB hz1 hk1 hS => ?_)
  obtain ⟨hP1, hK1, hD1⟩ := hB
  rw [ht] at hP1
  try dsimp only at hw
  obtain ⟨hP, hD⟩ := va_join (wr := [(b 19, .inr (2, [.ref (b 1), .ref (b 14), .ref (b 20)])), (b 20, .inl (cI, 60, .inl CH))]) (w1 := [(b 14, .inr (3, [.ref (b 1), .ref (b 8), .ref (b 15)])), (b 8, .inl (cI, 4, .inl Wt)), (b 15, .inl (cI, 4, .inl (fun j => oi (ln0 j)))), (b 1, .inr (6, [.int (nI n), .ref (b 2), .ref (b 3), .ref (b 4), .ref (b 5), .ref (b 6), .ref (b 7)])), (b 2, .inl (cI, 60, .inl F)), (b 3, .inl (cI, 60, .inl T)), (b 4, .inl (cI, 60, .inl P)), (b 5, .inl (cI, 60, .inl V)), (b 6, .inl (cI, 60, .inl (fun j => nI (o j)))), (b 7, .inl (cI, 60, .inl (fun j => nI (kr j))))]) hP hD [2, 3, 4, 5, 6, 7, 8, 9, 10, 11] [0, 1] rfl rfl (by decide) (by decide) hk1 hFc hP1 hD1
  generalize H1 = H at hP hS ⊢
  have hP : va_P (dC, dI) vwCl [(b 19, .inr (2, [.ref (b 1), .ref (b 14), .ref (b 20)])), (b 20, .inl (cI, 60, .inl CH)), (b 14, .inr (3, [.ref (b 1), .ref (b 8), .ref (b 15)])), (b 8, .inl (cI, 4, .inl Wt)), (b 15, .inl (cI, 4, .inl (fun j => oi (ln0 j)))), (b 1, .inr (6, [.int (nI n), .ref (b 2), .ref (b 3), .ref (b 4), .ref (b 5), .ref (b 6), .ref (b 7)])), (b 2, .inl (cI, 60, .inl F)), (b 3, .inl (cI, 60, .inl T)), (b 4, .inl (cI, 60, .inl P)), (b 5, .inl (cI, 60, .inl V)), (b 6, .inl (cI, 60, .inl (fun j => nI (o j)))), (b 7, .inl (cI, 60, .inl (fun j => nI (kr j))))] H := hP
  have hD : va_D A [(b 19, .inr (2, [.ref (b 1), .ref (b 14), .ref (b 20)])), (b 20, .inl (cI, 60, .inl CH)), (b 14, .inr (3, [.ref (b 1), .ref (b 8), .ref (b 15)])), (b 8, .inl (cI, 4, .inl Wt)), (b 15, .inl (cI, 4, .inl (fun j => oi (ln0 j)))), (b 1, .inr (6, [.int (nI n), .ref (b 2), .ref (b 3), .ref (b 4), .ref (b 5), .ref (b 6), .ref (b 7)])), (b 2, .inl (cI, 60, .inl F)), (b 3, .inl (cI, 60, .inl T)), (b 4, .inl (cI, 60, .inl P)), (b 5, .inl (cI, 60, .inl V)), (b 6, .inl (cI, 60, .inl (fun j => nI (o j)))), (b 7, .inl (cI, 60, .inl (fun j => nI (kr j))))] := hD
  refine lv_iconst (v := 0) hx hb dX2_go_7 (by decide) ?_
  refine lv_istore_n (lv' := [(2, .int 0), (0, .ref (b 19)), (1, .int (nI nv))]) hx hb dX2_go_8 rfl hl (by decide) rfl (fun ls hl => ?_)
  have L9 : ∀ (fu : Nat) (r : Nat) (x2 : Int32) (LA1 CH1 : Nat → Int32) (H : Heap) (locs : List Loc) (ls : Array Slot), x2 = nI r → LA1 = (fun j => oi (lnG F T P Wt o nv r j)) → r ≤ n → (∀ j, j < r → chG F T P Wt o nv j ≠ 0) → (∀ j, j < r → CH1 (o j) = nI (chG F T P Wt o nv j - 1)) → n - r < fu → va_P (dC, dI) vwCl [(b 19, .inr (2, [.ref (b 1), .ref (b 14), .ref (b 20)])), (b 20, .inl (cI, 60, .inl CH1)), (b 14, .inr (3, [.ref (b 1), .ref (b 8), .ref (b 15)])), (b 8, .inl (cI, 4, .inl Wt)), (b 15, .inl (cI, 4, .inl LA1)), (b 1, .inr (6, [.int (nI n), .ref (b 2), .ref (b 3), .ref (b 4), .ref (b 5), .ref (b 6), .ref (b 7)])), (b 2, .inl (cI, 60, .inl F)), (b 3, .inl (cI, 60, .inl T)), (b 4, .inl (cI, 60, .inl P)), (b 5, .inl (cI, 60, .inl V)), (b 6, .inl (cI, 60, .inl (fun j => nI (o j)))), (b 7, .inl (cI, 60, .inl (fun j => nI (kr j))))] H → va_D A [(b 19, .inr (2, [.ref (b 1), .ref (b 14), .ref (b 20)])), (b 20, .inl (cI, 60, .inl CH1)), (b 14, .inr (3, [.ref (b 1), .ref (b 8), .ref (b 15)])), (b 8, .inl (cI, 4, .inl Wt)), (b 15, .inl (cI, 4, .inl LA1)), (b 1, .inr (6, [.int (nI n), .ref (b 2), .ref (b 3), .ref (b 4), .ref (b 5), .ref (b 6), .ref (b 7)])), (b 2, .inl (cI, 60, .inl F)), (b 3, .inl (cI, 60, .inl T)), (b 4, .inl (cI, 60, .inl P)), (b 5, .inl (cI, 60, .inl V)), (b 6, .inl (cI, 60, .inl (fun j => nI (o j)))), (b 7, .inl (cI, 60, .inl (fun j => nI (kr j))))] → va_S A s.heap H locs → lv_has ls 5 [(0, .ref (b 19)), (1, .int (nI nv)), (2, .int x2)] → W p l e (headSpec wsX2_go ({ frames := 3, cells := 0, slots := 0, locals := 77 } : Room)).room s m [.ref (b 19), .int (nI nv)].toArray below meth c H locs 0 0 (MQ below (va_Qi (fun (rr : Int32) (u : (Nat → Int32) × (Nat → Int32) × (Nat → Int32)) => (rr = 1 ∧ (∀ j, j < n → chG F T P Wt o nv j ≠ 0) ∧ (∀ j, j < n → u.2.2 (o j) = nI (chG F T P Wt o nv j - 1)) ∧ (∀ j, n ≤ j → u.2.2 j = V j)) ∨ (rr = 0 ∧ (∃ r, r < n ∧ chG F T P Wt o nv r = 0 ∧ ∀ j, j < r → chG F T P Wt o nv j ≠ 0) ∧ u.2.2 = V)) (fun u t => va_P (dC, dI) vwCl [(b 19, .inr (2, [.ref (b 1), .ref (b 14), .ref (b 20)])), (b 20, .inl (cI, 60, .inl u.1)), (b 14, .inr (3, [.ref (b 1), .ref (b 8), .ref (b 15)])), (b 8, .inl (cI, 4, .inl Wt)), (b 15, .inl (cI, 4, .inl u.2.1)), (b 1, .inr (6, [.int (nI n), .ref (b 2), .ref (b 3), .ref (b 4), .ref (b 5), .ref (b 6), .ref (b 7)])), (b 2, .inl (cI, 60, .inl F)), (b 3, .inl (cI, 60, .inl T)), (b 4, .inl (cI, 60, .inl P)), (b 5, .inl (cI, 60, .inl u.2.2)), (b 6, .inl (cI, 60, .inl (fun j => nI (o j)))), (b 7, .inl (cI, 60, .inl (fun j => nI (kr j))))] t.heap ∧ va_K (dC, dI) vwCl [(cI, .int)] t ∧ va_D A [(b 19, .inr (2, [.ref (b 1), .ref (b 14), .ref (b 20)])), (b 20, .inl (cI, 60, .inl u.1)), (b 14, .inr (3, [.ref (b 1), .ref (b 8), .ref (b 15)])), (b 8, .inl (cI, 4, .inl Wt)), (b 15, .inl (cI, 4, .inl u.2.1)), (b 1, .inr (6, [.int (nI n), .ref (b 2), .ref (b 3), .ref (b 4), .ref (b 5), .ref (b 6), .ref (b 7)])), (b 2, .inl (cI, 60, .inl F)), (b 3, .inl (cI, 60, .inl T)), (b 4, .inl (cI, 60, .inl P)), (b 5, .inl (cI, 60, .inl u.2.2)), (b 6, .inl (cI, 60, .inl (fun j => nI (o j)))), (b 7, .inl (cI, 60, .inl (fun j => nI (kr j))))]) A) [.ref (b 19), .int (nI nv)].toArray s 0 0 A) (F0 m 9 ls []) := by
    intro fu
    induction fu with
    | zero =>
      intro r x2 LA1 CH1 H locs ls e2 r_LA1 hr1 hc1 hc2 hfu9 hP hD hS hl
      exact absurd hfu9 (Nat.not_lt_zero _)
    | succ fu ih9 =>
      intro r x2 LA1 CH1 H locs ls e2 r_LA1 hr1 hc1 hc2 hfu9 hP hD hS hl
      subst e2
      subst r_LA1
      refine lv_iload_n hx hb dX2_go_9 rfl (lv_at hl 2 rfl) ?_
      refine lv_aload_n hx hb dX2_go_10 rfl (lv_at hl 0 rfl) ?_
      refine va_get (D := (dC, dI)) (ci := 2) (v := .ref (b 1)) (C := RX2) (T := TX2) (N := 3) hx hb hts i_X2 hown hK hP 0 rfl rfl 0 (by decide) k_1 (fun _ h9 => h9) rfl dX2_go_11 ?_
      refine va_get (D := (dC, dI)) (ci := 6) (v := .int (nI n)) (C := RX6) (T := TX6) (N := 7) hx hb hts i_X6 hown hK hP 5 rfl rfl 0 (by decide) k_2 (fun _ h9 => h9) rfl dX2_go_14 ?_
      refine lv_icmp_ge (tgt := 71) hx hb dX2_go_17 (by decide) (fun c_2 => ?_) (fun c_2 => ?_)
      · skip
        have c_2 : r ≥ n := gk_geT (a := r) (b := n) (by first | omega | exact Nat.lt_trans (ho _) (by decide) | exact Nat.lt_of_le_of_lt atN_le (by omega) | exact Nat.lt_of_le_of_lt szN_le (by omega) | exact Nat.lt_of_le_of_lt clM_le (by omega) | exact Nat.lt_of_le_of_lt rkN_le (by omega) | exact Nat.lt_of_le_of_lt (cnt_le _ _) (by omega)) (by first | omega | exact Nat.lt_trans (ho _) (by decide) | exact Nat.lt_of_le_of_lt atN_le (by omega) | exact Nat.lt_of_le_of_lt szN_le (by omega) | exact Nat.lt_of_le_of_lt clM_le (by omega) | exact Nat.lt_of_le_of_lt rkN_le (by omega) | exact Nat.lt_of_le_of_lt (cnt_le _ _) (by omega)) c_2
        refine lv_aload_n hx hb dX2_go_71 rfl (lv_at hl 0 rfl) ?_
        refine va_get (D := (dC, dI)) (ci := 2) (v := .ref (b 20)) (C := RX2) (T := TX2) (N := 3) hx hb hts i_X2 hown hK hP 0 rfl rfl 2 (by decide) k_3 (fun _ h9 => h9) rfl dX2_go_72 ?_
        refine lv_iconst (v := 0) hx hb dX2_go_75 (by decide) ?_
        refine lv_aload_n hx hb dX2_go_76 rfl (lv_at hl 0 rfl) ?_
        refine va_get (D := (dC, dI)) (ci := 2) (v := .ref (b 1)) (C := RX2) (T := TX2) (N := 3) hx hb hts i_X2 hown hK hP 0 rfl rfl 0 (by decide) k_1 (fun _ h9 => h9) rfl dX2_go_77 ?_
        refine va_get (D := (dC, dI)) (ci := 6) (v := .ref (b 5)) (C := RX6) (T := TX6) (N := 7) hx hb hts i_X6 hown hK hP 5 rfl rfl 4 (by decide) k_4 (fun _ h9 => h9) rfl dX2_go_80 ?_
        refine lv_iconst (v := 0) hx hb dX2_go_83 (by decide) ?_
        refine lv_aload_n hx hb dX2_go_84 rfl (lv_at hl 0 rfl) ?_
        refine va_get (D := (dC, dI)) (ci := 2) (v := .ref (b 1)) (C := RX2) (T := TX2) (N := 3) hx hb hts i_X2 hown hK hP 0 rfl rfl 0 (by decide) k_1 (fun _ h9 => h9) rfl dX2_go_85 ?_
        refine va_get (D := (dC, dI)) (ci := 6) (v := .int (nI n)) (C := RX6) (T := TX6) (N := 7) hx hb hts i_X6 hown hK hP 5 rfl rfl 0 (by decide) k_2 (fun _ h9 => h9) rfl dX2_go_88 ?_
        refine va_copyi hx hb (hml.trans hl.1.symm) hown k_5 k_6 k_7 k_8 hK hP hD hS 1 9 0 0 rfl rfl rfl rfl rfl (by decide) (by decide) (nI_pos (by omega)) (by rw [nI_clamp (by omega), sb_cl0]; omega) (by rw [nI_clamp (by omega), sb_cl0]; omega) (fun _ _ => rfl) (Nat.le_of_ble_eq_true rfl) (Nat.le_of_ble_eq_true rfl) dX2_go_91 (fun H locs hP hD hS => ?_)
        rw [sb_cl0, nI_clamp (by omega)] at hP hD
        have hP : va_P (dC, dI) vwCl [(b 19, .inr (2, [.ref (b 1), .ref (b 14), .ref (b 20)])), (b 20, .inl (cI, 60, .inl CH1)), (b 14, .inr (3, [.ref (b 1), .ref (b 8), .ref (b 15)])), (b 8, .inl (cI, 4, .inl Wt)), (b 15, .inl (cI, 4, .inl (fun j => oi (lnG F T P Wt o nv r j)))), (b 1, .inr (6, [.int (nI n), .ref (b 2), .ref (b 3), .ref (b 4), .ref (b 5), .ref (b 6), .ref (b 7)])), (b 2, .inl (cI, 60, .inl F)), (b 3, .inl (cI, 60, .inl T)), (b 4, .inl (cI, 60, .inl P)), (b 5, .inl (cI, 60, .inl (va_cpy CH1 V 0 0 n))), (b 6, .inl (cI, 60, .inl (fun j => nI (o j)))), (b 7, .inl (cI, 60, .inl (fun j => nI (kr j))))] H := hP
        have hD : va_D A [(b 19, .inr (2, [.ref (b 1), .ref (b 14), .ref (b 20)])), (b 20, .inl (cI, 60, .inl CH1)), (b 14, .inr (3, [.ref (b 1), .ref (b 8), .ref (b 15)])), (b 8, .inl (cI, 4, .inl Wt)), (b 15, .inl (cI, 4, .inl (fun j => oi (lnG F T P Wt o nv r j)))), (b 1, .inr (6, [.int (nI n), .ref (b 2), .ref (b 3), .ref (b 4), .ref (b 5), .ref (b 6), .ref (b 7)])), (b 2, .inl (cI, 60, .inl F)), (b 3, .inl (cI, 60, .inl T)), (b 4, .inl (cI, 60, .inl P)), (b 5, .inl (cI, 60, .inl (va_cpy CH1 V 0 0 n))), (b 6, .inl (cI, 60, .inl (fun j => nI (o j)))), (b 7, .inl (cI, 60, .inl (fun j => nI (kr j))))] := hD
        refine lv_iconst (v := 1) hx hb dX2_go_94 (by decide) ?_
        exact W.zret (v := 1) hx hb hr (rfl) (fun t ht hW => ⟨⟨_, (CH1, (fun j => oi (lnG F T P Wt o nv r j)), va_cpy CH1 V 0 0 n), rfl, (by (obtain rfl : r = n := by omega); refine Or.inl ⟨rfl, hc1, fun j hj => ?_, fun j hj => ?_⟩; (dsimp only; rw [pk_cpy_in (Nat.zero_le _) (by have := prm_lt hp hj; omega)]; simp only [Nat.sub_zero, Nat.zero_add]; exact hc2 j hj); dsimp only; rw [pk_cpy_out (Or.inr (by omega))]), by rw [ht]; exact hP, va_K.moved hW.alike hK, hD⟩, hS.F ht⟩) hS.2.2 dX2_go_95
      · skip
        have c_2 : r < n := gk_geF (a := r) (b := n) (by first | omega | exact Nat.lt_trans (ho _) (by decide) | exact Nat.lt_of_le_of_lt atN_le (by omega) | exact Nat.lt_of_le_of_lt szN_le (by omega) | exact Nat.lt_of_le_of_lt clM_le (by omega) | exact Nat.lt_of_le_of_lt rkN_le (by omega) | exact Nat.lt_of_le_of_lt (cnt_le _ _) (by omega)) (by first | omega | exact Nat.lt_trans (ho _) (by decide) | exact Nat.lt_of_le_of_lt atN_le (by omega) | exact Nat.lt_of_le_of_lt szN_le (by omega) | exact Nat.lt_of_le_of_lt clM_le (by omega) | exact Nat.lt_of_le_of_lt rkN_le (by omega) | exact Nat.lt_of_le_of_lt (cnt_le _ _) (by omega)) c_2
        refine lv_aload_n hx hb dX2_go_20 rfl (lv_at hl 0 rfl) ?_
        refine va_get (D := (dC, dI)) (ci := 2) (v := .ref (b 1)) (C := RX2) (T := TX2) (N := 3) hx hb hts i_X2 hown hK hP 0 rfl rfl 0 (by decide) k_1 (fun _ h9 => h9) rfl dX2_go_21 ?_
        refine va_get (D := (dC, dI)) (ci := 6) (v := .ref (b 6)) (C := RX6) (T := TX6) (N := 7) hx hb hts i_X6 hown hK hP 5 rfl rfl 5 (by decide) k_9 (fun _ h9 => h9) rfl dX2_go_24 ?_
        refine lv_iload_n hx hb dX2_go_27 rfl (lv_at hl 2 rfl) ?_
        refine gk_ld hx hb hK hP 10 0 rfl rfl r (by omega) (by omega) (v := nI (o r)) (rfl) dX2_go_28 ?_
        refine lv_istore_n (lv' := [(3, .int (nI (o r))), (0, .ref (b 19)), (1, .int (nI nv)), (2, .int (nI r))]) hx hb dX2_go_29 rfl hl (by decide) rfl (fun ls hl => ?_)
        refine lv_aload_n hx hb dX2_go_30 rfl (lv_at hl 1 rfl) ?_
        refine lv_iload_n hx hb dX2_go_31 rfl (lv_at hl 0 rfl) ?_
        refine lv_iload_n hx hb dX2_go_32 rfl (lv_at hl 2 rfl) ?_
        refine vp_callSi (gk_run (va_runV (As := [.int (nI (o r)), .int (nI nv)]) (rest := []) ⟨hx, hb, hml, hown, hts⟩ (c_X2_cheapest l dC dI cI b n F T P V o kr hn ho Wt (lnG F T P Wt o nv r) (hlg r) CH1 (o r) nv (ho _) hv0) (cwV 2 hts gX2_go_X2_cheapest rfl rfl rfl (by decide +kernel) ⟨Nat.le_of_ble_eq_true rfl, Nat.le_of_ble_eq_true rfl⟩) ⟨gk_fb, va_recv hK hP (ci := 2) (q0 := 0) rfl rfl, fun U hU hW => ⟨rfl, by rw [hU]; exact hP, va_K.moved hW.alike hK⟩⟩ rfl rfl hl.1 rfl (lv_room (Nat.le_of_ble_eq_true rfl)) dX2_go_33 ⟨Nat.zero_le _, Nat.zero_le _⟩)) (fun r_3 er_3 => ?_)
        subst er_3
        refine lv_istore (lv' := [(4, .int (oi (chG F T P Wt o nv r))), (3, .int (nI (o r))), (0, .ref (b 19)), (1, .int (nI nv)), (2, .int (nI r))]) hx hb dX2_go_36 hl (by decide) rfl (fun ls hl => ?_)
        refine lv_iload hx hb dX2_go_38 (lv_at hl 0 rfl) ?_
        refine lv_iconst (v := (-1)) hx hb dX2_go_40 (by decide) ?_
        refine lv_icmp_ne (tgt := 46) hx hb dX2_go_41 (by decide) (fun c_4 => ?_) (fun c_4 => ?_)
        · skip
          have c_4 : (chG F T P Wt o nv r) ≠ 0 := fun q => c_4 ((oi_m1 (by have := hcl r; omega)).mpr q)
          refine lv_aload_n hx hb dX2_go_46 rfl (lv_at hl 2 rfl) ?_
          refine va_get (D := (dC, dI)) (ci := 2) (v := .ref (b 14)) (C := RX2) (T := TX2) (N := 3) hx hb hts i_X2 hown hK hP 0 rfl rfl 1 (by decide) k_0 (fun _ h9 => h9) rfl dX2_go_47 ?_
          refine va_get (D := (dC, dI)) (ci := 3) (v := .ref (b 15)) (C := RX3) (T := TX3) (N := 3) hx hb hts i_X3 hown hK hP 2 rfl rfl 2 (by decide) k_10 (fun _ h9 => h9) rfl dX2_go_50 ?_
          refine lv_iload hx hb dX2_go_53 (lv_at hl 0 rfl) ?_
          refine gk_top (y := nI (chG F T P Wt o nv r - 1)) (oi_pos (by assumption)) ?_
          refine lv_iload_n hx hb dX2_go_55 rfl (lv_at hl 1 rfl) ?_
          refine gk_st hx hb hK hP hD hS 4 0 rfl rfl (chG F T P Wt o nv r - 1) (by have := hcl r; omega) (by omega) dX2_go_56 (fun H locs hP hD hS => ?_)
          have hP : va_P (dC, dI) vwCl [(b 19, .inr (2, [.ref (b 1), .ref (b 14), .ref (b 20)])), (b 20, .inl (cI, 60, .inl CH1)), (b 14, .inr (3, [.ref (b 1), .ref (b 8), .ref (b 15)])), (b 8, .inl (cI, 4, .inl Wt)), (b 15, .inl (cI, 4, .inl (upd (fun j => oi (lnG F T P Wt o nv r j)) (chG F T P Wt o nv r - 1) (nI (o r))))), (b 1, .inr (6, [.int (nI n), .ref (b 2), .ref (b 3), .ref (b 4), .ref (b 5), .ref (b 6), .ref (b 7)])), (b 2, .inl (cI, 60, .inl F)), (b 3, .inl (cI, 60, .inl T)), (b 4, .inl (cI, 60, .inl P)), (b 5, .inl (cI, 60, .inl V)), (b 6, .inl (cI, 60, .inl (fun j => nI (o j)))), (b 7, .inl (cI, 60, .inl (fun j => nI (kr j))))] H := hP
          have hD : va_D A [(b 19, .inr (2, [.ref (b 1), .ref (b 14), .ref (b 20)])), (b 20, .inl (cI, 60, .inl CH1)), (b 14, .inr (3, [.ref (b 1), .ref (b 8), .ref (b 15)])), (b 8, .inl (cI, 4, .inl Wt)), (b 15, .inl (cI, 4, .inl (upd (fun j => oi (lnG F T P Wt o nv r j)) (chG F T P Wt o nv r - 1) (nI (o r))))), (b 1, .inr (6, [.int (nI n), .ref (b 2), .ref (b 3), .ref (b 4), .ref (b 5), .ref (b 6), .ref (b 7)])), (b 2, .inl (cI, 60, .inl F)), (b 3, .inl (cI, 60, .inl T)), (b 4, .inl (cI, 60, .inl P)), (b 5, .inl (cI, 60, .inl V)), (b 6, .inl (cI, 60, .inl (fun j => nI (o j)))), (b 7, .inl (cI, 60, .inl (fun j => nI (kr j))))] := hD
          refine lv_aload_n hx hb dX2_go_57 rfl (lv_at hl 2 rfl) ?_
          refine va_get (D := (dC, dI)) (ci := 2) (v := .ref (b 20)) (C := RX2) (T := TX2) (N := 3) hx hb hts i_X2 hown hK hP 0 rfl rfl 2 (by decide) k_3 (fun _ h9 => h9) rfl dX2_go_58 ?_
          refine lv_iload_n hx hb dX2_go_61 rfl (lv_at hl 1 rfl) ?_
          refine lv_iload hx hb dX2_go_62 (lv_at hl 0 rfl) ?_
          refine gk_top (y := nI (chG F T P Wt o nv r - 1)) (oi_pos (by assumption)) ?_
          refine gk_st hx hb hK hP hD hS 1 0 rfl rfl (o r) (ho _) (by omega) dX2_go_64 (fun H locs hP hD hS => ?_)
          have hP : va_P (dC, dI) vwCl [(b 19, .inr (2, [.ref (b 1), .ref (b 14), .ref (b 20)])), (b 20, .inl (cI, 60, .inl (upd CH1 (o r) (nI (chG F T P Wt o nv r - 1))))), (b 14, .inr (3, [.ref (b 1), .ref (b 8), .ref (b 15)])), (b 8, .inl (cI, 4, .inl Wt)), (b 15, .inl (cI, 4, .inl (upd (fun j => oi (lnG F T P Wt o nv r j)) (chG F T P Wt o nv r - 1) (nI (o r))))), (b 1, .inr (6, [.int (nI n), .ref (b 2), .ref (b 3), .ref (b 4), .ref (b 5), .ref (b 6), .ref (b 7)])), (b 2, .inl (cI, 60, .inl F)), (b 3, .inl (cI, 60, .inl T)), (b 4, .inl (cI, 60, .inl P)), (b 5, .inl (cI, 60, .inl V)), (b 6, .inl (cI, 60, .inl (fun j => nI (o j)))), (b 7, .inl (cI, 60, .inl (fun j => nI (kr j))))] H := hP
          have hD : va_D A [(b 19, .inr (2, [.ref (b 1), .ref (b 14), .ref (b 20)])), (b 20, .inl (cI, 60, .inl (upd CH1 (o r) (nI (chG F T P Wt o nv r - 1))))), (b 14, .inr (3, [.ref (b 1), .ref (b 8), .ref (b 15)])), (b 8, .inl (cI, 4, .inl Wt)), (b 15, .inl (cI, 4, .inl (upd (fun j => oi (lnG F T P Wt o nv r j)) (chG F T P Wt o nv r - 1) (nI (o r))))), (b 1, .inr (6, [.int (nI n), .ref (b 2), .ref (b 3), .ref (b 4), .ref (b 5), .ref (b 6), .ref (b 7)])), (b 2, .inl (cI, 60, .inl F)), (b 3, .inl (cI, 60, .inl T)), (b 4, .inl (cI, 60, .inl P)), (b 5, .inl (cI, 60, .inl V)), (b 6, .inl (cI, 60, .inl (fun j => nI (o j)))), (b 7, .inl (cI, 60, .inl (fun j => nI (kr j))))] := hD
          refine lv_iinc (v := nI (r + 1)) (lv' := [(2, .int (nI (r + 1))), (4, .int (oi (chG F T P Wt o nv r))), (3, .int (nI (o r))), (0, .ref (b 19)), (1, .int (nI nv))]) hx hb dX2_go_65 hl (k := 4) rfl (gk_inc1 _) (by decide) rfl (fun ls hl => ?_)
          refine lv_goto (tgt := 9) hx hb dX2_go_68 (by decide) ?_
          exact ih9 (r + 1) _ _ _ _ _ ls (by rfl) (by first | rfl | exact upd_oi) (by omega) (by first | exact fun j hj => absurd hj (Nat.not_lt_zero j) | exact fun j hj => (Nat.lt_succ_iff_lt_or_eq.mp hj).elim (hc1 j) (fun e => e ▸ (by assumption))) (by first | exact fun j hj => absurd hj (Nat.not_lt_zero j) | exact give_step (G := fun j => nI (chG F T P Wt o nv j - 1)) hp (by omega) hc2) (by omega) hP hD hS (lv_sub hl [3, 4, 0] rfl)
        · skip
          have c_4 : (chG F T P Wt o nv r) = 0 := (oi_m1 (by have := hcl r; omega)).mp c_4
          refine lv_iconst (v := 0) hx hb dX2_go_44 (by decide) ?_
          exact W.zret (v := 0) hx hb hr (rfl) (fun t ht hW => ⟨⟨_, (CH1, (fun j => oi (lnG F T P Wt o nv r j)), V), rfl, (by exact Or.inr ⟨rfl, ⟨r, by omega, by assumption, hc1⟩, rfl⟩), by rw [ht]; exact hP, va_K.moved hW.alike hK, hD⟩, hS.F ht⟩) hS.2.2 dX2_go_45
  exact L9 ((n) + 1) 0 _ _ _ _ _ ls (by rfl) (by first | rfl | exact upd_oi) (by omega) (by first | exact fun j hj => absurd hj (Nat.not_lt_zero j) | exact fun j hj => (Nat.lt_succ_iff_lt_or_eq.mp hj).elim (hc1 j) (fun e => e ▸ (by assumption))) (by first | exact fun j hj => absurd hj (Nat.not_lt_zero j) | exact give_step (G := fun j => nI (chG F T P Wt o nv j - 1)) hp (by omega) hc2) (by omega) hP hD hS (lv_sub hl [1, 2, 0] rfl)
