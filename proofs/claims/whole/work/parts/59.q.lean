set_option maxHeartbeats 1000000 in
set_option maxRecDepth 100000 in
theorem c_X8_search (l : Launch) (dC : Nat → ClassId) (dI : Nat → Nat → Nat) (cI : ClassId) (sz : Nat) (a : Nat → Nat) (n : Nat) (F T P V Wt : Nat → Int32) (o : Nat → Nat) (G L R : Nat → Int32) (hn : n ≤ 60) (ho : ∀ j, o j < 60) (nv : Nat) (hn4 : n ≤ 14) (hv0 : nv ≤ 4) (dp_lt : ¬ dp F T P Wt o nv n 0 ln0 = 2000000000 → dp F T P Wt o nv n 0 ln0 < 2000000000) : Met l yX8_search wsX8_search ({ frames := 5, cells := 0, slots := 0, locals := 125 } : Room) (va_Pc [.ref (a 0), .int (nI nv)] (fun U => U.heap.size = sz ∧ va_P (dC, dI) vwCl (mW cI a (nI n) F T P V Wt (fun j => nI (o j)) G L R) U.heap ∧ va_K (dC, dI) vwCl [(cI, .int)] U ∧ va_D (fun _ => True) (mW cI a (nI n) F T P V Wt (fun j => nI (o j)) G L R))) (va_Qi (fun (rr : Int32) (u : MJ) => rr = dp F T P Wt o nv n 0 ln0 ∧ (¬ dp F T P Wt o nv n 0 ln0 = 2000000000 → okF F T P Wt o n nv 0 ∧ ∀ j, j < n → u.1 j = nI (chF F T P Wt o n nv j))) (fun u t => va_P (dC, dI) vwCl (mW cI a (nI n) F T P V Wt (fun j => nI (o j)) u.1 u.2.1 u.2.2) t.heap ∧ va_K (dC, dI) vwCl [(cI, .int)] t ∧ va_D (va_A (mW cI a (nI n) F T P V Wt (fun j => nI (o j)) G L R) sz) (mW cI a (nI n) F T P V Wt (fun j => nI (o j)) u.1 u.2.1 u.2.2)) (va_A (mW cI a (nI n) F T P V Wt (fun j => nI (o j)) G L R) sz)) 0 0 (va_A (mW cI a (nI n) F T P V Wt (fun j => nI (o j)) G L R) sz) := by
  refine Met.ofW (cc := cX8_search) (maxL := 6) (ret := (some .int)) (by decide) rfl ?_
  intro p e s m args below meth c s₁ B hml hv
  obtain ⟨rfl, hsz, hP, hK, hD0⟩ := hv
  have hx := B.exec
  have hb := B.bytes
  have hr := B.returns
  have hts := atoms_spec (ws := wsX8_search) B.pre
  have hown : s.vm.findClass RX8 = some m.cls := findClass_of_methodNamed B.named
  have hlocks := B.notSynchronized
  subst hsz
  have hD := hD0.self (sz := s.heap.size)
  generalize hAe : va_A (mW cI a (nI n) F T P V Wt (fun j => nI (o j)) G L R) s.heap.size = A at hD ⊢
  have hA : ∀ q : Nat, s.heap.size ≤ q → A q := fun q h => by rw [← hAe]; exact Or.inr h
  have hS : va_S A s.heap s.heap [] := va_S.rf
  have i_X8 : ∀ w ∈ u_ws RX8 TX8 10, w ∈ wsX8_search := by decide +kernel
  have k_0 := hts (.fieldLink RX8 38 "VoiceRowsModel" "notes" "I") (by decide +kernel)
  have k_1 := hts (.fieldLink RX8 35 "VoiceRowsModel" "rest" "[I") (by decide +kernel)
  have k_2 := hts (.constant RX8 62 (2000000000)) (by decide +kernel)
  have k_3 := hts (.fieldLink RX8 28 "VoiceRowsModel" "given" "[I") (by decide +kernel)
  have k_4 := hts (.fieldLink RX8 31 "VoiceRowsModel" "last" "[I") (by decide +kernel)
  have hl := lv_entry ([.ref (a 0), .int (nI nv)]) (n := 6) (Nat.le_of_ble_eq_true rfl)
  rw [lg_entry_eq]
  generalize (lg_sl ([.ref (a 0), .int (nI nv)]) ++ List.replicate (6 - (lg_sl ([.ref (a 0), .int (nI nv)])).length) Slot.unset).toArray = ls at hl ⊢
  have hl : lv_has ls 6 [(0, .ref (a 0)), (1, .int (nI nv))] := hl
  refine lv_aload_n hx hb dX8_search_0 rfl (lv_at hl 0 rfl) ?_
  refine va_get (D := (dC, dI)) (ci := 8) (v := .int (nI n)) (C := RX8) (T := TX8) (N := 10) hx hb hts i_X8 hown hK hP 0 rfl rfl 4 (by decide) k_0 (fun _ h9 => h9) rfl dX8_search_1 ?_
  refine lv_istore_n (lv' := [(2, .int (nI n)), (0, .ref (a 0)), (1, .int (nI nv))]) hx hb dX8_search_4 rfl hl (by decide) rfl (fun ls hl => ?_)
  have L5 : ∀ (fu : Nat) (k : Nat) (x2 : Int32) (L1 R1 : Nat → Int32) (H : Heap) (locs : List Loc) (ls : Array Slot), x2 = oi k → k ≤ n + 1 → rdP F T P Wt o n nv R1 k → k < fu → va_P (dC, dI) vwCl [(a 0, .inr (8, [.ref (a 1), .ref (a 2), .ref (a 3), .ref (a 4), .int (nI n), .ref (a 5), .ref (a 6), .ref (a 7), .ref (a 8), .ref (a 9)])), (a 1, .inl (cI, 60, .inl F)), (a 2, .inl (cI, 60, .inl T)), (a 3, .inl (cI, 60, .inl P)), (a 4, .inl (cI, 60, .inl V)), (a 5, .inl (cI, 4, .inl Wt)), (a 6, .inl (cI, 60, .inl (fun j => nI (o j)))), (a 7, .inl (cI, 60, .inl G)), (a 8, .inl (cI, 4, .inl L1)), (a 9, .inl (cI, 759375, .inl R1))] H → va_D A [(a 0, .inr (8, [.ref (a 1), .ref (a 2), .ref (a 3), .ref (a 4), .int (nI n), .ref (a 5), .ref (a 6), .ref (a 7), .ref (a 8), .ref (a 9)])), (a 1, .inl (cI, 60, .inl F)), (a 2, .inl (cI, 60, .inl T)), (a 3, .inl (cI, 60, .inl P)), (a 4, .inl (cI, 60, .inl V)), (a 5, .inl (cI, 4, .inl Wt)), (a 6, .inl (cI, 60, .inl (fun j => nI (o j)))), (a 7, .inl (cI, 60, .inl G)), (a 8, .inl (cI, 4, .inl L1)), (a 9, .inl (cI, 759375, .inl R1))] → va_S A s.heap H locs → lv_has ls 6 [(0, .ref (a 0)), (1, .int (nI nv)), (2, .int x2)] → W p l e (headSpec wsX8_search ({ frames := 5, cells := 0, slots := 0, locals := 125 } : Room)).room s m [.ref (a 0), .int (nI nv)].toArray below meth c H locs 0 0 (MQ below (va_Qi (fun (rr : Int32) (u : MJ) => rr = dp F T P Wt o nv n 0 ln0 ∧ (¬ dp F T P Wt o nv n 0 ln0 = 2000000000 → okF F T P Wt o n nv 0 ∧ ∀ j, j < n → u.1 j = nI (chF F T P Wt o n nv j))) (fun u t => va_P (dC, dI) vwCl (mW cI a (nI n) F T P V Wt (fun j => nI (o j)) u.1 u.2.1 u.2.2) t.heap ∧ va_K (dC, dI) vwCl [(cI, .int)] t ∧ va_D A (mW cI a (nI n) F T P V Wt (fun j => nI (o j)) u.1 u.2.1 u.2.2)) A) [.ref (a 0), .int (nI nv)].toArray s 0 0 A) (F0 m 5 ls []) := by
    intro fu
    induction fu with
    | zero =>
      intro k x2 L1 R1 H locs ls e2 hk1 hR1 hfu5 hP hD hS hl
      exact absurd hfu5 (Nat.not_lt_zero _)
    | succ fu ih5 =>
      intro k x2 L1 R1 H locs ls e2 hk1 hR1 hfu5 hP hD hS hl
      subst e2
      refine lv_iload_n hx hb dX8_search_5 rfl (lv_at hl 2 rfl) ?_
      refine lv_if_lt (tgt := 21) hx hb dX8_search_6 (by decide) (fun c_1 => ?_) (fun c_1 => ?_)
      · skip
        have c_1 : k = 0 := Decidable.not_not.mp (fun q => absurd c_1 (by first | exact Int32.not_lt.mpr ((oi_ge (by omega)).mpr q) | exact fun w => w ((oi_ge (by omega)).mpr q)))
        obtain rfl : k = 0 := c_1
        have hR0 := hR1
        refine lv_iconst (v := 0) hx hb dX8_search_21 (by decide) ?_
        refine lv_istore_n (lv' := [(2, .int 0), (0, .ref (a 0)), (1, .int (nI nv))]) hx hb dX8_search_22 rfl hl (by decide) rfl (fun ls hl => ?_)
        have L23 : ∀ (fu : Nat) (v : Nat) (x2 : Int32) (L3 : Nat → Int32) (H : Heap) (locs : List Loc) (ls : Array Slot), x2 = nI v → v ≤ 4 → (∀ j, j < v → L3 j = 0) → 4 - v < fu → va_P (dC, dI) vwCl [(a 0, .inr (8, [.ref (a 1), .ref (a 2), .ref (a 3), .ref (a 4), .int (nI n), .ref (a 5), .ref (a 6), .ref (a 7), .ref (a 8), .ref (a 9)])), (a 1, .inl (cI, 60, .inl F)), (a 2, .inl (cI, 60, .inl T)), (a 3, .inl (cI, 60, .inl P)), (a 4, .inl (cI, 60, .inl V)), (a 5, .inl (cI, 4, .inl Wt)), (a 6, .inl (cI, 60, .inl (fun j => nI (o j)))), (a 7, .inl (cI, 60, .inl G)), (a 8, .inl (cI, 4, .inl L3)), (a 9, .inl (cI, 759375, .inl R1))] H → va_D A [(a 0, .inr (8, [.ref (a 1), .ref (a 2), .ref (a 3), .ref (a 4), .int (nI n), .ref (a 5), .ref (a 6), .ref (a 7), .ref (a 8), .ref (a 9)])), (a 1, .inl (cI, 60, .inl F)), (a 2, .inl (cI, 60, .inl T)), (a 3, .inl (cI, 60, .inl P)), (a 4, .inl (cI, 60, .inl V)), (a 5, .inl (cI, 4, .inl Wt)), (a 6, .inl (cI, 60, .inl (fun j => nI (o j)))), (a 7, .inl (cI, 60, .inl G)), (a 8, .inl (cI, 4, .inl L3)), (a 9, .inl (cI, 759375, .inl R1))] → va_S A s.heap H locs → lv_has ls 6 [(0, .ref (a 0)), (1, .int (nI nv)), (2, .int x2)] → W p l e (headSpec wsX8_search ({ frames := 5, cells := 0, slots := 0, locals := 125 } : Room)).room s m [.ref (a 0), .int (nI nv)].toArray below meth c H locs 0 0 (MQ below (va_Qi (fun (rr : Int32) (u : MJ) => rr = dp F T P Wt o nv n 0 ln0 ∧ (¬ dp F T P Wt o nv n 0 ln0 = 2000000000 → okF F T P Wt o n nv 0 ∧ ∀ j, j < n → u.1 j = nI (chF F T P Wt o n nv j))) (fun u t => va_P (dC, dI) vwCl (mW cI a (nI n) F T P V Wt (fun j => nI (o j)) u.1 u.2.1 u.2.2) t.heap ∧ va_K (dC, dI) vwCl [(cI, .int)] t ∧ va_D A (mW cI a (nI n) F T P V Wt (fun j => nI (o j)) u.1 u.2.1 u.2.2)) A) [.ref (a 0), .int (nI nv)].toArray s 0 0 A) (F0 m 23 ls []) := by
          intro fu
          induction fu with
          | zero =>
            intro v x2 L3 H locs ls e2 hv3 hL3 hfu23 hP hD hS hl
            exact absurd hfu23 (Nat.not_lt_zero _)
          | succ fu ih23 =>
            intro v x2 L3 H locs ls e2 hv3 hL3 hfu23 hP hD hS hl
            subst e2
            refine lv_iload_n hx hb dX8_search_23 rfl (lv_at hl 2 rfl) ?_
            refine lv_iconst (v := 4) hx hb dX8_search_24 (by decide) ?_
            refine lv_icmp_ge (tgt := 41) hx hb dX8_search_25 (by decide) (fun c_2 => ?_) (fun c_2 => ?_)
            · skip
              have c_2 : v ≥ 4 := gk_geT (a := v) (b := 4) (by first | omega | exact Nat.lt_trans (ho _) (by decide) | exact Nat.lt_of_le_of_lt atN_le (by omega) | exact Nat.lt_of_le_of_lt szN_le (by omega) | exact Nat.lt_of_le_of_lt clM_le (by omega) | exact Nat.lt_of_le_of_lt rkN_le (by omega) | exact Nat.lt_of_le_of_lt (cnt_le _ _) (by omega)) (by first | omega | exact Nat.lt_trans (ho _) (by decide) | exact Nat.lt_of_le_of_lt atN_le (by omega) | exact Nat.lt_of_le_of_lt szN_le (by omega) | exact Nat.lt_of_le_of_lt clM_le (by omega) | exact Nat.lt_of_le_of_lt rkN_le (by omega) | exact Nat.lt_of_le_of_lt (cnt_le _ _) (by omega)) c_2
              have hP := gk_extP (g := (fun j => nI (ln0 j))) hP 8 rfl (fun j hj => (hL3 j (by omega)).trans nI_0.symm)
              have hD := gk_extD (e := .inl (cI, 4, .inl (fun j => nI (ln0 j)))) hD 8 rfl
              have hP : va_P (dC, dI) vwCl [(a 0, .inr (8, [.ref (a 1), .ref (a 2), .ref (a 3), .ref (a 4), .int (nI n), .ref (a 5), .ref (a 6), .ref (a 7), .ref (a 8), .ref (a 9)])), (a 1, .inl (cI, 60, .inl F)), (a 2, .inl (cI, 60, .inl T)), (a 3, .inl (cI, 60, .inl P)), (a 4, .inl (cI, 60, .inl V)), (a 5, .inl (cI, 4, .inl Wt)), (a 6, .inl (cI, 60, .inl (fun j => nI (o j)))), (a 7, .inl (cI, 60, .inl G)), (a 8, .inl (cI, 4, .inl (fun j => nI (ln0 j)))), (a 9, .inl (cI, 759375, .inl R1))] H := hP
              have hD : va_D A [(a 0, .inr (8, [.ref (a 1), .ref (a 2), .ref (a 3), .ref (a 4), .int (nI n), .ref (a 5), .ref (a 6), .ref (a 7), .ref (a 8), .ref (a 9)])), (a 1, .inl (cI, 60, .inl F)), (a 2, .inl (cI, 60, .inl T)), (a 3, .inl (cI, 60, .inl P)), (a 4, .inl (cI, 60, .inl V)), (a 5, .inl (cI, 4, .inl Wt)), (a 6, .inl (cI, 60, .inl (fun j => nI (o j)))), (a 7, .inl (cI, 60, .inl G)), (a 8, .inl (cI, 4, .inl (fun j => nI (ln0 j)))), (a 9, .inl (cI, 759375, .inl R1))] := hD
              refine lv_aload_n hx hb dX8_search_41 rfl (lv_at hl 0 rfl) ?_
              refine va_get (D := (dC, dI)) (ci := 8) (v := .ref (a 9)) (C := RX8) (T := TX8) (N := 10) hx hb hts i_X8 hown hK hP 0 rfl rfl 9 (by decide) k_1 (fun _ h9 => h9) rfl dX8_search_42 ?_
              refine lv_aload_n hx hb dX8_search_45 rfl (lv_at hl 0 rfl) ?_
              refine lv_iconst (v := 0) hx hb dX8_search_46 (by decide) ?_
              refine vp_callSi (gk_run (va_runV (As := [.int 0]) (rest := [.ref (a 9)]) ⟨hx, hb, hml, hown, hts⟩ (c_X8_place l dC dI cI a n F T P V Wt o G ln0 R1 hn ho (fun _ => Nat.zero_le _) (fun _ => Nat.zero_le _) 0) (cwV 1 hts gX8_search_X8_place rfl rfl rfl (by decide +kernel) ⟨Nat.le_of_ble_eq_true rfl, Nat.le_of_ble_eq_true rfl⟩) ⟨gk_fb, va_recv hK hP (ci := 8) (q0 := 0) rfl rfl, fun U hU hW => ⟨rfl, by rw [hU]; exact hP, va_K.moved hW.alike hK⟩⟩ rfl rfl hl.1 rfl (lv_room (Nat.le_of_ble_eq_true rfl)) dX8_search_47 ⟨Nat.zero_le _, Nat.zero_le _⟩)) (fun r_3 er_3 => ?_)
              subst er_3
              refine gk_ld hx hb hK hP 9 0 rfl rfl (plc 0 ln0) (plc_lt (by decide) (fun _ => Nat.zero_le _)) (by omega) (v := R1 (plc 0 ln0)) (rfl) dX8_search_50 ?_
              refine gk_top (y := dp F T P Wt o nv n 0 ln0) (by have := hR1 0 (by omega) (Nat.zero_le n) ln0 laV_0; rw [Nat.sub_zero] at this; exact this) ?_
              refine lv_istore_n (lv' := [(2, .int (dp F T P Wt o nv n 0 ln0)), (0, .ref (a 0)), (1, .int (nI nv))]) hx hb dX8_search_51 rfl hl (by decide) rfl (fun ls hl => ?_)
              refine lv_iconst (v := 0) hx hb dX8_search_52 (by decide) ?_
              refine lv_istore_n (lv' := [(3, .int 0), (2, .int (dp F T P Wt o nv n 0 ln0)), (0, .ref (a 0)), (1, .int (nI nv))]) hx hb dX8_search_53 rfl hl (by decide) rfl (fun ls hl => ?_)
              have L54 : ∀ (fu : Nat) (r : Nat) (x3 : Int32) (L4 G1 : Nat → Int32) (H : Heap) (locs : List Loc) (ls : Array Slot), x3 = nI r → L4 = (fun j => nI (laF F T P Wt o n nv r j)) → r ≤ n → (r = 0 ∨ okF F T P Wt o n nv r) → (∀ j, j < r → G1 j = nI (chF F T P Wt o n nv j)) → n - r < fu → va_P (dC, dI) vwCl [(a 0, .inr (8, [.ref (a 1), .ref (a 2), .ref (a 3), .ref (a 4), .int (nI n), .ref (a 5), .ref (a 6), .ref (a 7), .ref (a 8), .ref (a 9)])), (a 1, .inl (cI, 60, .inl F)), (a 2, .inl (cI, 60, .inl T)), (a 3, .inl (cI, 60, .inl P)), (a 4, .inl (cI, 60, .inl V)), (a 5, .inl (cI, 4, .inl Wt)), (a 6, .inl (cI, 60, .inl (fun j => nI (o j)))), (a 7, .inl (cI, 60, .inl G1)), (a 8, .inl (cI, 4, .inl L4)), (a 9, .inl (cI, 759375, .inl R1))] H → va_D A [(a 0, .inr (8, [.ref (a 1), .ref (a 2), .ref (a 3), .ref (a 4), .int (nI n), .ref (a 5), .ref (a 6), .ref (a 7), .ref (a 8), .ref (a 9)])), (a 1, .inl (cI, 60, .inl F)), (a 2, .inl (cI, 60, .inl T)), (a 3, .inl (cI, 60, .inl P)), (a 4, .inl (cI, 60, .inl V)), (a 5, .inl (cI, 4, .inl Wt)), (a 6, .inl (cI, 60, .inl (fun j => nI (o j)))), (a 7, .inl (cI, 60, .inl G1)), (a 8, .inl (cI, 4, .inl L4)), (a 9, .inl (cI, 759375, .inl R1))] → va_S A s.heap H locs → lv_has ls 6 [(0, .ref (a 0)), (1, .int (nI nv)), (2, .int (dp F T P Wt o nv n 0 ln0)), (3, .int x3)] → W p l e (headSpec wsX8_search ({ frames := 5, cells := 0, slots := 0, locals := 125 } : Room)).room s m [.ref (a 0), .int (nI nv)].toArray below meth c H locs 0 0 (MQ below (va_Qi (fun (rr : Int32) (u : MJ) => rr = dp F T P Wt o nv n 0 ln0 ∧ (¬ dp F T P Wt o nv n 0 ln0 = 2000000000 → okF F T P Wt o n nv 0 ∧ ∀ j, j < n → u.1 j = nI (chF F T P Wt o n nv j))) (fun u t => va_P (dC, dI) vwCl (mW cI a (nI n) F T P V Wt (fun j => nI (o j)) u.1 u.2.1 u.2.2) t.heap ∧ va_K (dC, dI) vwCl [(cI, .int)] t ∧ va_D A (mW cI a (nI n) F T P V Wt (fun j => nI (o j)) u.1 u.2.1 u.2.2)) A) [.ref (a 0), .int (nI nv)].toArray s 0 0 A) (F0 m 54 ls []) := by
                intro fu
                induction fu with
                | zero =>
                  intro r x3 L4 G1 H locs ls e3 r_L4 hr1 hok hG1 hfu54 hP hD hS hl
                  exact absurd hfu54 (Nat.not_lt_zero _)
                | succ fu ih54 =>
                  intro r x3 L4 G1 H locs ls e3 r_L4 hr1 hok hG1 hfu54 hP hD hS hl
                  subst e3
                  subst r_L4
                  refine lv_iload_n hx hb dX8_search_54 rfl (lv_at hl 3 rfl) ?_
                  refine lv_aload_n hx hb dX8_search_55 rfl (lv_at hl 0 rfl) ?_
                  refine va_get (D := (dC, dI)) (ci := 8) (v := .int (nI n)) (C := RX8) (T := TX8) (N := 10) hx hb hts i_X8 hown hK hP 0 rfl rfl 4 (by decide) k_0 (fun _ h9 => h9) rfl dX8_search_56 ?_
                  refine lv_icmp_ge (tgt := 125) hx hb dX8_search_59 (by decide) (fun c_4 => ?_) (fun c_4 => ?_)
                  · skip
                    have c_4 : r ≥ n := gk_geT (a := r) (b := n) (by first | omega | exact Nat.lt_trans (ho _) (by decide) | exact Nat.lt_of_le_of_lt atN_le (by omega) | exact Nat.lt_of_le_of_lt szN_le (by omega) | exact Nat.lt_of_le_of_lt clM_le (by omega) | exact Nat.lt_of_le_of_lt rkN_le (by omega) | exact Nat.lt_of_le_of_lt (cnt_le _ _) (by omega)) (by first | omega | exact Nat.lt_trans (ho _) (by decide) | exact Nat.lt_of_le_of_lt atN_le (by omega) | exact Nat.lt_of_le_of_lt szN_le (by omega) | exact Nat.lt_of_le_of_lt clM_le (by omega) | exact Nat.lt_of_le_of_lt rkN_le (by omega) | exact Nat.lt_of_le_of_lt (cnt_le _ _) (by omega)) c_4
                    refine lv_iload_n hx hb dX8_search_125 rfl (lv_at hl 2 rfl) ?_
                    exact W.iret (v := dp F T P Wt o nv n 0 ln0) hx hb hr (fun t ht hW => ⟨⟨_, (G1, (fun j => nI (laF F T P Wt o n nv r j)), R1), rfl, (by refine ⟨rfl, fun hq => ⟨okF_0 hq, fun j hj => hG1 j ?_⟩⟩; first | omega | (exfalso; exact hq (Decidable.not_not.mp (fun hz => absurd (dp_lt hz) (by first | assumption | exact Int32.not_lt.mpr (by assumption)))))), by rw [ht]; exact hP, va_K.moved hW.alike hK, hD⟩, hS.F ht⟩) hS.2.2 dX8_search_126
                  · skip
                    have c_4 : r < n := gk_geF (a := r) (b := n) (by first | omega | exact Nat.lt_trans (ho _) (by decide) | exact Nat.lt_of_le_of_lt atN_le (by omega) | exact Nat.lt_of_le_of_lt szN_le (by omega) | exact Nat.lt_of_le_of_lt clM_le (by omega) | exact Nat.lt_of_le_of_lt rkN_le (by omega) | exact Nat.lt_of_le_of_lt (cnt_le _ _) (by omega)) (by first | omega | exact Nat.lt_trans (ho _) (by decide) | exact Nat.lt_of_le_of_lt atN_le (by omega) | exact Nat.lt_of_le_of_lt szN_le (by omega) | exact Nat.lt_of_le_of_lt clM_le (by omega) | exact Nat.lt_of_le_of_lt rkN_le (by omega) | exact Nat.lt_of_le_of_lt (cnt_le _ _) (by omega)) c_4
                    refine lv_iload_n hx hb dX8_search_62 rfl (lv_at hl 2 rfl) ?_
                    refine lv_ldc (v := 2000000000) hx hb hown k_2 dX8_search_63 ?_
                    refine lv_icmp_ge (tgt := 125) hx hb dX8_search_65 (by decide) (fun c_5 => ?_) (fun c_5 => ?_)
                    · skip
                      refine lv_iload_n hx hb dX8_search_125 rfl (lv_at hl 2 rfl) ?_
                      exact W.iret (v := dp F T P Wt o nv n 0 ln0) hx hb hr (fun t ht hW => ⟨⟨_, (G1, (fun j => nI (laF F T P Wt o n nv r j)), R1), rfl, (by refine ⟨rfl, fun hq => ⟨okF_0 hq, fun j hj => hG1 j ?_⟩⟩; first | omega | (exfalso; exact hq (Decidable.not_not.mp (fun hz => absurd (dp_lt hz) (by first | assumption | exact Int32.not_lt.mpr (by assumption)))))), by rw [ht]; exact hP, va_K.moved hW.alike hK, hD⟩, hS.F ht⟩) hS.2.2 dX8_search_126
                    · skip
                      have hok2 : okF F T P Wt o n nv r := by
                        rcases hok with e | e
                        · subst e
                          exact okF_0 (fun hz => absurd c_5 (by rw [hz]; decide))
                        · exact e
                      have hcf := chF_lt (by omega) hok2
                      have hl14 : ∀ j, laF F T P Wt o n nv r j ≤ 14 := fun j => Nat.le_trans (hok2.1.1 j) (by omega)
                      refine lv_aload_n hx hb dX8_search_68 rfl (lv_at hl 0 rfl) ?_
                      refine va_get (D := (dC, dI)) (ci := 8) (v := .ref (a 9)) (C := RX8) (T := TX8) (N := 10) hx hb hts i_X8 hown hK hP 0 rfl rfl 9 (by decide) k_1 (fun _ h9 => h9) rfl dX8_search_69 ?_
                      refine lv_aload_n hx hb dX8_search_72 rfl (lv_at hl 0 rfl) ?_
                      refine lv_iload_n hx hb dX8_search_73 rfl (lv_at hl 3 rfl) ?_
                      refine vp_callSi (gk_run (va_runV (As := [.int (nI r)]) (rest := [.ref (a 9)]) ⟨hx, hb, hml, hown, hts⟩ (c_X8_place l dC dI cI a n F T P V Wt o G1 (laF F T P Wt o n nv r) R1 hn ho (fun j => Nat.le_trans (hl14 j) (by decide)) hl14 r) (cwV 1 hts gX8_search_X8_place rfl rfl rfl (by decide +kernel) ⟨Nat.le_of_ble_eq_true rfl, Nat.le_of_ble_eq_true rfl⟩) ⟨gk_fb, va_recv hK hP (ci := 8) (q0 := 0) rfl rfl, fun U hU hW => ⟨rfl, by rw [hU]; exact hP, va_K.moved hW.alike hK⟩⟩ rfl rfl hl.1 rfl (lv_room (Nat.le_of_ble_eq_true rfl)) dX8_search_74 ⟨Nat.zero_le _, Nat.zero_le _⟩)) (fun r_6 er_6 => ?_)
                      subst er_6
                      refine gk_ld hx hb hK hP 9 0 rfl rfl (plc r (laF F T P Wt o n nv r)) (plc_lt (by omega) hl14) (by omega) (v := R1 (plc r (laF F T P Wt o n nv r))) (rfl) dX8_search_77 ?_
                      refine gk_top (y := dp F T P Wt o nv (n - r) r (laF F T P Wt o n nv r)) (hR1 r (by omega) (by omega) _ hok2.1) ?_
                      refine lv_istore (lv' := [(4, .int (dp F T P Wt o nv (n - r) r (laF F T P Wt o n nv r))), (0, .ref (a 0)), (1, .int (nI nv)), (2, .int (dp F T P Wt o nv n 0 ln0)), (3, .int (nI r))]) hx hb dX8_search_78 hl (by decide) rfl (fun ls hl => ?_)
                      refine lv_iconst (v := 0) hx hb dX8_search_80 (by decide) ?_
                      refine lv_istore (lv' := [(5, .int 0), (4, .int (dp F T P Wt o nv (n - r) r (laF F T P Wt o n nv r))), (0, .ref (a 0)), (1, .int (nI nv)), (2, .int (dp F T P Wt o nv n 0 ln0)), (3, .int (nI r))]) hx hb dX8_search_81 hl (by decide) rfl (fun ls hl => ?_)
                      have L83 : ∀ (fu : Nat) (v : Nat) (x5 : Int32) (H : Heap) (locs : List Loc) (ls : Array Slot), x5 = nI v → v ≤ chF F T P Wt o n nv r → chF F T P Wt o n nv r - v < fu → va_P (dC, dI) vwCl [(a 0, .inr (8, [.ref (a 1), .ref (a 2), .ref (a 3), .ref (a 4), .int (nI n), .ref (a 5), .ref (a 6), .ref (a 7), .ref (a 8), .ref (a 9)])), (a 1, .inl (cI, 60, .inl F)), (a 2, .inl (cI, 60, .inl T)), (a 3, .inl (cI, 60, .inl P)), (a 4, .inl (cI, 60, .inl V)), (a 5, .inl (cI, 4, .inl Wt)), (a 6, .inl (cI, 60, .inl (fun j => nI (o j)))), (a 7, .inl (cI, 60, .inl G1)), (a 8, .inl (cI, 4, .inl (fun j => nI (laF F T P Wt o n nv r j)))), (a 9, .inl (cI, 759375, .inl R1))] H → va_D A [(a 0, .inr (8, [.ref (a 1), .ref (a 2), .ref (a 3), .ref (a 4), .int (nI n), .ref (a 5), .ref (a 6), .ref (a 7), .ref (a 8), .ref (a 9)])), (a 1, .inl (cI, 60, .inl F)), (a 2, .inl (cI, 60, .inl T)), (a 3, .inl (cI, 60, .inl P)), (a 4, .inl (cI, 60, .inl V)), (a 5, .inl (cI, 4, .inl Wt)), (a 6, .inl (cI, 60, .inl (fun j => nI (o j)))), (a 7, .inl (cI, 60, .inl G1)), (a 8, .inl (cI, 4, .inl (fun j => nI (laF F T P Wt o n nv r j)))), (a 9, .inl (cI, 759375, .inl R1))] → va_S A s.heap H locs → lv_has ls 6 [(0, .ref (a 0)), (1, .int (nI nv)), (2, .int (dp F T P Wt o nv n 0 ln0)), (3, .int (nI r)), (4, .int (dp F T P Wt o nv (n - r) r (laF F T P Wt o n nv r))), (5, .int x5)] → W p l e (headSpec wsX8_search ({ frames := 5, cells := 0, slots := 0, locals := 125 } : Room)).room s m [.ref (a 0), .int (nI nv)].toArray below meth c H locs 0 0 (MQ below (va_Qi (fun (rr : Int32) (u : MJ) => rr = dp F T P Wt o nv n 0 ln0 ∧ (¬ dp F T P Wt o nv n 0 ln0 = 2000000000 → okF F T P Wt o n nv 0 ∧ ∀ j, j < n → u.1 j = nI (chF F T P Wt o n nv j))) (fun u t => va_P (dC, dI) vwCl (mW cI a (nI n) F T P V Wt (fun j => nI (o j)) u.1 u.2.1 u.2.2) t.heap ∧ va_K (dC, dI) vwCl [(cI, .int)] t ∧ va_D A (mW cI a (nI n) F T P V Wt (fun j => nI (o j)) u.1 u.2.1 u.2.2)) A) [.ref (a 0), .int (nI nv)].toArray s 0 0 A) (F0 m 83 ls []) := by
                        intro fu
                        induction fu with
                        | zero =>
                          intro v x5 H locs ls e5 hv5 hfu83 hP hD hS hl
                          exact absurd hfu83 (Nat.not_lt_zero _)
                        | succ fu ih83 =>
                          intro v x5 H locs ls e5 hv5 hfu83 hP hD hS hl
                          subst e5
                          refine lv_aload_n hx hb dX8_search_83 rfl (lv_at hl 0 rfl) ?_
                          refine lv_iload_n hx hb dX8_search_84 rfl (lv_at hl 3 rfl) ?_
                          refine lv_iload hx hb dX8_search_85 (lv_at hl 5 rfl) ?_
                          have hPc := hP.sub (ws' := [(a 0, .inr (8, [.ref (a 1), .ref (a 2), .ref (a 3), .ref (a 4), .int (nI n), .ref (a 5), .ref (a 6), .ref (a 7), .ref (a 8), .ref (a 9)])), (a 1, .inl (cI, 60, .inl F)), (a 2, .inl (cI, 60, .inl T)), (a 3, .inl (cI, 60, .inl P)), (a 4, .inl (cI, 60, .inl V)), (a 5, .inl (cI, 4, .inl Wt)), (a 6, .inl (cI, 60, .inl (fun j => nI (o j)))), (a 7, .inl (cI, 60, .inl G1)), (a 8, .inl (cI, 4, .inl (fun j => nI (laF F T P Wt o n nv r j)))), (a 9, .inl (cI, 759375, .inl R1))]) [0, 1, 2, 3, 4, 5, 6, 7, 8, 9] rfl
                          have hDc := hD.sub (ws' := [(a 0, .inr (8, [.ref (a 1), .ref (a 2), .ref (a 3), .ref (a 4), .int (nI n), .ref (a 5), .ref (a 6), .ref (a 7), .ref (a 8), .ref (a 9)])), (a 1, .inl (cI, 60, .inl F)), (a 2, .inl (cI, 60, .inl T)), (a 3, .inl (cI, 60, .inl P)), (a 4, .inl (cI, 60, .inl V)), (a 5, .inl (cI, 4, .inl Wt)), (a 6, .inl (cI, 60, .inl (fun j => nI (o j)))), (a 7, .inl (cI, 60, .inl G1)), (a 8, .inl (cI, 4, .inl (fun j => nI (laF F T P Wt o n nv r j)))), (a 9, .inl (cI, 759375, .inl R1))]) [0, 1, 2, 3, 4, 5, 6, 7, 8, 9] (by decide) rfl
                          have hFc := va_free (wc := [(a 0, .inr (8, [.ref (a 1), .ref (a 2), .ref (a 3), .ref (a 4), .int (nI n), .ref (a 5), .ref (a 6), .ref (a 7), .ref (a 8), .ref (a 9)])), (a 1, .inl (cI, 60, .inl F)), (a 2, .inl (cI, 60, .inl T)), (a 3, .inl (cI, 60, .inl P)), (a 4, .inl (cI, 60, .inl V)), (a 5, .inl (cI, 4, .inl Wt)), (a 6, .inl (cI, 60, .inl (fun j => nI (o j)))), (a 7, .inl (cI, 60, .inl G1)), (a 8, .inl (cI, 4, .inl (fun j => nI (laF F T P Wt o n nv r j)))), (a 9, .inl (cI, 759375, .inl R1))]) hD hS hA [0, 1, 2, 3, 4, 5, 6, 7, 8, 9] rfl
                          refine va_calli (va_runV (As := [.int (nI r), .int (nI v)]) (rest := []) ⟨hx, hb, hml, hown, hts⟩ (c_X8_through l dC dI cI H.size a n F T P V Wt o G1 (laF F T P Wt o n nv r) R1 hn ho (fun j => Nat.le_trans (hl14 j) (by decide)) hl14 r v (by omega) (by omega)) (cwV 2 hts gX8_search_X8_through rfl rfl rfl (by decide +kernel) ⟨Nat.le_of_ble_eq_true rfl, Nat.le_of_ble_eq_true rfl⟩) ⟨gk_fbW, va_recv hK hPc (ci := 8) (q0 := 0) rfl rfl, fun U hU hW => ⟨rfl, by rw [hU], by rw [hU]; exact hPc, va_K.moved hW.alike hK, hDc.weaken (fun _ _ _ _ => trivial)⟩⟩ rfl rfl hl.1 rfl (lv_room (Nat.le_of_ble_eq_true rfl)) dX8_search_87 ⟨Nat.zero_le _, Nat.zero_le _⟩) hS (fun q _ h => hFc q h) hFc (fun r_7 u t H1 locs ht hvm hw hB hz1 hk1 hS => ?_)
                          obtain ⟨hP1, hK1, hD1⟩ := hB
                          rw [ht] at hP1
                          try dsimp only at hw
                          obtain ⟨hP, hD⟩ := va_join (wr := []) (w1 := [(a 0, .inr (8, [.ref (a 1), .ref (a 2), .ref (a 3), .ref (a 4), .int (nI n), .ref (a 5), .ref (a 6), .ref (a 7), .ref (a 8), .ref (a 9)])), (a 1, .inl (cI, 60, .inl F)), (a 2, .inl (cI, 60, .inl T)), (a 3, .inl (cI, 60, .inl P)), (a 4, .inl (cI, 60, .inl V)), (a 5, .inl (cI, 4, .inl Wt)), (a 6, .inl (cI, 60, .inl (fun j => nI (o j)))), (a 7, .inl (cI, 60, .inl G1)), (a 8, .inl (cI, 4, .inl (fun j => nI (laF F T P Wt o n nv r j)))), (a 9, .inl (cI, 759375, .inl R1))]) hP hD [0, 1, 2, 3, 4, 5, 6, 7, 8, 9] [] rfl rfl (by decide) (by decide) hk1 hFc hP1 hD1
                          generalize H1 = H at hP hS ⊢
                          have hP : va_P (dC, dI) vwCl [(a 0, .inr (8, [.ref (a 1), .ref (a 2), .ref (a 3), .ref (a 4), .int (nI n), .ref (a 5), .ref (a 6), .ref (a 7), .ref (a 8), .ref (a 9)])), (a 1, .inl (cI, 60, .inl F)), (a 2, .inl (cI, 60, .inl T)), (a 3, .inl (cI, 60, .inl P)), (a 4, .inl (cI, 60, .inl V)), (a 5, .inl (cI, 4, .inl Wt)), (a 6, .inl (cI, 60, .inl (fun j => nI (o j)))), (a 7, .inl (cI, 60, .inl G1)), (a 8, .inl (cI, 4, .inl (fun j => nI (laF F T P Wt o n nv r j)))), (a 9, .inl (cI, 759375, .inl R1))] H := hP
                          have hD : va_D A [(a 0, .inr (8, [.ref (a 1), .ref (a 2), .ref (a 3), .ref (a 4), .int (nI n), .ref (a 5), .ref (a 6), .ref (a 7), .ref (a 8), .ref (a 9)])), (a 1, .inl (cI, 60, .inl F)), (a 2, .inl (cI, 60, .inl T)), (a 3, .inl (cI, 60, .inl P)), (a 4, .inl (cI, 60, .inl V)), (a 5, .inl (cI, 4, .inl Wt)), (a 6, .inl (cI, 60, .inl (fun j => nI (o j)))), (a 7, .inl (cI, 60, .inl G1)), (a 8, .inl (cI, 4, .inl (fun j => nI (laF F T P Wt o n nv r j)))), (a 9, .inl (cI, 759375, .inl R1))] := hD
                          subst hw
                          refine gk_top (y := thr (dp F T P Wt o nv (n - (r + 1)) (r + 1)) (prc F T P Wt o (laF F T P Wt o n nv r) r) (laF F T P Wt o n nv r) r v) (thr_R hR0 (by omega) hok2.1 (by omega)) ?_
                          refine lv_iload hx hb dX8_search_90 (lv_at hl 4 rfl) ?_
                          refine lv_icmp_eq (tgt := 101) hx hb dX8_search_92 (by decide) (fun c_8 => ?_) (fun c_8 => ?_)
                          · skip
                            have hvc : v = chF F T P Wt o n nv r := by
                              rcases Nat.lt_or_ge v (chF F T P Wt o n nv r) with q | q
                              · exact absurd c_8 (hcf.2.2 v q)
                              · omega
                            subst hvc
                            have hl : lv_has ls 6 [(0, .ref (a 0)), (1, .int (nI nv)), (2, .int (dp F T P Wt o nv n 0 ln0)), (3, .int (nI r)), (4, .int (dp F T P Wt o nv (n - r) r (laF F T P Wt o n nv r))), (5, .int (nI (chF F T P Wt o n nv r)))] := hl
                            refine lv_aload_n hx hb dX8_search_101 rfl (lv_at hl 0 rfl) ?_
                            refine va_get (D := (dC, dI)) (ci := 8) (v := .ref (a 7)) (C := RX8) (T := TX8) (N := 10) hx hb hts i_X8 hown hK hP 0 rfl rfl 7 (by decide) k_3 (fun _ h9 => h9) rfl dX8_search_102 ?_
                            refine lv_iload_n hx hb dX8_search_105 rfl (lv_at hl 3 rfl) ?_
                            refine lv_iload hx hb dX8_search_106 (lv_at hl 5 rfl) ?_
                            refine gk_st hx hb hK hP hD hS 7 0 rfl rfl r (by omega) (by omega) dX8_search_108 (fun H locs hP hD hS => ?_)
                            have hP : va_P (dC, dI) vwCl [(a 0, .inr (8, [.ref (a 1), .ref (a 2), .ref (a 3), .ref (a 4), .int (nI n), .ref (a 5), .ref (a 6), .ref (a 7), .ref (a 8), .ref (a 9)])), (a 1, .inl (cI, 60, .inl F)), (a 2, .inl (cI, 60, .inl T)), (a 3, .inl (cI, 60, .inl P)), (a 4, .inl (cI, 60, .inl V)), (a 5, .inl (cI, 4, .inl Wt)), (a 6, .inl (cI, 60, .inl (fun j => nI (o j)))), (a 7, .inl (cI, 60, .inl (upd G1 r (nI (chF F T P Wt o n nv r))))), (a 8, .inl (cI, 4, .inl (fun j => nI (laF F T P Wt o n nv r j)))), (a 9, .inl (cI, 759375, .inl R1))] H := hP
                            have hD : va_D A [(a 0, .inr (8, [.ref (a 1), .ref (a 2), .ref (a 3), .ref (a 4), .int (nI n), .ref (a 5), .ref (a 6), .ref (a 7), .ref (a 8), .ref (a 9)])), (a 1, .inl (cI, 60, .inl F)), (a 2, .inl (cI, 60, .inl T)), (a 3, .inl (cI, 60, .inl P)), (a 4, .inl (cI, 60, .inl V)), (a 5, .inl (cI, 4, .inl Wt)), (a 6, .inl (cI, 60, .inl (fun j => nI (o j)))), (a 7, .inl (cI, 60, .inl (upd G1 r (nI (chF F T P Wt o n nv r))))), (a 8, .inl (cI, 4, .inl (fun j => nI (laF F T P Wt o n nv r j)))), (a 9, .inl (cI, 759375, .inl R1))] := hD
                            refine lv_aload_n hx hb dX8_search_109 rfl (lv_at hl 0 rfl) ?_
                            refine va_get (D := (dC, dI)) (ci := 8) (v := .ref (a 8)) (C := RX8) (T := TX8) (N := 10) hx hb hts i_X8 hown hK hP 0 rfl rfl 8 (by decide) k_4 (fun _ h9 => h9) rfl dX8_search_110 ?_
                            refine lv_iload hx hb dX8_search_113 (lv_at hl 5 rfl) ?_
                            refine lv_iload_n hx hb dX8_search_115 rfl (lv_at hl 3 rfl) ?_
                            refine lv_iconst (v := 1) hx hb dX8_search_116 (by decide) ?_
                            refine lv_iadd hx hb dX8_search_117 ?_
                            refine gk_top (y := nI (r + 1)) (gk_addl _ _ _ (by decide)) ?_
                            refine gk_st hx hb hK hP hD hS 8 0 rfl rfl (chF F T P Wt o n nv r) (by have := hcf.1; omega) (by omega) dX8_search_118 (fun H locs hP hD hS => ?_)
                            have hP : va_P (dC, dI) vwCl [(a 0, .inr (8, [.ref (a 1), .ref (a 2), .ref (a 3), .ref (a 4), .int (nI n), .ref (a 5), .ref (a 6), .ref (a 7), .ref (a 8), .ref (a 9)])), (a 1, .inl (cI, 60, .inl F)), (a 2, .inl (cI, 60, .inl T)), (a 3, .inl (cI, 60, .inl P)), (a 4, .inl (cI, 60, .inl V)), (a 5, .inl (cI, 4, .inl Wt)), (a 6, .inl (cI, 60, .inl (fun j => nI (o j)))), (a 7, .inl (cI, 60, .inl (upd G1 r (nI (chF F T P Wt o n nv r))))), (a 8, .inl (cI, 4, .inl (upd (fun j => nI (laF F T P Wt o n nv r j)) (chF F T P Wt o n nv r) (nI (r + 1))))), (a 9, .inl (cI, 759375, .inl R1))] H := hP
                            have hD : va_D A [(a 0, .inr (8, [.ref (a 1), .ref (a 2), .ref (a 3), .ref (a 4), .int (nI n), .ref (a 5), .ref (a 6), .ref (a 7), .ref (a 8), .ref (a 9)])), (a 1, .inl (cI, 60, .inl F)), (a 2, .inl (cI, 60, .inl T)), (a 3, .inl (cI, 60, .inl P)), (a 4, .inl (cI, 60, .inl V)), (a 5, .inl (cI, 4, .inl Wt)), (a 6, .inl (cI, 60, .inl (fun j => nI (o j)))), (a 7, .inl (cI, 60, .inl (upd G1 r (nI (chF F T P Wt o n nv r))))), (a 8, .inl (cI, 4, .inl (upd (fun j => nI (laF F T P Wt o n nv r j)) (chF F T P Wt o n nv r) (nI (r + 1))))), (a 9, .inl (cI, 759375, .inl R1))] := hD
                            have eR : upd (fun j => nI (laF F T P Wt o n nv r j)) (chF F T P Wt o n nv r) (nI (r + 1)) = (fun j => nI (updN (laF F T P Wt o n nv r) (chF F T P Wt o n nv r) (r + 1) j)) := upd_nI
                            rw [eR] at hP hD
                            have hP : va_P (dC, dI) vwCl [(a 0, .inr (8, [.ref (a 1), .ref (a 2), .ref (a 3), .ref (a 4), .int (nI n), .ref (a 5), .ref (a 6), .ref (a 7), .ref (a 8), .ref (a 9)])), (a 1, .inl (cI, 60, .inl F)), (a 2, .inl (cI, 60, .inl T)), (a 3, .inl (cI, 60, .inl P)), (a 4, .inl (cI, 60, .inl V)), (a 5, .inl (cI, 4, .inl Wt)), (a 6, .inl (cI, 60, .inl (fun j => nI (o j)))), (a 7, .inl (cI, 60, .inl (upd G1 r (nI (chF F T P Wt o n nv r))))), (a 8, .inl (cI, 4, .inl (fun j => nI (updN (laF F T P Wt o n nv r) (chF F T P Wt o n nv r) (r + 1) j)))), (a 9, .inl (cI, 759375, .inl R1))] H := hP
                            have hD : va_D A [(a 0, .inr (8, [.ref (a 1), .ref (a 2), .ref (a 3), .ref (a 4), .int (nI n), .ref (a 5), .ref (a 6), .ref (a 7), .ref (a 8), .ref (a 9)])), (a 1, .inl (cI, 60, .inl F)), (a 2, .inl (cI, 60, .inl T)), (a 3, .inl (cI, 60, .inl P)), (a 4, .inl (cI, 60, .inl V)), (a 5, .inl (cI, 4, .inl Wt)), (a 6, .inl (cI, 60, .inl (fun j => nI (o j)))), (a 7, .inl (cI, 60, .inl (upd G1 r (nI (chF F T P Wt o n nv r))))), (a 8, .inl (cI, 4, .inl (fun j => nI (updN (laF F T P Wt o n nv r) (chF F T P Wt o n nv r) (r + 1) j)))), (a 9, .inl (cI, 759375, .inl R1))] := hD
                            refine lv_iinc (v := nI (r + 1)) (lv' := [(3, .int (nI (r + 1))), (0, .ref (a 0)), (1, .int (nI nv)), (2, .int (dp F T P Wt o nv n 0 ln0)), (4, .int (dp F T P Wt o nv (n - r) r (laF F T P Wt o n nv r))), (5, .int (nI (chF F T P Wt o n nv r)))]) hx hb dX8_search_119 hl (k := 3) rfl (gk_inc1 _) (by decide) rfl (fun ls hl => ?_)
                            refine lv_goto (tgt := 54) hx hb dX8_search_122 (by decide) ?_
                            exact ih54 (r + 1) _ _ _ _ _ ls (by rfl) (by rfl) (by omega) (by exact Or.inr (okF_s (by omega) hok2)) (by exact row_step (f := fun j => nI (chF F T P Wt o n nv j)) hG1) (by omega) hP hD hS (lv_sub hl [1, 2, 3, 0] rfl)
                          · skip
                            have hlt : v < chF F T P Wt o n nv r := Nat.lt_of_le_of_ne hv5 (fun e => absurd (by rw [e]; exact hcf.2.1) c_8)
                            refine lv_iinc (v := nI (v + 1)) (lv' := [(5, .int (nI (v + 1))), (0, .ref (a 0)), (1, .int (nI nv)), (2, .int (dp F T P Wt o nv n 0 ln0)), (3, .int (nI r)), (4, .int (dp F T P Wt o nv (n - r) r (laF F T P Wt o n nv r)))]) hx hb dX8_search_95 hl (k := 5) rfl (gk_inc1 _) (by decide) rfl (fun ls hl => ?_)
                            refine lv_goto (tgt := 83) hx hb dX8_search_98 (by decide) ?_
                            exact ih83 (v + 1) _ _ _ ls (by rfl) (by omega) (by omega) hP hD hS (lv_sub hl [1, 2, 3, 4, 5, 0] rfl)
                      exact L83 ((chF F T P Wt o n nv r) + 1) 0 _ _ _ ls (by rfl) (by omega) (by omega) hP hD hS (lv_sub hl [2, 3, 4, 5, 1, 0] rfl)
              exact L54 ((n) + 1) 0 _ _ _ _ _ ls (by rfl) (by rfl) (by omega) (by exact Or.inl rfl) (by exact fun j hj => absurd hj (Nat.not_lt_zero j)) (by omega) hP hD hS (lv_sub hl [2, 3, 1, 0] rfl)
            · skip
              have c_2 : v < 4 := gk_geF (a := v) (b := 4) (by first | omega | exact Nat.lt_trans (ho _) (by decide) | exact Nat.lt_of_le_of_lt atN_le (by omega) | exact Nat.lt_of_le_of_lt szN_le (by omega) | exact Nat.lt_of_le_of_lt clM_le (by omega) | exact Nat.lt_of_le_of_lt rkN_le (by omega) | exact Nat.lt_of_le_of_lt (cnt_le _ _) (by omega)) (by first | omega | exact Nat.lt_trans (ho _) (by decide) | exact Nat.lt_of_le_of_lt atN_le (by omega) | exact Nat.lt_of_le_of_lt szN_le (by omega) | exact Nat.lt_of_le_of_lt clM_le (by omega) | exact Nat.lt_of_le_of_lt rkN_le (by omega) | exact Nat.lt_of_le_of_lt (cnt_le _ _) (by omega)) c_2
              refine lv_aload_n hx hb dX8_search_28 rfl (lv_at hl 0 rfl) ?_
              refine va_get (D := (dC, dI)) (ci := 8) (v := .ref (a 8)) (C := RX8) (T := TX8) (N := 10) hx hb hts i_X8 hown hK hP 0 rfl rfl 8 (by decide) k_4 (fun _ h9 => h9) rfl dX8_search_29 ?_
              refine lv_iload_n hx hb dX8_search_32 rfl (lv_at hl 2 rfl) ?_
              refine lv_iconst (v := 0) hx hb dX8_search_33 (by decide) ?_
              refine gk_st hx hb hK hP hD hS 8 0 rfl rfl v (by omega) (by omega) dX8_search_34 (fun H locs hP hD hS => ?_)
              have hP : va_P (dC, dI) vwCl [(a 0, .inr (8, [.ref (a 1), .ref (a 2), .ref (a 3), .ref (a 4), .int (nI n), .ref (a 5), .ref (a 6), .ref (a 7), .ref (a 8), .ref (a 9)])), (a 1, .inl (cI, 60, .inl F)), (a 2, .inl (cI, 60, .inl T)), (a 3, .inl (cI, 60, .inl P)), (a 4, .inl (cI, 60, .inl V)), (a 5, .inl (cI, 4, .inl Wt)), (a 6, .inl (cI, 60, .inl (fun j => nI (o j)))), (a 7, .inl (cI, 60, .inl G)), (a 8, .inl (cI, 4, .inl (upd L3 v 0))), (a 9, .inl (cI, 759375, .inl R1))] H := hP
              have hD : va_D A [(a 0, .inr (8, [.ref (a 1), .ref (a 2), .ref (a 3), .ref (a 4), .int (nI n), .ref (a 5), .ref (a 6), .ref (a 7), .ref (a 8), .ref (a 9)])), (a 1, .inl (cI, 60, .inl F)), (a 2, .inl (cI, 60, .inl T)), (a 3, .inl (cI, 60, .inl P)), (a 4, .inl (cI, 60, .inl V)), (a 5, .inl (cI, 4, .inl Wt)), (a 6, .inl (cI, 60, .inl (fun j => nI (o j)))), (a 7, .inl (cI, 60, .inl G)), (a 8, .inl (cI, 4, .inl (upd L3 v 0))), (a 9, .inl (cI, 759375, .inl R1))] := hD
              refine lv_iinc (v := nI (v + 1)) (lv' := [(2, .int (nI (v + 1))), (0, .ref (a 0)), (1, .int (nI nv))]) hx hb dX8_search_35 hl (k := 2) rfl (gk_inc1 _) (by decide) rfl (fun ls hl => ?_)
              refine lv_goto (tgt := 23) hx hb dX8_search_38 (by decide) ?_
              exact ih23 (v + 1) _ _ _ _ ls (by rfl) (by omega) (by first | exact fun j hj => absurd hj (Nat.not_lt_zero j) | exact row_step (f := fun _ => 0) hL3) (by omega) hP hD hS (lv_sub hl [1, 2, 0] rfl)
        exact L23 ((4) + 1) 0 _ _ _ _ ls (by rfl) (by omega) (by first | exact fun j hj => absurd hj (Nat.not_lt_zero j) | exact row_step (f := fun _ => 0) hL3) (by omega) hP hD hS (lv_sub hl [1, 2, 0] rfl)
      · skip
        have c_1 : k ≠ 0 := (oi_ge (by omega)).mp (by first | exact c_1 | exact Int32.not_lt.mp c_1)
        have hk9 : k - 1 ≤ n := by omega
        refine lv_aload_n hx hb dX8_search_9 rfl (lv_at hl 0 rfl) ?_
        refine lv_iload_n hx hb dX8_search_10 rfl (lv_at hl 2 rfl) ?_
        refine gk_top (y := nI (k - 1)) (oi_pos (by assumption)) ?_
        refine lv_iload_n hx hb dX8_search_11 rfl (lv_at hl 1 rfl) ?_
        have hPc := hP.sub (ws' := [(a 0, .inr (8, [.ref (a 1), .ref (a 2), .ref (a 3), .ref (a 4), .int (nI n), .ref (a 5), .ref (a 6), .ref (a 7), .ref (a 8), .ref (a 9)])), (a 1, .inl (cI, 60, .inl F)), (a 2, .inl (cI, 60, .inl T)), (a 3, .inl (cI, 60, .inl P)), (a 4, .inl (cI, 60, .inl V)), (a 5, .inl (cI, 4, .inl Wt)), (a 6, .inl (cI, 60, .inl (fun j => nI (o j)))), (a 7, .inl (cI, 60, .inl G)), (a 8, .inl (cI, 4, .inl L1)), (a 9, .inl (cI, 759375, .inl R1))]) [0, 1, 2, 3, 4, 5, 6, 7, 8, 9] rfl
        have hDc := hD.sub (ws' := [(a 0, .inr (8, [.ref (a 1), .ref (a 2), .ref (a 3), .ref (a 4), .int (nI n), .ref (a 5), .ref (a 6), .ref (a 7), .ref (a 8), .ref (a 9)])), (a 1, .inl (cI, 60, .inl F)), (a 2, .inl (cI, 60, .inl T)), (a 3, .inl (cI, 60, .inl P)), (a 4, .inl (cI, 60, .inl V)), (a 5, .inl (cI, 4, .inl Wt)), (a 6, .inl (cI, 60, .inl (fun j => nI (o j)))), (a 7, .inl (cI, 60, .inl G)), (a 8, .inl (cI, 4, .inl L1)), (a 9, .inl (cI, 759375, .inl R1))]) [0, 1, 2, 3, 4, 5, 6, 7, 8, 9] (by decide) rfl
        have hFc := va_free (wc := [(a 0, .inr (8, [.ref (a 1), .ref (a 2), .ref (a 3), .ref (a 4), .int (nI n), .ref (a 5), .ref (a 6), .ref (a 7), .ref (a 8), .ref (a 9)])), (a 1, .inl (cI, 60, .inl F)), (a 2, .inl (cI, 60, .inl T)), (a 3, .inl (cI, 60, .inl P)), (a 4, .inl (cI, 60, .inl V)), (a 5, .inl (cI, 4, .inl Wt)), (a 6, .inl (cI, 60, .inl (fun j => nI (o j)))), (a 7, .inl (cI, 60, .inl G)), (a 8, .inl (cI, 4, .inl L1)), (a 9, .inl (cI, 759375, .inl R1))]) hD hS hA [0, 1, 2, 3, 4, 5, 6, 7, 8, 9] rfl
        refine va_callv (va_runV (As := [.int (nI (k - 1)), .int (nI nv)]) (rest := []) ⟨hx, hb, hml, hown, hts⟩ (c_X8_level l dC dI cI H.size a n F T P V Wt o G L1 R1 hn ho (k - 1) nv hk9 hn4 hv0) (cwV 2 hts gX8_search_X8_level rfl rfl rfl (by decide +kernel) ⟨Nat.le_of_ble_eq_true rfl, Nat.le_of_ble_eq_true rfl⟩) ⟨gk_fbW, va_recv hK hPc (ci := 8) (q0 := 0) rfl rfl, fun U hU hW => ⟨rfl, by rw [hU], by rw [hU]; exact hPc, va_K.moved hW.alike hK, hDc.weaken (fun _ _ _ _ => trivial)⟩⟩ rfl rfl hl.1 rfl (lv_room (Nat.le_of_ble_eq_true rfl)) dX8_search_12 ⟨Nat.zero_le _, Nat.zero_le _⟩) hS (fun q _ h => hFc q h) hFc (fun u t H1 locs ht hvm hw hB hz1 hk1 hS => ?_)
        obtain ⟨L2, R2⟩ := u
        obtain ⟨hP1, hK1, hD1⟩ := hB
        rw [ht] at hP1
        try dsimp only at hw
        obtain ⟨hP, hD⟩ := va_join (wr := []) (w1 := [(a 0, .inr (8, [.ref (a 1), .ref (a 2), .ref (a 3), .ref (a 4), .int (nI n), .ref (a 5), .ref (a 6), .ref (a 7), .ref (a 8), .ref (a 9)])), (a 1, .inl (cI, 60, .inl F)), (a 2, .inl (cI, 60, .inl T)), (a 3, .inl (cI, 60, .inl P)), (a 4, .inl (cI, 60, .inl V)), (a 5, .inl (cI, 4, .inl Wt)), (a 6, .inl (cI, 60, .inl (fun j => nI (o j)))), (a 7, .inl (cI, 60, .inl G)), (a 8, .inl (cI, 4, .inl L2)), (a 9, .inl (cI, 759375, .inl R2))]) hP hD [0, 1, 2, 3, 4, 5, 6, 7, 8, 9] [] rfl rfl (by decide) (by decide) hk1 hFc hP1 hD1
        generalize H1 = H at hP hS ⊢
        have hP : va_P (dC, dI) vwCl [(a 0, .inr (8, [.ref (a 1), .ref (a 2), .ref (a 3), .ref (a 4), .int (nI n), .ref (a 5), .ref (a 6), .ref (a 7), .ref (a 8), .ref (a 9)])), (a 1, .inl (cI, 60, .inl F)), (a 2, .inl (cI, 60, .inl T)), (a 3, .inl (cI, 60, .inl P)), (a 4, .inl (cI, 60, .inl V)), (a 5, .inl (cI, 4, .inl Wt)), (a 6, .inl (cI, 60, .inl (fun j => nI (o j)))), (a 7, .inl (cI, 60, .inl G)), (a 8, .inl (cI, 4, .inl L2)), (a 9, .inl (cI, 759375, .inl R2))] H := hP
        have hD : va_D A [(a 0, .inr (8, [.ref (a 1), .ref (a 2), .ref (a 3), .ref (a 4), .int (nI n), .ref (a 5), .ref (a 6), .ref (a 7), .ref (a 8), .ref (a 9)])), (a 1, .inl (cI, 60, .inl F)), (a 2, .inl (cI, 60, .inl T)), (a 3, .inl (cI, 60, .inl P)), (a 4, .inl (cI, 60, .inl V)), (a 5, .inl (cI, 4, .inl Wt)), (a 6, .inl (cI, 60, .inl (fun j => nI (o j)))), (a 7, .inl (cI, 60, .inl G)), (a 8, .inl (cI, 4, .inl L2)), (a 9, .inl (cI, 759375, .inl R2))] := hD
        refine lv_iinc (v := oi (k - 1)) (lv' := [(2, .int (oi (k - 1))), (0, .ref (a 0)), (1, .int (nI nv))]) hx hb dX8_search_15 hl (k := 2) rfl (oi_dec (by assumption)) (by decide) rfl (fun ls hl => ?_)
        refine lv_goto (tgt := 5) hx hb dX8_search_18 (by decide) ?_
        exact ih5 (k - 1) _ _ _ _ _ ls (by rfl) (by omega) (by exact rdP_step hn4 (by omega) hv0 (by rw [show k - 1 + 1 = k by omega]; exact hR1) hw) (by omega) hP hD hS (lv_sub hl [1, 2, 0] rfl)
  exact L5 ((n + 1) + 1) (n + 1) _ _ _ _ _ ls (by exact (oi_s n).symm) (by omega) (by exact rdP_top) (by omega) hP hD hS (lv_sub hl [1, 2, 0] rfl)
