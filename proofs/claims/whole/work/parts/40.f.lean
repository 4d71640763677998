set_option maxHeartbeats 4000000 in
set_option maxRecDepth 100000 in
theorem c_X6_following (l : Launch) (dC : Nat → ClassId) (dI : Nat → Nat → Nat) (cI : ClassId) (b : Nat → Nat) (n : Nat) (F T P V : Nat → Int32) (o kr : Nat → Nat) (hn : n ≤ 60) (ho : ∀ j, o j < 60) (hkr : ∀ j, j < n → kr j < n) (x : Nat) (hx0 : x < n) : Met l yX6_following wsX6_following ({ frames := 0, cells := 0, slots := 0, locals := 0 } : Room) (va_Pc [.ref (b 1), .int (nI x)] (fun U => va_P (dC, dI) vwCl (sW cI b (nI n) F T P V (fun j => nI (o j)) (fun j => nI (kr j))) U.heap ∧ va_K (dC, dI) vwCl [(cI, .int)] U)) (vp_Si (fun r => r = oi (flC V o kr n x))) 0 0 (fun _ => False) := by
  refine Met.ofW (cc := cX6_following) (maxL := 3) (ret := (some .int)) (by decide) rfl ?_
  intro p e s m args below meth c s₁ B hml hv
  obtain ⟨rfl, hP, hK⟩ := hv
  have hx := B.exec
  have hb := B.bytes
  have hr := B.returns
  have hts := atoms_spec (ws := wsX6_following) B.pre
  have hown : s.vm.findClass RX6 = some m.cls := findClass_of_methodNamed B.named
  have hlocks := B.notSynchronized
  have i_X6 : ∀ w ∈ u_ws RX6 TX6 7, w ∈ wsX6_following := by decide +kernel
  have k_0 := hts (.fieldLink RX6 21 "VoiceRows$Score" "voice" "[I") (by decide +kernel)
  have k_1 := hts (.fieldLink RX6 27 "VoiceRows$Score" "rank" "[I") (by decide +kernel)
  have k_2 := hts (.fieldLink RX6 30 "VoiceRows$Score" "count" "I") (by decide +kernel)
  have k_3 := hts (.fieldLink RX6 24 "VoiceRows$Score" "order" "[I") (by decide +kernel)
  have hl := lv_entry ([.ref (b 1), .int (nI x)]) (n := 3) (Nat.le_of_ble_eq_true rfl)
  rw [lg_entry_eq]
  generalize (lg_sl ([.ref (b 1), .int (nI x)]) ++ List.replicate (3 - (lg_sl ([.ref (b 1), .int (nI x)])).length) Slot.unset).toArray = ls at hl ⊢
  have hl : lv_has ls 3 [(0, .ref (b 1)), (1, .int (nI x))] := hl
  have hkx := hkr x hx0
  refine lv_aload_n hx hb dX6_following_0 rfl (lv_at hl 0 rfl) ?_
  refine va_get (D := (dC, dI)) (ci := 6) (v := .ref (b 5)) (C := RX6) (T := TX6) (N := 7) hx hb hts i_X6 hown hK hP 0 rfl rfl 4 (by decide) k_0 (fun _ h9 => h9) rfl dX6_following_1 ?_
  refine lv_iload_n hx hb dX6_following_4 rfl (lv_at hl 1 rfl) ?_
  refine gk_ld hx hb hK hP 4 0 rfl rfl x (by omega) (by omega) (v := V x) (rfl) dX6_following_5 ?_
  refine lv_iconst (v := (-1)) hx hb dX6_following_6 (by decide) ?_
  refine lv_icmp_ne (tgt := 12) hx hb dX6_following_7 (by decide) (fun c_1 => ?_) (fun c_1 => ?_)
  · skip
    refine lv_aload_n hx hb dX6_following_12 rfl (lv_at hl 0 rfl) ?_
    refine va_get (D := (dC, dI)) (ci := 6) (v := .ref (b 7)) (C := RX6) (T := TX6) (N := 7) hx hb hts i_X6 hown hK hP 0 rfl rfl 6 (by decide) k_1 (fun _ h9 => h9) rfl dX6_following_13 ?_
    refine lv_iload_n hx hb dX6_following_16 rfl (lv_at hl 1 rfl) ?_
    refine gk_ld hx hb hK hP 6 0 rfl rfl x (by omega) (by omega) (v := nI (kr x)) (rfl) dX6_following_17 ?_
    refine lv_iconst (v := 1) hx hb dX6_following_18 (by decide) ?_
    refine lv_iadd hx hb dX6_following_19 ?_
    refine gk_top (y := nI ((kr x) + 1)) (gk_addl _ _ _ (by decide)) ?_
    refine lv_istore_n (lv' := [(2, .int (nI ((kr x) + 1))), (0, .ref (b 1)), (1, .int (nI x))]) hx hb dX6_following_20 rfl hl (by decide) rfl (fun ls hl => ?_)
    have L21 : ∀ (fu : Nat) (i : Nat) (x2 : Int32) (ls : Array Slot), x2 = nI i → i ≤ n → nxU (fun r => decide (V (o r) = V x)) o i (n - i) = nxU (fun r => decide (V (o r) = V x)) o (kr x + 1) (n - (kr x + 1)) → n - i < fu → lv_has ls 3 [(0, .ref (b 1)), (1, .int (nI x)), (2, .int x2)] → W p l e (headSpec wsX6_following ({ frames := 0, cells := 0, slots := 0, locals := 0 } : Room)).room s m [.ref (b 1), .int (nI x)].toArray below meth c s.heap [] 0 0 (MQ below (vp_Si (fun r => r = oi (flC V o kr n x))) [.ref (b 1), .int (nI x)].toArray s 0 0 (fun _ => False)) (F0 m 21 ls []) := by
      intro fu
      induction fu with
      | zero =>
        intro i x2 ls e2 hi1 he1 hfu21 hl
        exact absurd hfu21 (Nat.not_lt_zero _)
      | succ fu ih21 =>
        intro i x2 ls e2 hi1 he1 hfu21 hl
        subst e2
        refine lv_iload_n hx hb dX6_following_21 rfl (lv_at hl 2 rfl) ?_
        refine lv_aload_n hx hb dX6_following_22 rfl (lv_at hl 0 rfl) ?_
        refine va_get (D := (dC, dI)) (ci := 6) (v := .int (nI n)) (C := RX6) (T := TX6) (N := 7) hx hb hts i_X6 hown hK hP 0 rfl rfl 0 (by decide) k_2 (fun _ h9 => h9) rfl dX6_following_23 ?_
        refine lv_icmp_ge (tgt := 62) hx hb dX6_following_26 (by decide) (fun c_2 => ?_) (fun c_2 => ?_)
        · skip
          have c_2 : i ≥ n := gk_geT (a := i) (b := n) (by first | omega | exact Nat.lt_of_le_of_lt atN_le (by omega) | exact Nat.lt_of_le_of_lt szN_le (by omega) | exact Nat.lt_of_le_of_lt clM_le (by omega) | exact Nat.lt_of_le_of_lt rkN_le (by omega) | exact Nat.lt_of_le_of_lt (cnt_le _ _) (by omega)) (by first | omega | exact Nat.lt_of_le_of_lt atN_le (by omega) | exact Nat.lt_of_le_of_lt szN_le (by omega) | exact Nat.lt_of_le_of_lt clM_le (by omega) | exact Nat.lt_of_le_of_lt rkN_le (by omega) | exact Nat.lt_of_le_of_lt (cnt_le _ _) (by omega)) c_2
          refine lv_iconst (v := (-1)) hx hb dX6_following_62 (by decide) ?_
          exact W.iret (v := (-1)) hx hb hr (fun t ht _ => ⟨_, rfl, by first | exact flC_none (by assumption) | exact flC_hit (by assumption) he1 (by omega) (by assumption) | exact flC_end (by assumption) he1 (by omega), ht⟩) (fun q h => by cases h) dX6_following_63
        · skip
          have c_2 : i < n := gk_geF (a := i) (b := n) (by first | omega | exact Nat.lt_of_le_of_lt atN_le (by omega) | exact Nat.lt_of_le_of_lt szN_le (by omega) | exact Nat.lt_of_le_of_lt clM_le (by omega) | exact Nat.lt_of_le_of_lt rkN_le (by omega) | exact Nat.lt_of_le_of_lt (cnt_le _ _) (by omega)) (by first | omega | exact Nat.lt_of_le_of_lt atN_le (by omega) | exact Nat.lt_of_le_of_lt szN_le (by omega) | exact Nat.lt_of_le_of_lt clM_le (by omega) | exact Nat.lt_of_le_of_lt rkN_le (by omega) | exact Nat.lt_of_le_of_lt (cnt_le _ _) (by omega)) c_2
          refine lv_aload_n hx hb dX6_following_29 rfl (lv_at hl 0 rfl) ?_
          refine va_get (D := (dC, dI)) (ci := 6) (v := .ref (b 5)) (C := RX6) (T := TX6) (N := 7) hx hb hts i_X6 hown hK hP 0 rfl rfl 4 (by decide) k_0 (fun _ h9 => h9) rfl dX6_following_30 ?_
          refine lv_aload_n hx hb dX6_following_33 rfl (lv_at hl 0 rfl) ?_
          refine va_get (D := (dC, dI)) (ci := 6) (v := .ref (b 6)) (C := RX6) (T := TX6) (N := 7) hx hb hts i_X6 hown hK hP 0 rfl rfl 5 (by decide) k_3 (fun _ h9 => h9) rfl dX6_following_34 ?_
          refine lv_iload_n hx hb dX6_following_37 rfl (lv_at hl 2 rfl) ?_
          refine gk_ld hx hb hK hP 5 0 rfl rfl i (by omega) (by omega) (v := nI (o i)) (rfl) dX6_following_38 ?_
          refine gk_ld hx hb hK hP 4 0 rfl rfl (o i) (ho _) (by omega) (v := V (o i)) (rfl) dX6_following_39 ?_
          refine lv_aload_n hx hb dX6_following_40 rfl (lv_at hl 0 rfl) ?_
          refine va_get (D := (dC, dI)) (ci := 6) (v := .ref (b 5)) (C := RX6) (T := TX6) (N := 7) hx hb hts i_X6 hown hK hP 0 rfl rfl 4 (by decide) k_0 (fun _ h9 => h9) rfl dX6_following_41 ?_
          refine lv_iload_n hx hb dX6_following_44 rfl (lv_at hl 1 rfl) ?_
          refine gk_ld hx hb hK hP 4 0 rfl rfl x (by omega) (by omega) (v := V x) (rfl) dX6_following_45 ?_
          refine lv_icmp_ne (tgt := 56) hx hb dX6_following_46 (by decide) (fun c_3 => ?_) (fun c_3 => ?_)
          · skip
            refine lv_iinc (v := nI (i + 1)) (lv' := [(2, .int (nI (i + 1))), (0, .ref (b 1)), (1, .int (nI x))]) hx hb dX6_following_56 hl (k := 2) rfl (gk_inc1 _) (by decide) rfl (fun ls hl => ?_)
            refine lv_goto (tgt := 21) hx hb dX6_following_59 (by decide) ?_
            exact ih21 (i + 1) _ ls (by rfl) (by omega) (by first | rfl | exact (nxU_miss (by omega) (by simpa using (show ¬ V (o i) = V x by assumption))).symm.trans he1) (by omega) (lv_sub hl [1, 2, 0] rfl)
          · skip
            refine lv_aload_n hx hb dX6_following_49 rfl (lv_at hl 0 rfl) ?_
            refine va_get (D := (dC, dI)) (ci := 6) (v := .ref (b 6)) (C := RX6) (T := TX6) (N := 7) hx hb hts i_X6 hown hK hP 0 rfl rfl 5 (by decide) k_3 (fun _ h9 => h9) rfl dX6_following_50 ?_
            refine lv_iload_n hx hb dX6_following_53 rfl (lv_at hl 2 rfl) ?_
            refine gk_ld hx hb hK hP 5 0 rfl rfl i (by omega) (by omega) (v := nI (o i)) (rfl) dX6_following_54 ?_
            exact W.iret (v := nI (o i)) hx hb hr (fun t ht _ => ⟨_, rfl, by first | exact flC_none (by assumption) | exact flC_hit (by assumption) he1 (by omega) (by assumption) | exact flC_end (by assumption) he1 (by omega), ht⟩) (fun q h => by cases h) dX6_following_55
    exact L21 ((n) + 1) (kr x + 1) _ ls (by rfl) (by omega) (by first | rfl | exact (nxU_miss (by omega) (by simpa using (show ¬ V (o i) = V x by assumption))).symm.trans he1) (by omega) (lv_sub hl [1, 2, 0] rfl)
  · skip
    refine lv_iconst (v := (-1)) hx hb dX6_following_10 (by decide) ?_
    exact W.iret (v := (-1)) hx hb hr (fun t ht _ => ⟨_, rfl, by first | exact flC_none (by assumption) | exact flC_hit (by assumption) he1 (by omega) (by assumption) | exact flC_end (by assumption) he1 (by omega), ht⟩) (fun q h => by cases h) dX6_following_11

set_option maxHeartbeats 4000000 in
set_option maxRecDepth 100000 in
theorem c_X8_nextOf (l : Launch) (dC : Nat → ClassId) (dI : Nat → Nat → Nat) (cI : ClassId) (a : Nat → Nat) (n : Nat) (F T P V Wt : Nat → Int32) (o : Nat → Nat) (G L R : Nat → Int32) (hn : n ≤ 60) (ho : ∀ j, o j < 60) (x : Nat) (hx0 : x < n) : Met l yX8_nextOf wsX8_nextOf ({ frames := 2, cells := 0, slots := 0, locals := 45 } : Room) (va_Pc [.ref (a 0), .int (nI x)] (fun U => va_P (dC, dI) vwCl (mW cI a (nI n) F T P V Wt (fun j => nI (o j)) G L R) U.heap ∧ va_K (dC, dI) vwCl [(cI, .int)] U)) (vp_Si (fun r => r = oi (flM F P V o n x))) 0 0 (fun _ => False) := by
  refine Met.ofW (cc := cX8_nextOf) (maxL := 4) (ret := (some .int)) (by decide) rfl ?_
  intro p e s m args below meth c s₁ B hml hv
  obtain ⟨rfl, hP, hK⟩ := hv
  have hx := B.exec
  have hb := B.bytes
  have hr := B.returns
  have hts := atoms_spec (ws := wsX8_nextOf) B.pre
  have hown : s.vm.findClass RX8 = some m.cls := findClass_of_methodNamed B.named
  have hlocks := B.notSynchronized
  have i_X8 : ∀ w ∈ u_ws RX8 TX8 10, w ∈ wsX8_nextOf := by decide +kernel
  have k_0 := hts (.fieldLink RX8 38 "VoiceRowsModel" "notes" "I") (by decide +kernel)
  have k_1 := hts (.fieldLink RX8 19 "VoiceRowsModel" "voice" "[I") (by decide +kernel)
  have k_2 := hts (.fieldLink RX8 25 "VoiceRowsModel" "order" "[I") (by decide +kernel)
  have hl := lv_entry ([.ref (a 0), .int (nI x)]) (n := 4) (Nat.le_of_ble_eq_true rfl)
  rw [lg_entry_eq]
  generalize (lg_sl ([.ref (a 0), .int (nI x)]) ++ List.replicate (4 - (lg_sl ([.ref (a 0), .int (nI x)])).length) Slot.unset).toArray = ls at hl ⊢
  have hl : lv_has ls 4 [(0, .ref (a 0)), (1, .int (nI x))] := hl
  have hrk : rkN F P n x < n := rkN_lt hx0
  refine lv_iconst (v := (-1)) hx hb dX8_nextOf_0 (by decide) ?_
  refine lv_istore_n (lv' := [(2, .int (-1)), (0, .ref (a 0)), (1, .int (nI x))]) hx hb dX8_nextOf_1 rfl hl (by decide) rfl (fun ls hl => ?_)
  refine lv_aload_n hx hb dX8_nextOf_2 rfl (lv_at hl 1 rfl) ?_
  refine va_get (D := (dC, dI)) (ci := 8) (v := .int (nI n)) (C := RX8) (T := TX8) (N := 10) hx hb hts i_X8 hown hK hP 0 rfl rfl 4 (by decide) k_0 (fun _ h9 => h9) rfl dX8_nextOf_3 ?_
  refine lv_iconst (v := 1) hx hb dX8_nextOf_6 (by decide) ?_
  refine lv_isub hx hb dX8_nextOf_7 ?_
  refine gk_top (y := nI (n - 1)) (pk_sub (a := n) (b := 1) (by omega)) ?_
  refine lv_istore_n (lv' := [(3, .int (nI (n - 1))), (2, .int (-1)), (0, .ref (a 0)), (1, .int (nI x))]) hx hb dX8_nextOf_8 rfl hl (by decide) rfl (fun ls hl => ?_)
  have L9 : ∀ (fu : Nat) (r : Nat) (x2 x3 : Int32) (ls : Array Slot), x2 = oi (nxU (fun r => decide (V (o r) = V x)) o (r + 1) (n - (r + 1))) → x3 = nI r → r < n → rkN F P n x ≤ r → (0 ≤ V x ∨ r = n - 1) → r < fu → lv_has ls 4 [(0, .ref (a 0)), (1, .int (nI x)), (2, .int x2), (3, .int x3)] → W p l e (headSpec wsX8_nextOf ({ frames := 2, cells := 0, slots := 0, locals := 45 } : Room)).room s m [.ref (a 0), .int (nI x)].toArray below meth c s.heap [] 0 0 (MQ below (vp_Si (fun r => r = oi (flM F P V o n x))) [.ref (a 0), .int (nI x)].toArray s 0 0 (fun _ => False)) (F0 m 9 ls []) := by
    intro fu
    induction fu with
    | zero =>
      intro r x2 x3 ls e2 e3 hr1 hr2 hr3 hfu9 hl
      exact absurd hfu9 (Nat.not_lt_zero _)
    | succ fu ih9 =>
      intro r x2 x3 ls e2 e3 hr1 hr2 hr3 hfu9 hl
      subst e2
      subst e3
      refine lv_iload_n hx hb dX8_nextOf_9 rfl (lv_at hl 3 rfl) ?_
      refine lv_aload_n hx hb dX8_nextOf_10 rfl (lv_at hl 0 rfl) ?_
      refine lv_iload_n hx hb dX8_nextOf_11 rfl (lv_at hl 1 rfl) ?_
      refine vp_callSi (gk_run (va_runV (As := [.int (nI x)]) (rest := [.int (nI r)]) ⟨hx, hb, hml, hown, hts⟩ (c_X8_rank l dC dI cI a n F T P V Wt (fun j => nI (o j)) G L R hn x (by omega)) (cwV 1 hts gX8_nextOf_X8_rank rfl rfl rfl (by decide +kernel) ⟨Nat.le_of_ble_eq_true rfl, Nat.le_of_ble_eq_true rfl⟩) ⟨gk_fb, va_recv hK hP (ci := 8) (q0 := 0) rfl rfl, fun U hU hW => ⟨rfl, by rw [hU]; exact hP, va_K.moved hW.alike hK⟩⟩ rfl rfl hl.1 rfl (lv_room (Nat.le_of_ble_eq_true rfl)) dX8_nextOf_12 ⟨Nat.zero_le _, Nat.zero_le _⟩)) (fun r_1 er_1 => ?_)
      subst er_1
      refine lv_icmp_le (tgt := 64) hx hb dX8_nextOf_15 (by decide) (fun c_2 => ?_) (fun c_2 => ?_)
      · skip
        have c_2 : r ≤ rkN F P n x := gk_leT (a := r) (b := rkN F P n x) (by first | omega | exact Nat.lt_of_le_of_lt atN_le (by omega) | exact Nat.lt_of_le_of_lt szN_le (by omega) | exact Nat.lt_of_le_of_lt clM_le (by omega) | exact Nat.lt_of_le_of_lt rkN_le (by omega) | exact Nat.lt_of_le_of_lt (cnt_le _ _) (by omega)) (by first | omega | exact Nat.lt_of_le_of_lt atN_le (by omega) | exact Nat.lt_of_le_of_lt szN_le (by omega) | exact Nat.lt_of_le_of_lt clM_le (by omega) | exact Nat.lt_of_le_of_lt rkN_le (by omega) | exact Nat.lt_of_le_of_lt (cnt_le _ _) (by omega)) c_2
        refine lv_iload_n hx hb dX8_nextOf_64 rfl (lv_at hl 2 rfl) ?_
        exact W.iret (v := oi (nxU (fun r => decide (V (o r) = V x)) o (r + 1) (n - (r + 1)))) hx hb hr (fun t ht _ => ⟨_, rfl, by first | exact flM_end (by omega) hr3 hr1 | exact flM_neg hr3 hr1 (Int32.not_le.mpr (by assumption)), ht⟩) (fun q h => by cases h) dX8_nextOf_65
      · skip
        have c_2 : r > rkN F P n x := gk_leF (a := r) (b := rkN F P n x) (by first | omega | exact Nat.lt_of_le_of_lt atN_le (by omega) | exact Nat.lt_of_le_of_lt szN_le (by omega) | exact Nat.lt_of_le_of_lt clM_le (by omega) | exact Nat.lt_of_le_of_lt rkN_le (by omega) | exact Nat.lt_of_le_of_lt (cnt_le _ _) (by omega)) (by first | omega | exact Nat.lt_of_le_of_lt atN_le (by omega) | exact Nat.lt_of_le_of_lt szN_le (by omega) | exact Nat.lt_of_le_of_lt clM_le (by omega) | exact Nat.lt_of_le_of_lt rkN_le (by omega) | exact Nat.lt_of_le_of_lt (cnt_le _ _) (by omega)) c_2
        refine lv_aload_n hx hb dX8_nextOf_18 rfl (lv_at hl 0 rfl) ?_
        refine va_get (D := (dC, dI)) (ci := 8) (v := .ref (a 4)) (C := RX8) (T := TX8) (N := 10) hx hb hts i_X8 hown hK hP 0 rfl rfl 3 (by decide) k_1 (fun _ h9 => h9) rfl dX8_nextOf_19 ?_
        refine lv_iload_n hx hb dX8_nextOf_22 rfl (lv_at hl 1 rfl) ?_
        refine gk_ld hx hb hK hP 4 0 rfl rfl x (by omega) (by omega) (v := V x) (rfl) dX8_nextOf_23 ?_
        refine lv_if_lt (tgt := 64) hx hb dX8_nextOf_24 (by decide) (fun c_3 => ?_) (fun c_3 => ?_)
        · skip
          refine lv_iload_n hx hb dX8_nextOf_64 rfl (lv_at hl 2 rfl) ?_
          exact W.iret (v := oi (nxU (fun r => decide (V (o r) = V x)) o (r + 1) (n - (r + 1)))) hx hb hr (fun t ht _ => ⟨_, rfl, by first | exact flM_end (by omega) hr3 hr1 | exact flM_neg hr3 hr1 (Int32.not_le.mpr (by assumption)), ht⟩) (fun q h => by cases h) dX8_nextOf_65
        · skip
          refine lv_aload_n hx hb dX8_nextOf_27 rfl (lv_at hl 0 rfl) ?_
          refine va_get (D := (dC, dI)) (ci := 8) (v := .ref (a 4)) (C := RX8) (T := TX8) (N := 10) hx hb hts i_X8 hown hK hP 0 rfl rfl 3 (by decide) k_1 (fun _ h9 => h9) rfl dX8_nextOf_28 ?_
          refine lv_aload_n hx hb dX8_nextOf_31 rfl (lv_at hl 0 rfl) ?_
          refine va_get (D := (dC, dI)) (ci := 8) (v := .ref (a 6)) (C := RX8) (T := TX8) (N := 10) hx hb hts i_X8 hown hK hP 0 rfl rfl 6 (by decide) k_2 (fun _ h9 => h9) rfl dX8_nextOf_32 ?_
          refine lv_iload_n hx hb dX8_nextOf_35 rfl (lv_at hl 3 rfl) ?_
          refine gk_ld hx hb hK hP 6 0 rfl rfl r (by omega) (by omega) (v := nI (o r)) (rfl) dX8_nextOf_36 ?_
          refine gk_ld hx hb hK hP 4 0 rfl rfl (o r) (ho _) (by omega) (v := V (o r)) (rfl) dX8_nextOf_37 ?_
          refine lv_aload_n hx hb dX8_nextOf_38 rfl (lv_at hl 0 rfl) ?_
          refine va_get (D := (dC, dI)) (ci := 8) (v := .ref (a 4)) (C := RX8) (T := TX8) (N := 10) hx hb hts i_X8 hown hK hP 0 rfl rfl 3 (by decide) k_1 (fun _ h9 => h9) rfl dX8_nextOf_39 ?_
          refine lv_iload_n hx hb dX8_nextOf_42 rfl (lv_at hl 1 rfl) ?_
          refine gk_ld hx hb hK hP 4 0 rfl rfl x (by omega) (by omega) (v := V x) (rfl) dX8_nextOf_43 ?_
          refine lv_icmp_ne (tgt := 56) hx hb dX8_nextOf_44 (by decide) (fun c_4 => ?_) (fun c_4 => ?_)
          · skip
            refine lv_iload_n hx hb dX8_nextOf_56 rfl (lv_at hl 2 rfl) ?_
            refine lv_istore_n (lv' := [(2, .int (oi (nxU (fun r => decide (V (o r) = V x)) o (r + 1) (n - (r + 1))))), (0, .ref (a 0)), (1, .int (nI x)), (3, .int (nI r))]) hx hb dX8_nextOf_57 rfl hl (by decide) rfl (fun ls hl => ?_)
            refine lv_iinc (v := nI (r - 1)) (lv' := [(3, .int (nI (r - 1))), (2, .int (oi (nxU (fun r => decide (V (o r) = V x)) o (r + 1) (n - (r + 1))))), (0, .ref (a 0)), (1, .int (nI x))]) hx hb dX8_nextOf_58 hl (k := 3) rfl (gk_dec (by omega)) (by decide) rfl (fun ls hl => ?_)
            refine lv_goto (tgt := 9) hx hb dX8_nextOf_61 (by decide) ?_
            exact ih9 (r - 1) _ _ ls (by first | (rw [nxU_end (by omega)]; rfl) | exact nxU_y (by omega) (by omega) (by simpa using (show V (o r) = V x by assumption)) | exact nxU_n (by omega) (by omega) (by simpa using (show ¬ V (o r) = V x by assumption))) (by rfl) (by omega) (by omega) (by first | exact Or.inr rfl | exact Or.inl (Int32.not_lt.mp (by assumption))) (by omega) (lv_sub hl [2, 3, 1, 0] rfl)
          · skip
            refine lv_aload_n hx hb dX8_nextOf_47 rfl (lv_at hl 0 rfl) ?_
            refine va_get (D := (dC, dI)) (ci := 8) (v := .ref (a 6)) (C := RX8) (T := TX8) (N := 10) hx hb hts i_X8 hown hK hP 0 rfl rfl 6 (by decide) k_2 (fun _ h9 => h9) rfl dX8_nextOf_48 ?_
            refine lv_iload_n hx hb dX8_nextOf_51 rfl (lv_at hl 3 rfl) ?_
            refine gk_ld hx hb hK hP 6 0 rfl rfl r (by omega) (by omega) (v := nI (o r)) (rfl) dX8_nextOf_52 ?_
            refine lv_goto (tgt := 57) hx hb dX8_nextOf_53 (by decide) ?_
            refine lv_istore_n (lv' := [(2, .int (nI (o r))), (0, .ref (a 0)), (1, .int (nI x)), (3, .int (nI r))]) hx hb dX8_nextOf_57 rfl hl (by decide) rfl (fun ls hl => ?_)
            refine lv_iinc (v := nI (r - 1)) (lv' := [(3, .int (nI (r - 1))), (2, .int (nI (o r))), (0, .ref (a 0)), (1, .int (nI x))]) hx hb dX8_nextOf_58 hl (k := 3) rfl (gk_dec (by omega)) (by decide) rfl (fun ls hl => ?_)
            refine lv_goto (tgt := 9) hx hb dX8_nextOf_61 (by decide) ?_
            exact ih9 (r - 1) _ _ ls (by first | (rw [nxU_end (by omega)]; rfl) | exact nxU_y (by omega) (by omega) (by simpa using (show V (o r) = V x by assumption)) | exact nxU_n (by omega) (by omega) (by simpa using (show ¬ V (o r) = V x by assumption))) (by rfl) (by omega) (by omega) (by first | exact Or.inr rfl | exact Or.inl (Int32.not_lt.mp (by assumption))) (by omega) (lv_sub hl [2, 3, 1, 0] rfl)
  exact L9 ((n - 1) + 1) (n - 1) _ _ ls (by first | (rw [nxU_end (by omega)]; rfl) | exact nxU_y (by omega) (by omega) (by simpa using (show V (o r) = V x by assumption)) | exact nxU_n (by omega) (by omega) (by simpa using (show ¬ V (o r) = V x by assumption))) (by rfl) (by omega) (by omega) (by first | exact Or.inr rfl | exact Or.inl (Int32.not_lt.mp (by assumption))) (by omega) (lv_sub hl [2, 3, 1, 0] rfl)

set_option maxHeartbeats 4000000 in
set_option maxRecDepth 100000 in
theorem c_X6_clashes (l : Launch) (dC : Nat → ClassId) (dI : Nat → Nat → Nat) (cI : ClassId) (b : Nat → Nat) (n : Nat) (F T P V : Nat → Int32) (o kr : Nat → Nat) (hn : n ≤ 60) (ho : ∀ j, o j < 60) (x : Nat) (hx0 : x < 60) : Met l yX6_clashes wsX6_clashes ({ frames := 1, cells := 0, slots := 0, locals := 22 } : Room) (va_Pc [.ref (b 1), .int (nI x)] (fun U => va_P (dC, dI) vwCl (sW cI b (nI n) F T P V (fun j => nI (o j)) (fun j => nI (kr j))) U.heap ∧ va_K (dC, dI) vwCl [(cI, .int)] U)) (vp_Si (fun r => r = nI (clC F T V n x))) 0 0 (fun _ => False) := by
  refine Met.ofW (cc := cX6_clashes) (maxL := 4) (ret := (some .int)) (by decide) rfl ?_
  intro p e s m args below meth c s₁ B hml hv
  obtain ⟨rfl, hP, hK⟩ := hv
  have hx := B.exec
  have hb := B.bytes
  have hr := B.returns
  have hts := atoms_spec (ws := wsX6_clashes) B.pre
  have hown : s.vm.findClass RX6 = some m.cls := findClass_of_methodNamed B.named
  have hlocks := B.notSynchronized
  have i_X6 : ∀ w ∈ u_ws RX6 TX6 7, w ∈ wsX6_clashes := by decide +kernel
  have k_0 := hts (.fieldLink RX6 30 "VoiceRows$Score" "count" "I") (by decide +kernel)
  have k_1 := hts (.fieldLink RX6 21 "VoiceRows$Score" "voice" "[I") (by decide +kernel)
  have hl := lv_entry ([.ref (b 1), .int (nI x)]) (n := 4) (Nat.le_of_ble_eq_true rfl)
  rw [lg_entry_eq]
  generalize (lg_sl ([.ref (b 1), .int (nI x)]) ++ List.replicate (4 - (lg_sl ([.ref (b 1), .int (nI x)])).length) Slot.unset).toArray = ls at hl ⊢
  have hl : lv_has ls 4 [(0, .ref (b 1)), (1, .int (nI x))] := hl
  refine lv_iconst (v := 0) hx hb dX6_clashes_0 (by decide) ?_
  refine lv_istore_n (lv' := [(2, .int 0), (0, .ref (b 1)), (1, .int (nI x))]) hx hb dX6_clashes_1 rfl hl (by decide) rfl (fun ls hl => ?_)
  refine lv_iconst (v := 0) hx hb dX6_clashes_2 (by decide) ?_
  refine lv_istore_n (lv' := [(3, .int 0), (2, .int 0), (0, .ref (b 1)), (1, .int (nI x))]) hx hb dX6_clashes_3 rfl hl (by decide) rfl (fun ls hl => ?_)
  have L4 : ∀ (fu : Nat) (k : Nat) (x2 x3 : Int32) (ls : Array Slot), x2 = nI (cnt (fun j => decide (j ≠ x) && (decide (V j = V x) && tog F T x j)) k) → x3 = nI k → k ≤ n → (V x = -1 → k = 0) → n - k < fu → lv_has ls 4 [(0, .ref (b 1)), (1, .int (nI x)), (2, .int x2), (3, .int x3)] → W p l e (headSpec wsX6_clashes ({ frames := 1, cells := 0, slots := 0, locals := 22 } : Room)).room s m [.ref (b 1), .int (nI x)].toArray below meth c s.heap [] 0 0 (MQ below (vp_Si (fun r => r = nI (clC F T V n x))) [.ref (b 1), .int (nI x)].toArray s 0 0 (fun _ => False)) (F0 m 4 ls []) := by
    intro fu
    induction fu with
    | zero =>
      intro k x2 x3 ls e2 e3 hk1 hk2 hfu4 hl
      exact absurd hfu4 (Nat.not_lt_zero _)
    | succ fu ih4 =>
      intro k x2 x3 ls e2 e3 hk1 hk2 hfu4 hl
      subst e2
      subst e3
      refine lv_iload_n hx hb dX6_clashes_4 rfl (lv_at hl 3 rfl) ?_
      refine lv_aload_n hx hb dX6_clashes_5 rfl (lv_at hl 0 rfl) ?_
      refine va_get (D := (dC, dI)) (ci := 6) (v := .int (nI n)) (C := RX6) (T := TX6) (N := 7) hx hb hts i_X6 hown hK hP 0 rfl rfl 0 (by decide) k_0 (fun _ h9 => h9) rfl dX6_clashes_6 ?_
      refine lv_icmp_ge (tgt := 60) hx hb dX6_clashes_9 (by decide) (fun c_1 => ?_) (fun c_1 => ?_)
      · skip
        have c_1 : k ≥ n := gk_geT (a := k) (b := n) (by first | omega | exact Nat.lt_of_le_of_lt atN_le (by omega) | exact Nat.lt_of_le_of_lt szN_le (by omega) | exact Nat.lt_of_le_of_lt clM_le (by omega) | exact Nat.lt_of_le_of_lt rkN_le (by omega) | exact Nat.lt_of_le_of_lt (cnt_le _ _) (by omega)) (by first | omega | exact Nat.lt_of_le_of_lt atN_le (by omega) | exact Nat.lt_of_le_of_lt szN_le (by omega) | exact Nat.lt_of_le_of_lt clM_le (by omega) | exact Nat.lt_of_le_of_lt rkN_le (by omega) | exact Nat.lt_of_le_of_lt (cnt_le _ _) (by omega)) c_1
        refine lv_iload_n hx hb dX6_clashes_60 rfl (lv_at hl 2 rfl) ?_
        exact W.iret (v := nI (cnt (fun j => decide (j ≠ x) && (decide (V j = V x) && tog F T x j)) k)) hx hb hr (fun t ht _ => ⟨_, rfl, by first | exact clC_end (Or.inl (by omega)) hk2 | exact clC_end (Or.inr (by assumption)) hk2, ht⟩) (fun q h => by cases h) dX6_clashes_61
      · skip
        have c_1 : k < n := gk_geF (a := k) (b := n) (by first | omega | exact Nat.lt_of_le_of_lt atN_le (by omega) | exact Nat.lt_of_le_of_lt szN_le (by omega) | exact Nat.lt_of_le_of_lt clM_le (by omega) | exact Nat.lt_of_le_of_lt rkN_le (by omega) | exact Nat.lt_of_le_of_lt (cnt_le _ _) (by omega)) (by first | omega | exact Nat.lt_of_le_of_lt atN_le (by omega) | exact Nat.lt_of_le_of_lt szN_le (by omega) | exact Nat.lt_of_le_of_lt clM_le (by omega) | exact Nat.lt_of_le_of_lt rkN_le (by omega) | exact Nat.lt_of_le_of_lt (cnt_le _ _) (by omega)) c_1
        refine lv_aload_n hx hb dX6_clashes_12 rfl (lv_at hl 0 rfl) ?_
        refine va_get (D := (dC, dI)) (ci := 6) (v := .ref (b 5)) (C := RX6) (T := TX6) (N := 7) hx hb hts i_X6 hown hK hP 0 rfl rfl 4 (by decide) k_1 (fun _ h9 => h9) rfl dX6_clashes_13 ?_
        refine lv_iload_n hx hb dX6_clashes_16 rfl (lv_at hl 1 rfl) ?_
        refine gk_ld hx hb hK hP 4 0 rfl rfl x (by omega) (by omega) (v := V x) (rfl) dX6_clashes_17 ?_
        refine lv_iconst (v := (-1)) hx hb dX6_clashes_18 (by decide) ?_
        refine lv_icmp_eq (tgt := 60) hx hb dX6_clashes_19 (by decide) (fun c_2 => ?_) (fun c_2 => ?_)
        · skip
          refine lv_iload_n hx hb dX6_clashes_60 rfl (lv_at hl 2 rfl) ?_
          exact W.iret (v := nI (cnt (fun j => decide (j ≠ x) && (decide (V j = V x) && tog F T x j)) k)) hx hb hr (fun t ht _ => ⟨_, rfl, by first | exact clC_end (Or.inl (by omega)) hk2 | exact clC_end (Or.inr (by assumption)) hk2, ht⟩) (fun q h => by cases h) dX6_clashes_61
        · skip
          refine lv_iload_n hx hb dX6_clashes_22 rfl (lv_at hl 3 rfl) ?_
          refine lv_iload_n hx hb dX6_clashes_23 rfl (lv_at hl 1 rfl) ?_
          refine lv_icmp_eq (tgt := 54) hx hb dX6_clashes_24 (by decide) (fun c_3 => ?_) (fun c_3 => ?_)
          · skip
            have c_3 : k = x := gk_eqT (a := k) (b := x) (by first | omega | exact Nat.lt_of_le_of_lt atN_le (by omega) | exact Nat.lt_of_le_of_lt szN_le (by omega) | exact Nat.lt_of_le_of_lt clM_le (by omega) | exact Nat.lt_of_le_of_lt rkN_le (by omega) | exact Nat.lt_of_le_of_lt (cnt_le _ _) (by omega)) (by first | omega | exact Nat.lt_of_le_of_lt atN_le (by omega) | exact Nat.lt_of_le_of_lt szN_le (by omega) | exact Nat.lt_of_le_of_lt clM_le (by omega) | exact Nat.lt_of_le_of_lt rkN_le (by omega) | exact Nat.lt_of_le_of_lt (cnt_le _ _) (by omega)) c_3
            refine lv_iinc (v := nI (k + 1)) (lv' := [(3, .int (nI (k + 1))), (0, .ref (b 1)), (1, .int (nI x)), (2, .int (nI (cnt (fun j => decide (j ≠ x) && (decide (V j = V x) && tog F T x j)) k)))]) hx hb dX6_clashes_54 hl (k := 3) rfl (gk_inc1 _) (by decide) rfl (fun ls hl => ?_)
            refine lv_goto (tgt := 4) hx hb dX6_clashes_57 (by decide) ?_
            exact ih4 (k + 1) _ _ ls (by first | rfl | first | exact cnt_y (by (simp only [decide_eq_true_eq, decide_eq_false_iff_not, Bool.and_eq_true, Bool.and_eq_false_iff, Bool.or_eq_true, Bool.or_eq_false_iff, Bool.not_eq_true, Bool.not_eq_false, ne_eq, not_and, not_or, tog_t, tog_f, ahd_t, ahd_f, isoB_t, isoB_f, ixB_t, ixB_f, vOK_t, vOK_f, wOK_t, wOK_f, tn4, Int32.lt_iff_toInt_lt, Int32.le_iff_toInt_le, ← Int32.toInt_inj, tI0, tI1, tI2, tI3, tI4, tI6, tI14, tI59, tI60, tI127, tI1000, tI100000, tIm1, tIm2, tIm3, tIm4, tIbig] at c_1 c_2 c_3 ⊢ <;> omega)) | exact cnt_y1 (by (simp only [decide_eq_true_eq, decide_eq_false_iff_not, Bool.and_eq_true, Bool.and_eq_false_iff, Bool.or_eq_true, Bool.or_eq_false_iff, Bool.not_eq_true, Bool.not_eq_false, ne_eq, not_and, not_or, tog_t, tog_f, ahd_t, ahd_f, isoB_t, isoB_f, ixB_t, ixB_f, vOK_t, vOK_f, wOK_t, wOK_f, tn4, Int32.lt_iff_toInt_lt, Int32.le_iff_toInt_le, ← Int32.toInt_inj, tI0, tI1, tI2, tI3, tI4, tI6, tI14, tI59, tI60, tI127, tI1000, tI100000, tIm1, tIm2, tIm3, tIm4, tIbig] at c_1 c_2 c_3 ⊢ <;> omega)) | exact cnt_n (by (simp only [decide_eq_true_eq, decide_eq_false_iff_not, Bool.and_eq_true, Bool.and_eq_false_iff, Bool.or_eq_true, Bool.or_eq_false_iff, Bool.not_eq_true, Bool.not_eq_false, ne_eq, not_and, not_or, tog_t, tog_f, ahd_t, ahd_f, isoB_t, isoB_f, ixB_t, ixB_f, vOK_t, vOK_f, wOK_t, wOK_f, tn4, Int32.lt_iff_toInt_lt, Int32.le_iff_toInt_le, ← Int32.toInt_inj, tI0, tI1, tI2, tI3, tI4, tI6, tI14, tI59, tI60, tI127, tI1000, tI100000, tIm1, tIm2, tIm3, tIm4, tIbig] at c_1 c_2 c_3 ⊢ <;> omega)) | exact cnt_n0 (by (simp only [decide_eq_true_eq, decide_eq_false_iff_not, Bool.and_eq_true, Bool.and_eq_false_iff, Bool.or_eq_true, Bool.or_eq_false_iff, Bool.not_eq_true, Bool.not_eq_false, ne_eq, not_and, not_or, tog_t, tog_f, ahd_t, ahd_f, isoB_t, isoB_f, ixB_t, ixB_f, vOK_t, vOK_f, wOK_t, wOK_f, tn4, Int32.lt_iff_toInt_lt, Int32.le_iff_toInt_le, ← Int32.toInt_inj, tI0, tI1, tI2, tI3, tI4, tI6, tI14, tI59, tI60, tI127, tI1000, tI100000, tIm1, tIm2, tIm3, tIm4, tIbig] at c_1 c_2 c_3 ⊢ <;> omega))) (by first | rfl | first | exact cnt_y (by (simp only [decide_eq_true_eq, decide_eq_false_iff_not, Bool.and_eq_true, Bool.and_eq_false_iff, Bool.or_eq_true, Bool.or_eq_false_iff, Bool.not_eq_true, Bool.not_eq_false, ne_eq, not_and, not_or, tog_t, tog_f, ahd_t, ahd_f, isoB_t, isoB_f, ixB_t, ixB_f, vOK_t, vOK_f, wOK_t, wOK_f, tn4, Int32.lt_iff_toInt_lt, Int32.le_iff_toInt_le, ← Int32.toInt_inj, tI0, tI1, tI2, tI3, tI4, tI6, tI14, tI59, tI60, tI127, tI1000, tI100000, tIm1, tIm2, tIm3, tIm4, tIbig] at c_1 c_2 c_3 ⊢ <;> omega)) | exact cnt_y1 (by (simp only [decide_eq_true_eq, decide_eq_false_iff_not, Bool.and_eq_true, Bool.and_eq_false_iff, Bool.or_eq_true, Bool.or_eq_false_iff, Bool.not_eq_true, Bool.not_eq_false, ne_eq, not_and, not_or, tog_t, tog_f, ahd_t, ahd_f, isoB_t, isoB_f, ixB_t, ixB_f, vOK_t, vOK_f, wOK_t, wOK_f, tn4, Int32.lt_iff_toInt_lt, Int32.le_iff_toInt_le, ← Int32.toInt_inj, tI0, tI1, tI2, tI3, tI4, tI6, tI14, tI59, tI60, tI127, tI1000, tI100000, tIm1, tIm2, tIm3, tIm4, tIbig] at c_1 c_2 c_3 ⊢ <;> omega)) | exact cnt_n (by (simp only [decide_eq_true_eq, decide_eq_false_iff_not, Bool.and_eq_true, Bool.and_eq_false_iff, Bool.or_eq_true, Bool.or_eq_false_iff, Bool.not_eq_true, Bool.not_eq_false, ne_eq, not_and, not_or, tog_t, tog_f, ahd_t, ahd_f, isoB_t, isoB_f, ixB_t, ixB_f, vOK_t, vOK_f, wOK_t, wOK_f, tn4, Int32.lt_iff_toInt_lt, Int32.le_iff_toInt_le, ← Int32.toInt_inj, tI0, tI1, tI2, tI3, tI4, tI6, tI14, tI59, tI60, tI127, tI1000, tI100000, tIm1, tIm2, tIm3, tIm4, tIbig] at c_1 c_2 c_3 ⊢ <;> omega)) | exact cnt_n0 (by (simp only [decide_eq_true_eq, decide_eq_false_iff_not, Bool.and_eq_true, Bool.and_eq_false_iff, Bool.or_eq_true, Bool.or_eq_false_iff, Bool.not_eq_true, Bool.not_eq_false, ne_eq, not_and, not_or, tog_t, tog_f, ahd_t, ahd_f, isoB_t, isoB_f, ixB_t, ixB_f, vOK_t, vOK_f, wOK_t, wOK_f, tn4, Int32.lt_iff_toInt_lt, Int32.le_iff_toInt_le, ← Int32.toInt_inj, tI0, tI1, tI2, tI3, tI4, tI6, tI14, tI59, tI60, tI127, tI1000, tI100000, tIm1, tIm2, tIm3, tIm4, tIbig] at c_1 c_2 c_3 ⊢ <;> omega))) (by omega) (by first | exact fun _ => rfl | (intro hq; contradiction)) (by omega) (lv_sub hl [1, 2, 3, 0] rfl)
          · skip
            have c_3 : k ≠ x := gk_eqF (a := k) (b := x) (by first | omega | exact Nat.lt_of_le_of_lt atN_le (by omega) | exact Nat.lt_of_le_of_lt szN_le (by omega) | exact Nat.lt_of_le_of_lt clM_le (by omega) | exact Nat.lt_of_le_of_lt rkN_le (by omega) | exact Nat.lt_of_le_of_lt (cnt_le _ _) (by omega)) (by first | omega | exact Nat.lt_of_le_of_lt atN_le (by omega) | exact Nat.lt_of_le_of_lt szN_le (by omega) | exact Nat.lt_of_le_of_lt clM_le (by omega) | exact Nat.lt_of_le_of_lt rkN_le (by omega) | exact Nat.lt_of_le_of_lt (cnt_le _ _) (by omega)) c_3
            refine lv_aload_n hx hb dX6_clashes_27 rfl (lv_at hl 0 rfl) ?_
            refine va_get (D := (dC, dI)) (ci := 6) (v := .ref (b 5)) (C := RX6) (T := TX6) (N := 7) hx hb hts i_X6 hown hK hP 0 rfl rfl 4 (by decide) k_1 (fun _ h9 => h9) rfl dX6_clashes_28 ?_
            refine lv_iload_n hx hb dX6_clashes_31 rfl (lv_at hl 3 rfl) ?_
            refine gk_ld hx hb hK hP 4 0 rfl rfl k (by omega) (by omega) (v := V k) (rfl) dX6_clashes_32 ?_
            refine lv_aload_n hx hb dX6_clashes_33 rfl (lv_at hl 0 rfl) ?_
            refine va_get (D := (dC, dI)) (ci := 6) (v := .ref (b 5)) (C := RX6) (T := TX6) (N := 7) hx hb hts i_X6 hown hK hP 0 rfl rfl 4 (by decide) k_1 (fun _ h9 => h9) rfl dX6_clashes_34 ?_
            refine lv_iload_n hx hb dX6_clashes_37 rfl (lv_at hl 1 rfl) ?_
            refine gk_ld hx hb hK hP 4 0 rfl rfl x (by omega) (by omega) (v := V x) (rfl) dX6_clashes_38 ?_
            refine lv_icmp_ne (tgt := 54) hx hb dX6_clashes_39 (by decide) (fun c_4 => ?_) (fun c_4 => ?_)
            · skip
              refine lv_iinc (v := nI (k + 1)) (lv' := [(3, .int (nI (k + 1))), (0, .ref (b 1)), (1, .int (nI x)), (2, .int (nI (cnt (fun j => decide (j ≠ x) && (decide (V j = V x) && tog F T x j)) k)))]) hx hb dX6_clashes_54 hl (k := 3) rfl (gk_inc1 _) (by decide) rfl (fun ls hl => ?_)
              refine lv_goto (tgt := 4) hx hb dX6_clashes_57 (by decide) ?_
              exact ih4 (k + 1) _ _ ls (by first | rfl | first | exact cnt_y (by (simp only [decide_eq_true_eq, decide_eq_false_iff_not, Bool.and_eq_true, Bool.and_eq_false_iff, Bool.or_eq_true, Bool.or_eq_false_iff, Bool.not_eq_true, Bool.not_eq_false, ne_eq, not_and, not_or, tog_t, tog_f, ahd_t, ahd_f, isoB_t, isoB_f, ixB_t, ixB_f, vOK_t, vOK_f, wOK_t, wOK_f, tn4, Int32.lt_iff_toInt_lt, Int32.le_iff_toInt_le, ← Int32.toInt_inj, tI0, tI1, tI2, tI3, tI4, tI6, tI14, tI59, tI60, tI127, tI1000, tI100000, tIm1, tIm2, tIm3, tIm4, tIbig] at c_1 c_2 c_3 c_4 ⊢ <;> omega)) | exact cnt_y1 (by (simp only [decide_eq_true_eq, decide_eq_false_iff_not, Bool.and_eq_true, Bool.and_eq_false_iff, Bool.or_eq_true, Bool.or_eq_false_iff, Bool.not_eq_true, Bool.not_eq_false, ne_eq, not_and, not_or, tog_t, tog_f, ahd_t, ahd_f, isoB_t, isoB_f, ixB_t, ixB_f, vOK_t, vOK_f, wOK_t, wOK_f, tn4, Int32.lt_iff_toInt_lt, Int32.le_iff_toInt_le, ← Int32.toInt_inj, tI0, tI1, tI2, tI3, tI4, tI6, tI14, tI59, tI60, tI127, tI1000, tI100000, tIm1, tIm2, tIm3, tIm4, tIbig] at c_1 c_2 c_3 c_4 ⊢ <;> omega)) | exact cnt_n (by (simp only [decide_eq_true_eq, decide_eq_false_iff_not, Bool.and_eq_true, Bool.and_eq_false_iff, Bool.or_eq_true, Bool.or_eq_false_iff, Bool.not_eq_true, Bool.not_eq_false, ne_eq, not_and, not_or, tog_t, tog_f, ahd_t, ahd_f, isoB_t, isoB_f, ixB_t, ixB_f, vOK_t, vOK_f, wOK_t, wOK_f, tn4, Int32.lt_iff_toInt_lt, Int32.le_iff_toInt_le, ← Int32.toInt_inj, tI0, tI1, tI2, tI3, tI4, tI6, tI14, tI59, tI60, tI127, tI1000, tI100000, tIm1, tIm2, tIm3, tIm4, tIbig] at c_1 c_2 c_3 c_4 ⊢ <;> omega)) | exact cnt_n0 (by (simp only [decide_eq_true_eq, decide_eq_false_iff_not, Bool.and_eq_true, Bool.and_eq_false_iff, Bool.or_eq_true, Bool.or_eq_false_iff, Bool.not_eq_true, Bool.not_eq_false, ne_eq, not_and, not_or, tog_t, tog_f, ahd_t, ahd_f, isoB_t, isoB_f, ixB_t, ixB_f, vOK_t, vOK_f, wOK_t, wOK_f, tn4, Int32.lt_iff_toInt_lt, Int32.le_iff_toInt_le, ← Int32.toInt_inj, tI0, tI1, tI2, tI3, tI4, tI6, tI14, tI59, tI60, tI127, tI1000, tI100000, tIm1, tIm2, tIm3, tIm4, tIbig] at c_1 c_2 c_3 c_4 ⊢ <;> omega))) (by first | rfl | first | exact cnt_y (by (simp only [decide_eq_true_eq, decide_eq_false_iff_not, Bool.and_eq_true, Bool.and_eq_false_iff, Bool.or_eq_true, Bool.or_eq_false_iff, Bool.not_eq_true, Bool.not_eq_false, ne_eq, not_and, not_or, tog_t, tog_f, ahd_t, ahd_f, isoB_t, isoB_f, ixB_t, ixB_f, vOK_t, vOK_f, wOK_t, wOK_f, tn4, Int32.lt_iff_toInt_lt, Int32.le_iff_toInt_le, ← Int32.toInt_inj, tI0, tI1, tI2, tI3, tI4, tI6, tI14, tI59, tI60, tI127, tI1000, tI100000, tIm1, tIm2, tIm3, tIm4, tIbig] at c_1 c_2 c_3 c_4 ⊢ <;> omega)) | exact cnt_y1 (by (simp only [decide_eq_true_eq, decide_eq_false_iff_not, Bool.and_eq_true, Bool.and_eq_false_iff, Bool.or_eq_true, Bool.or_eq_false_iff, Bool.not_eq_true, Bool.not_eq_false, ne_eq, not_and, not_or, tog_t, tog_f, ahd_t, ahd_f, isoB_t, isoB_f, ixB_t, ixB_f, vOK_t, vOK_f, wOK_t, wOK_f, tn4, Int32.lt_iff_toInt_lt, Int32.le_iff_toInt_le, ← Int32.toInt_inj, tI0, tI1, tI2, tI3, tI4, tI6, tI14, tI59, tI60, tI127, tI1000, tI100000, tIm1, tIm2, tIm3, tIm4, tIbig] at c_1 c_2 c_3 c_4 ⊢ <;> omega)) | exact cnt_n (by (simp only [decide_eq_true_eq, decide_eq_false_iff_not, Bool.and_eq_true, Bool.and_eq_false_iff, Bool.or_eq_true, Bool.or_eq_false_iff, Bool.not_eq_true, Bool.not_eq_false, ne_eq, not_and, not_or, tog_t, tog_f, ahd_t, ahd_f, isoB_t, isoB_f, ixB_t, ixB_f, vOK_t, vOK_f, wOK_t, wOK_f, tn4, Int32.lt_iff_toInt_lt, Int32.le_iff_toInt_le, ← Int32.toInt_inj, tI0, tI1, tI2, tI3, tI4, tI6, tI14, tI59, tI60, tI127, tI1000, tI100000, tIm1, tIm2, tIm3, tIm4, tIbig] at c_1 c_2 c_3 c_4 ⊢ <;> omega)) | exact cnt_n0 (by (simp only [decide_eq_true_eq, decide_eq_false_iff_not, Bool.and_eq_true, Bool.and_eq_false_iff, Bool.or_eq_true, Bool.or_eq_false_iff, Bool.not_eq_true, Bool.not_eq_false, ne_eq, not_and, not_or, tog_t, tog_f, ahd_t, ahd_f, isoB_t, isoB_f, ixB_t, ixB_f, vOK_t, vOK_f, wOK_t, wOK_f, tn4, Int32.lt_iff_toInt_lt, Int32.le_iff_toInt_le, ← Int32.toInt_inj, tI0, tI1, tI2, tI3, tI4, tI6, tI14, tI59, tI60, tI127, tI1000, tI100000, tIm1, tIm2, tIm3, tIm4, tIbig] at c_1 c_2 c_3 c_4 ⊢ <;> omega))) (by omega) (by first | exact fun _ => rfl | (intro hq; contradiction)) (by omega) (lv_sub hl [1, 2, 3, 0] rfl)
            · skip
              refine lv_aload_n hx hb dX6_clashes_42 rfl (lv_at hl 0 rfl) ?_
              refine lv_iload_n hx hb dX6_clashes_43 rfl (lv_at hl 1 rfl) ?_
              refine lv_iload_n hx hb dX6_clashes_44 rfl (lv_at hl 3 rfl) ?_
              refine vp_callSi (gk_run (va_runV (As := [.int (nI x), .int (nI k)]) (rest := []) ⟨hx, hb, hml, hown, hts⟩ (c_X6_together l dC dI cI b n F T P V (fun j => nI (o j)) (fun j => nI (kr j)) hn x k hx0 (by omega)) (cwV 2 hts gX6_clashes_X6_together rfl rfl rfl (by decide +kernel) ⟨Nat.le_of_ble_eq_true rfl, Nat.le_of_ble_eq_true rfl⟩) ⟨gk_fb, va_recv hK hP (ci := 6) (q0 := 0) rfl rfl, fun U hU hW => ⟨rfl, by rw [hU]; exact hP, va_K.moved hW.alike hK⟩⟩ rfl rfl hl.1 rfl (lv_room (Nat.le_of_ble_eq_true rfl)) dX6_clashes_45 ⟨Nat.zero_le _, Nat.zero_le _⟩)) (fun r_5 er_5 => ?_)
              subst er_5
              refine lv_if_eq (tgt := 54) hx hb dX6_clashes_48 (by decide) (fun c_6 => ?_) (fun c_6 => ?_)
              · skip
                have c_6 : (tog F T x k) = false := b2i_0.mp c_6
                refine lv_iinc (v := nI (k + 1)) (lv' := [(3, .int (nI (k + 1))), (0, .ref (b 1)), (1, .int (nI x)), (2, .int (nI (cnt (fun j => decide (j ≠ x) && (decide (V j = V x) && tog F T x j)) k)))]) hx hb dX6_clashes_54 hl (k := 3) rfl (gk_inc1 _) (by decide) rfl (fun ls hl => ?_)
                refine lv_goto (tgt := 4) hx hb dX6_clashes_57 (by decide) ?_
                exact ih4 (k + 1) _ _ ls (by first | rfl | first | exact cnt_y (by (simp only [decide_eq_true_eq, decide_eq_false_iff_not, Bool.and_eq_true, Bool.and_eq_false_iff, Bool.or_eq_true, Bool.or_eq_false_iff, Bool.not_eq_true, Bool.not_eq_false, ne_eq, not_and, not_or, tog_t, tog_f, ahd_t, ahd_f, isoB_t, isoB_f, ixB_t, ixB_f, vOK_t, vOK_f, wOK_t, wOK_f, tn4, Int32.lt_iff_toInt_lt, Int32.le_iff_toInt_le, ← Int32.toInt_inj, tI0, tI1, tI2, tI3, tI4, tI6, tI14, tI59, tI60, tI127, tI1000, tI100000, tIm1, tIm2, tIm3, tIm4, tIbig] at c_1 c_2 c_3 c_4 c_6 ⊢ <;> omega)) | exact cnt_y1 (by (simp only [decide_eq_true_eq, decide_eq_false_iff_not, Bool.and_eq_true, Bool.and_eq_false_iff, Bool.or_eq_true, Bool.or_eq_false_iff, Bool.not_eq_true, Bool.not_eq_false, ne_eq, not_and, not_or, tog_t, tog_f, ahd_t, ahd_f, isoB_t, isoB_f, ixB_t, ixB_f, vOK_t, vOK_f, wOK_t, wOK_f, tn4, Int32.lt_iff_toInt_lt, Int32.le_iff_toInt_le, ← Int32.toInt_inj, tI0, tI1, tI2, tI3, tI4, tI6, tI14, tI59, tI60, tI127, tI1000, tI100000, tIm1, tIm2, tIm3, tIm4, tIbig] at c_1 c_2 c_3 c_4 c_6 ⊢ <;> omega)) | exact cnt_n (by (simp only [decide_eq_true_eq, decide_eq_false_iff_not, Bool.and_eq_true, Bool.and_eq_false_iff, Bool.or_eq_true, Bool.or_eq_false_iff, Bool.not_eq_true, Bool.not_eq_false, ne_eq, not_and, not_or, tog_t, tog_f, ahd_t, ahd_f, isoB_t, isoB_f, ixB_t, ixB_f, vOK_t, vOK_f, wOK_t, wOK_f, tn4, Int32.lt_iff_toInt_lt, Int32.le_iff_toInt_le, ← Int32.toInt_inj, tI0, tI1, tI2, tI3, tI4, tI6, tI14, tI59, tI60, tI127, tI1000, tI100000, tIm1, tIm2, tIm3, tIm4, tIbig] at c_1 c_2 c_3 c_4 c_6 ⊢ <;> omega)) | exact cnt_n0 (by (simp only [decide_eq_true_eq, decide_eq_false_iff_not, Bool.and_eq_true, Bool.and_eq_false_iff, Bool.or_eq_true, Bool.or_eq_false_iff, Bool.not_eq_true, Bool.not_eq_false, ne_eq, not_and, not_or, tog_t, tog_f, ahd_t, ahd_f, isoB_t, isoB_f, ixB_t, ixB_f, vOK_t, vOK_f, wOK_t, wOK_f, tn4, Int32.lt_iff_toInt_lt, Int32.le_iff_toInt_le, ← Int32.toInt_inj, tI0, tI1, tI2, tI3, tI4, tI6, tI14, tI59, tI60, tI127, tI1000, tI100000, tIm1, tIm2, tIm3, tIm4, tIbig] at c_1 c_2 c_3 c_4 c_6 ⊢ <;> omega))) (by first | rfl | first | exact cnt_y (by (simp only [decide_eq_true_eq, decide_eq_false_iff_not, Bool.and_eq_true, Bool.and_eq_false_iff, Bool.or_eq_true, Bool.or_eq_false_iff, Bool.not_eq_true, Bool.not_eq_false, ne_eq, not_and, not_or, tog_t, tog_f, ahd_t, ahd_f, isoB_t, isoB_f, ixB_t, ixB_f, vOK_t, vOK_f, wOK_t, wOK_f, tn4, Int32.lt_iff_toInt_lt, Int32.le_iff_toInt_le, ← Int32.toInt_inj, tI0, tI1, tI2, tI3, tI4, tI6, tI14, tI59, tI60, tI127, tI1000, tI100000, tIm1, tIm2, tIm3, tIm4, tIbig] at c_1 c_2 c_3 c_4 c_6 ⊢ <;> omega)) | exact cnt_y1 (by (simp only [decide_eq_true_eq, decide_eq_false_iff_not, Bool.and_eq_true, Bool.and_eq_false_iff, Bool.or_eq_true, Bool.or_eq_false_iff, Bool.not_eq_true, Bool.not_eq_false, ne_eq, not_and, not_or, tog_t, tog_f, ahd_t, ahd_f, isoB_t, isoB_f, ixB_t, ixB_f, vOK_t, vOK_f, wOK_t, wOK_f, tn4, Int32.lt_iff_toInt_lt, Int32.le_iff_toInt_le, ← Int32.toInt_inj, tI0, tI1, tI2, tI3, tI4, tI6, tI14, tI59, tI60, tI127, tI1000, tI100000, tIm1, tIm2, tIm3, tIm4, tIbig] at c_1 c_2 c_3 c_4 c_6 ⊢ <;> omega)) | exact cnt_n (by (simp only [decide_eq_true_eq, decide_eq_false_iff_not, Bool.and_eq_true, Bool.and_eq_false_iff, Bool.or_eq_true, Bool.or_eq_false_iff, Bool.not_eq_true, Bool.not_eq_false, ne_eq, not_and, not_or, tog_t, tog_f, ahd_t, ahd_f, isoB_t, isoB_f, ixB_t, ixB_f, vOK_t, vOK_f, wOK_t, wOK_f, tn4, Int32.lt_iff_toInt_lt, Int32.le_iff_toInt_le, ← Int32.toInt_inj, tI0, tI1, tI2, tI3, tI4, tI6, tI14, tI59, tI60, tI127, tI1000, tI100000, tIm1, tIm2, tIm3, tIm4, tIbig] at c_1 c_2 c_3 c_4 c_6 ⊢ <;> omega)) | exact cnt_n0 (by (simp only [decide_eq_true_eq, decide_eq_false_iff_not, Bool.and_eq_true, Bool.and_eq_false_iff, Bool.or_eq_true, Bool.or_eq_false_iff, Bool.not_eq_true, Bool.not_eq_false, ne_eq, not_and, not_or, tog_t, tog_f, ahd_t, ahd_f, isoB_t, isoB_f, ixB_t, ixB_f, vOK_t, vOK_f, wOK_t, wOK_f, tn4, Int32.lt_iff_toInt_lt, Int32.le_iff_toInt_le, ← Int32.toInt_inj, tI0, tI1, tI2, tI3, tI4, tI6, tI14, tI59, tI60, tI127, tI1000, tI100000, tIm1, tIm2, tIm3, tIm4, tIbig] at c_1 c_2 c_3 c_4 c_6 ⊢ <;> omega))) (by omega) (by first | exact fun _ => rfl | (intro hq; contradiction)) (by omega) (lv_sub hl [1, 2, 3, 0] rfl)
              · skip
                have c_6 : (tog F T x k) = true := b2i_1.mp c_6
                refine lv_iinc (v := nI ((cnt (fun j => decide (j ≠ x) && (decide (V j = V x) && tog F T x j)) k) + 1)) (lv' := [(2, .int (nI ((cnt (fun j => decide (j ≠ x) && (decide (V j = V x) && tog F T x j)) k) + 1))), (0, .ref (b 1)), (1, .int (nI x)), (3, .int (nI k))]) hx hb dX6_clashes_51 hl (k := 2) rfl (gk_inc1 _) (by decide) rfl (fun ls hl => ?_)
                refine lv_iinc (v := nI (k + 1)) (lv' := [(3, .int (nI (k + 1))), (2, .int (nI ((cnt (fun j => decide (j ≠ x) && (decide (V j = V x) && tog F T x j)) k) + 1))), (0, .ref (b 1)), (1, .int (nI x))]) hx hb dX6_clashes_54 hl (k := 3) rfl (gk_inc1 _) (by decide) rfl (fun ls hl => ?_)
                refine lv_goto (tgt := 4) hx hb dX6_clashes_57 (by decide) ?_
                exact ih4 (k + 1) _ _ ls (by first | rfl | first | exact cnt_y (by (simp only [decide_eq_true_eq, decide_eq_false_iff_not, Bool.and_eq_true, Bool.and_eq_false_iff, Bool.or_eq_true, Bool.or_eq_false_iff, Bool.not_eq_true, Bool.not_eq_false, ne_eq, not_and, not_or, tog_t, tog_f, ahd_t, ahd_f, isoB_t, isoB_f, ixB_t, ixB_f, vOK_t, vOK_f, wOK_t, wOK_f, tn4, Int32.lt_iff_toInt_lt, Int32.le_iff_toInt_le, ← Int32.toInt_inj, tI0, tI1, tI2, tI3, tI4, tI6, tI14, tI59, tI60, tI127, tI1000, tI100000, tIm1, tIm2, tIm3, tIm4, tIbig] at c_1 c_2 c_3 c_4 c_6 ⊢ <;> omega)) | exact cnt_y1 (by (simp only [decide_eq_true_eq, decide_eq_false_iff_not, Bool.and_eq_true, Bool.and_eq_false_iff, Bool.or_eq_true, Bool.or_eq_false_iff, Bool.not_eq_true, Bool.not_eq_false, ne_eq, not_and, not_or, tog_t, tog_f, ahd_t, ahd_f, isoB_t, isoB_f, ixB_t, ixB_f, vOK_t, vOK_f, wOK_t, wOK_f, tn4, Int32.lt_iff_toInt_lt, Int32.le_iff_toInt_le, ← Int32.toInt_inj, tI0, tI1, tI2, tI3, tI4, tI6, tI14, tI59, tI60, tI127, tI1000, tI100000, tIm1, tIm2, tIm3, tIm4, tIbig] at c_1 c_2 c_3 c_4 c_6 ⊢ <;> omega)) | exact cnt_n (by (simp only [decide_eq_true_eq, decide_eq_false_iff_not, Bool.and_eq_true, Bool.and_eq_false_iff, Bool.or_eq_true, Bool.or_eq_false_iff, Bool.not_eq_true, Bool.not_eq_false, ne_eq, not_and, not_or, tog_t, tog_f, ahd_t, ahd_f, isoB_t, isoB_f, ixB_t, ixB_f, vOK_t, vOK_f, wOK_t, wOK_f, tn4, Int32.lt_iff_toInt_lt, Int32.le_iff_toInt_le, ← Int32.toInt_inj, tI0, tI1, tI2, tI3, tI4, tI6, tI14, tI59, tI60, tI127, tI1000, tI100000, tIm1, tIm2, tIm3, tIm4, tIbig] at c_1 c_2 c_3 c_4 c_6 ⊢ <;> omega)) | exact cnt_n0 (by (simp only [decide_eq_true_eq, decide_eq_false_iff_not, Bool.and_eq_true, Bool.and_eq_false_iff, Bool.or_eq_true, Bool.or_eq_false_iff, Bool.not_eq_true, Bool.not_eq_false, ne_eq, not_and, not_or, tog_t, tog_f, ahd_t, ahd_f, isoB_t, isoB_f, ixB_t, ixB_f, vOK_t, vOK_f, wOK_t, wOK_f, tn4, Int32.lt_iff_toInt_lt, Int32.le_iff_toInt_le, ← Int32.toInt_inj, tI0, tI1, tI2, tI3, tI4, tI6, tI14, tI59, tI60, tI127, tI1000, tI100000, tIm1, tIm2, tIm3, tIm4, tIbig] at c_1 c_2 c_3 c_4 c_6 ⊢ <;> omega))) (by first | rfl | first | exact cnt_y (by (simp only [decide_eq_true_eq, decide_eq_false_iff_not, Bool.and_eq_true, Bool.and_eq_false_iff, Bool.or_eq_true, Bool.or_eq_false_iff, Bool.not_eq_true, Bool.not_eq_false, ne_eq, not_and, not_or, tog_t, tog_f, ahd_t, ahd_f, isoB_t, isoB_f, ixB_t, ixB_f, vOK_t, vOK_f, wOK_t, wOK_f, tn4, Int32.lt_iff_toInt_lt, Int32.le_iff_toInt_le, ← Int32.toInt_inj, tI0, tI1, tI2, tI3, tI4, tI6, tI14, tI59, tI60, tI127, tI1000, tI100000, tIm1, tIm2, tIm3, tIm4, tIbig] at c_1 c_2 c_3 c_4 c_6 ⊢ <;> omega)) | exact cnt_y1 (by (simp only [decide_eq_true_eq, decide_eq_false_iff_not, Bool.and_eq_true, Bool.and_eq_false_iff, Bool.or_eq_true, Bool.or_eq_false_iff, Bool.not_eq_true, Bool.not_eq_false, ne_eq, not_and, not_or, tog_t, tog_f, ahd_t, ahd_f, isoB_t, isoB_f, ixB_t, ixB_f, vOK_t, vOK_f, wOK_t, wOK_f, tn4, Int32.lt_iff_toInt_lt, Int32.le_iff_toInt_le, ← Int32.toInt_inj, tI0, tI1, tI2, tI3, tI4, tI6, tI14, tI59, tI60, tI127, tI1000, tI100000, tIm1, tIm2, tIm3, tIm4, tIbig] at c_1 c_2 c_3 c_4 c_6 ⊢ <;> omega)) | exact cnt_n (by (simp only [decide_eq_true_eq, decide_eq_false_iff_not, Bool.and_eq_true, Bool.and_eq_false_iff, Bool.or_eq_true, Bool.or_eq_false_iff, Bool.not_eq_true, Bool.not_eq_false, ne_eq, not_and, not_or, tog_t, tog_f, ahd_t, ahd_f, isoB_t, isoB_f, ixB_t, ixB_f, vOK_t, vOK_f, wOK_t, wOK_f, tn4, Int32.lt_iff_toInt_lt, Int32.le_iff_toInt_le, ← Int32.toInt_inj, tI0, tI1, tI2, tI3, tI4, tI6, tI14, tI59, tI60, tI127, tI1000, tI100000, tIm1, tIm2, tIm3, tIm4, tIbig] at c_1 c_2 c_3 c_4 c_6 ⊢ <;> omega)) | exact cnt_n0 (by (simp only [decide_eq_true_eq, decide_eq_false_iff_not, Bool.and_eq_true, Bool.and_eq_false_iff, Bool.or_eq_true, Bool.or_eq_false_iff, Bool.not_eq_true, Bool.not_eq_false, ne_eq, not_and, not_or, tog_t, tog_f, ahd_t, ahd_f, isoB_t, isoB_f, ixB_t, ixB_f, vOK_t, vOK_f, wOK_t, wOK_f, tn4, Int32.lt_iff_toInt_lt, Int32.le_iff_toInt_le, ← Int32.toInt_inj, tI0, tI1, tI2, tI3, tI4, tI6, tI14, tI59, tI60, tI127, tI1000, tI100000, tIm1, tIm2, tIm3, tIm4, tIbig] at c_1 c_2 c_3 c_4 c_6 ⊢ <;> omega))) (by omega) (by first | exact fun _ => rfl | (intro hq; contradiction)) (by omega) (lv_sub hl [2, 3, 1, 0] rfl)
  exact L4 ((n) + 1) 0 _ _ ls (by first | rfl | first | exact cnt_y (by (simp only [decide_eq_true_eq, decide_eq_false_iff_not, Bool.and_eq_true, Bool.and_eq_false_iff, Bool.or_eq_true, Bool.or_eq_false_iff, Bool.not_eq_true, Bool.not_eq_false, ne_eq, not_and, not_or, tog_t, tog_f, ahd_t, ahd_f, isoB_t, isoB_f, ixB_t, ixB_f, vOK_t, vOK_f, wOK_t, wOK_f, tn4, Int32.lt_iff_toInt_lt, Int32.le_iff_toInt_le, ← Int32.toInt_inj, tI0, tI1, tI2, tI3, tI4, tI6, tI14, tI59, tI60, tI127, tI1000, tI100000, tIm1, tIm2, tIm3, tIm4, tIbig] at  ⊢ <;> omega)) | exact cnt_y1 (by (simp only [decide_eq_true_eq, decide_eq_false_iff_not, Bool.and_eq_true, Bool.and_eq_false_iff, Bool.or_eq_true, Bool.or_eq_false_iff, Bool.not_eq_true, Bool.not_eq_false, ne_eq, not_and, not_or, tog_t, tog_f, ahd_t, ahd_f, isoB_t, isoB_f, ixB_t, ixB_f, vOK_t, vOK_f, wOK_t, wOK_f, tn4, Int32.lt_iff_toInt_lt, Int32.le_iff_toInt_le, ← Int32.toInt_inj, tI0, tI1, tI2, tI3, tI4, tI6, tI14, tI59, tI60, tI127, tI1000, tI100000, tIm1, tIm2, tIm3, tIm4, tIbig] at  ⊢ <;> omega)) | exact cnt_n (by (simp only [decide_eq_true_eq, decide_eq_false_iff_not, Bool.and_eq_true, Bool.and_eq_false_iff, Bool.or_eq_true, Bool.or_eq_false_iff, Bool.not_eq_true, Bool.not_eq_false, ne_eq, not_and, not_or, tog_t, tog_f, ahd_t, ahd_f, isoB_t, isoB_f, ixB_t, ixB_f, vOK_t, vOK_f, wOK_t, wOK_f, tn4, Int32.lt_iff_toInt_lt, Int32.le_iff_toInt_le, ← Int32.toInt_inj, tI0, tI1, tI2, tI3, tI4, tI6, tI14, tI59, tI60, tI127, tI1000, tI100000, tIm1, tIm2, tIm3, tIm4, tIbig] at  ⊢ <;> omega)) | exact cnt_n0 (by (simp only [decide_eq_true_eq, decide_eq_false_iff_not, Bool.and_eq_true, Bool.and_eq_false_iff, Bool.or_eq_true, Bool.or_eq_false_iff, Bool.not_eq_true, Bool.not_eq_false, ne_eq, not_and, not_or, tog_t, tog_f, ahd_t, ahd_f, isoB_t, isoB_f, ixB_t, ixB_f, vOK_t, vOK_f, wOK_t, wOK_f, tn4, Int32.lt_iff_toInt_lt, Int32.le_iff_toInt_le, ← Int32.toInt_inj, tI0, tI1, tI2, tI3, tI4, tI6, tI14, tI59, tI60, tI127, tI1000, tI100000, tIm1, tIm2, tIm3, tIm4, tIbig] at  ⊢ <;> omega))) (by first | rfl | first | exact cnt_y (by (simp only [decide_eq_true_eq, decide_eq_false_iff_not, Bool.and_eq_true, Bool.and_eq_false_iff, Bool.or_eq_true, Bool.or_eq_false_iff, Bool.not_eq_true, Bool.not_eq_false, ne_eq, not_and, not_or, tog_t, tog_f, ahd_t, ahd_f, isoB_t, isoB_f, ixB_t, ixB_f, vOK_t, vOK_f, wOK_t, wOK_f, tn4, Int32.lt_iff_toInt_lt, Int32.le_iff_toInt_le, ← Int32.toInt_inj, tI0, tI1, tI2, tI3, tI4, tI6, tI14, tI59, tI60, tI127, tI1000, tI100000, tIm1, tIm2, tIm3, tIm4, tIbig] at  ⊢ <;> omega)) | exact cnt_y1 (by (simp only [decide_eq_true_eq, decide_eq_false_iff_not, Bool.and_eq_true, Bool.and_eq_false_iff, Bool.or_eq_true, Bool.or_eq_false_iff, Bool.not_eq_true, Bool.not_eq_false, ne_eq, not_and, not_or, tog_t, tog_f, ahd_t, ahd_f, isoB_t, isoB_f, ixB_t, ixB_f, vOK_t, vOK_f, wOK_t, wOK_f, tn4, Int32.lt_iff_toInt_lt, Int32.le_iff_toInt_le, ← Int32.toInt_inj, tI0, tI1, tI2, tI3, tI4, tI6, tI14, tI59, tI60, tI127, tI1000, tI100000, tIm1, tIm2, tIm3, tIm4, tIbig] at  ⊢ <;> omega)) | exact cnt_n (by (simp only [decide_eq_true_eq, decide_eq_false_iff_not, Bool.and_eq_true, Bool.and_eq_false_iff, Bool.or_eq_true, Bool.or_eq_false_iff, Bool.not_eq_true, Bool.not_eq_false, ne_eq, not_and, not_or, tog_t, tog_f, ahd_t, ahd_f, isoB_t, isoB_f, ixB_t, ixB_f, vOK_t, vOK_f, wOK_t, wOK_f, tn4, Int32.lt_iff_toInt_lt, Int32.le_iff_toInt_le, ← Int32.toInt_inj, tI0, tI1, tI2, tI3, tI4, tI6, tI14, tI59, tI60, tI127, tI1000, tI100000, tIm1, tIm2, tIm3, tIm4, tIbig] at  ⊢ <;> omega)) | exact cnt_n0 (by (simp only [decide_eq_true_eq, decide_eq_false_iff_not, Bool.and_eq_true, Bool.and_eq_false_iff, Bool.or_eq_true, Bool.or_eq_false_iff, Bool.not_eq_true, Bool.not_eq_false, ne_eq, not_and, not_or, tog_t, tog_f, ahd_t, ahd_f, isoB_t, isoB_f, ixB_t, ixB_f, vOK_t, vOK_f, wOK_t, wOK_f, tn4, Int32.lt_iff_toInt_lt, Int32.le_iff_toInt_le, ← Int32.toInt_inj, tI0, tI1, tI2, tI3, tI4, tI6, tI14, tI59, tI60, tI127, tI1000, tI100000, tIm1, tIm2, tIm3, tIm4, tIbig] at  ⊢ <;> omega))) (by omega) (by first | exact fun _ => rfl | (intro hq; contradiction)) (by omega) (lv_sub hl [2, 3, 1, 0] rfl)

set_option maxHeartbeats 4000000 in
set_option maxRecDepth 100000 in
theorem c_X6_isWhole (l : Launch) (dC : Nat → ClassId) (dI : Nat → Nat → Nat) (cI : ClassId) (b : Nat → Nat) (n : Nat) (F T P V : Nat → Int32) (o kr : Nat → Nat) (hn : n ≤ 60) (ho : ∀ j, o j < 60) (hkr : ∀ j, j < n → kr j < n) : Met l yX6_isWhole wsX6_isWhole ({ frames := 1, cells := 0, slots := 0, locals := 22 } : Room) (va_Pc [.ref (b 1)] (fun U => va_P (dC, dI) vwCl (sW cI b (nI n) F T P V (fun j => nI (o j)) (fun j => nI (kr j))) U.heap ∧ va_K (dC, dI) vwCl [(cI, .int)] U)) (vp_Si (fun r => r = b2i (whC F T V o kr n))) 0 0 (fun _ => False) := by
  refine Met.ofW (cc := cX6_isWhole) (maxL := 3) (ret := (some .boolean)) (by decide) rfl ?_
  intro p e s m args below meth c s₁ B hml hv
  obtain ⟨rfl, hP, hK⟩ := hv
  have hx := B.exec
  have hb := B.bytes
  have hr := B.returns
  have hts := atoms_spec (ws := wsX6_isWhole) B.pre
  have hown : s.vm.findClass RX6 = some m.cls := findClass_of_methodNamed B.named
  have hlocks := B.notSynchronized
  have i_X6 : ∀ w ∈ u_ws RX6 TX6 7, w ∈ wsX6_isWhole := by decide +kernel
  have k_0 := hts (.fieldLink RX6 30 "VoiceRows$Score" "count" "I") (by decide +kernel)
  have k_1 := hts (.fieldLink RX6 21 "VoiceRows$Score" "voice" "[I") (by decide +kernel)
  have hl := lv_entry ([.ref (b 1)]) (n := 3) (Nat.le_of_ble_eq_true rfl)
  rw [lg_entry_eq]
  generalize (lg_sl ([.ref (b 1)]) ++ List.replicate (3 - (lg_sl ([.ref (b 1)])).length) Slot.unset).toArray = ls at hl ⊢
  have hl : lv_has ls 3 [(0, .ref (b 1))] := hl
  refine lv_iconst (v := 0) hx hb dX6_isWhole_0 (by decide) ?_
  refine lv_istore_n (lv' := [(1, .int 0), (0, .ref (b 1))]) hx hb dX6_isWhole_1 rfl hl (by decide) rfl (fun ls hl => ?_)
  have L2 : ∀ (fu : Nat) (k : Nat) (x1 : Int32) (ls : Array Slot), x1 = nI k → k ≤ n → allB (whp F T V o kr n) k = true → n - k < fu → lv_has ls 3 [(0, .ref (b 1)), (1, .int x1)] → W p l e (headSpec wsX6_isWhole ({ frames := 1, cells := 0, slots := 0, locals := 22 } : Room)).room s m [.ref (b 1)].toArray below meth c s.heap [] 0 0 (MQ below (vp_Si (fun r => r = b2i (whC F T V o kr n))) [.ref (b 1)].toArray s 0 0 (fun _ => False)) (F0 m 2 ls []) := by
    intro fu
    induction fu with
    | zero =>
      intro k x1 ls e1 hk1 ha1 hfu2 hl
      exact absurd hfu2 (Nat.not_lt_zero _)
    | succ fu ih2 =>
      intro k x1 ls e1 hk1 ha1 hfu2 hl
      subst e1
      refine lv_iload_n hx hb dX6_isWhole_2 rfl (lv_at hl 1 rfl) ?_
      refine lv_aload_n hx hb dX6_isWhole_3 rfl (lv_at hl 0 rfl) ?_
      refine va_get (D := (dC, dI)) (ci := 6) (v := .int (nI n)) (C := RX6) (T := TX6) (N := 7) hx hb hts i_X6 hown hK hP 0 rfl rfl 0 (by decide) k_0 (fun _ h9 => h9) rfl dX6_isWhole_4 ?_
      refine lv_icmp_ge (tgt := 48) hx hb dX6_isWhole_7 (by decide) (fun c_1 => ?_) (fun c_1 => ?_)
      · skip
        have c_1 : k ≥ n := gk_geT (a := k) (b := n) (by first | omega | exact Nat.lt_of_le_of_lt atN_le (by omega) | exact Nat.lt_of_le_of_lt szN_le (by omega) | exact Nat.lt_of_le_of_lt clM_le (by omega) | exact Nat.lt_of_le_of_lt rkN_le (by omega) | exact Nat.lt_of_le_of_lt (cnt_le _ _) (by omega)) (by first | omega | exact Nat.lt_of_le_of_lt atN_le (by omega) | exact Nat.lt_of_le_of_lt szN_le (by omega) | exact Nat.lt_of_le_of_lt clM_le (by omega) | exact Nat.lt_of_le_of_lt rkN_le (by omega) | exact Nat.lt_of_le_of_lt (cnt_le _ _) (by omega)) c_1
        refine lv_iconst (v := 1) hx hb dX6_isWhole_48 (by decide) ?_
        exact W.zret (v := 1) hx hb hr (rfl) (fun t ht _ => ⟨_, rfl, by first | exact b2i_f (allB_f (by omega) (whp_1 (by assumption))) | exact b2i_f (allB_f (by omega) (whp_2 (by assumption) (by assumption))) | exact b2i_t ((show k = n by omega) ▸ ha1), ht⟩) (fun q h => by cases h) dX6_isWhole_49
      · skip
        have c_1 : k < n := gk_geF (a := k) (b := n) (by first | omega | exact Nat.lt_of_le_of_lt atN_le (by omega) | exact Nat.lt_of_le_of_lt szN_le (by omega) | exact Nat.lt_of_le_of_lt clM_le (by omega) | exact Nat.lt_of_le_of_lt rkN_le (by omega) | exact Nat.lt_of_le_of_lt (cnt_le _ _) (by omega)) (by first | omega | exact Nat.lt_of_le_of_lt atN_le (by omega) | exact Nat.lt_of_le_of_lt szN_le (by omega) | exact Nat.lt_of_le_of_lt clM_le (by omega) | exact Nat.lt_of_le_of_lt rkN_le (by omega) | exact Nat.lt_of_le_of_lt (cnt_le _ _) (by omega)) c_1
        refine lv_aload_n hx hb dX6_isWhole_10 rfl (lv_at hl 0 rfl) ?_
        refine lv_iload_n hx hb dX6_isWhole_11 rfl (lv_at hl 1 rfl) ?_
        refine vp_callSi (gk_run (va_runV (As := [.int (nI k)]) (rest := []) ⟨hx, hb, hml, hown, hts⟩ (c_X6_following l dC dI cI b n F T P V o kr hn ho hkr k (by omega)) (cwV 1 hts gX6_isWhole_X6_following rfl rfl rfl (by decide +kernel) ⟨Nat.le_of_ble_eq_true rfl, Nat.le_of_ble_eq_true rfl⟩) ⟨gk_fb, va_recv hK hP (ci := 6) (q0 := 0) rfl rfl, fun U hU hW => ⟨rfl, by rw [hU]; exact hP, va_K.moved hW.alike hK⟩⟩ rfl rfl hl.1 rfl (lv_room (Nat.le_of_ble_eq_true rfl)) dX6_isWhole_12 ⟨Nat.zero_le _, Nat.zero_le _⟩)) (fun r_2 er_2 => ?_)
        subst er_2
        refine lv_istore_n (lv' := [(2, .int (oi (flC V o kr n k))), (0, .ref (b 1)), (1, .int (nI k))]) hx hb dX6_isWhole_15 rfl hl (by decide) rfl (fun ls hl => ?_)
        refine lv_aload_n hx hb dX6_isWhole_16 rfl (lv_at hl 1 rfl) ?_
        refine va_get (D := (dC, dI)) (ci := 6) (v := .ref (b 5)) (C := RX6) (T := TX6) (N := 7) hx hb hts i_X6 hown hK hP 0 rfl rfl 4 (by decide) k_1 (fun _ h9 => h9) rfl dX6_isWhole_17 ?_
        refine lv_iload_n hx hb dX6_isWhole_20 rfl (lv_at hl 2 rfl) ?_
        refine gk_ld hx hb hK hP 4 0 rfl rfl k (by omega) (by omega) (v := V k) (rfl) dX6_isWhole_21 ?_
        refine lv_iconst (v := (-1)) hx hb dX6_isWhole_22 (by decide) ?_
        refine lv_icmp_eq (tgt := 40) hx hb dX6_isWhole_23 (by decide) (fun c_3 => ?_) (fun c_3 => ?_)
        · skip
          refine lv_iconst (v := 0) hx hb dX6_isWhole_40 (by decide) ?_
          exact W.zret (v := 0) hx hb hr (rfl) (fun t ht _ => ⟨_, rfl, by first | exact b2i_f (allB_f (by omega) (whp_1 (by assumption))) | exact b2i_f (allB_f (by omega) (whp_2 (by assumption) (by assumption))) | exact b2i_t ((show k = n by omega) ▸ ha1), ht⟩) (fun q h => by cases h) dX6_isWhole_41
        · skip
          refine lv_iload_n hx hb dX6_isWhole_26 rfl (lv_at hl 0 rfl) ?_
          refine lv_iconst (v := (-1)) hx hb dX6_isWhole_27 (by decide) ?_
          refine lv_icmp_eq (tgt := 42) hx hb dX6_isWhole_28 (by decide) (fun c_4 => ?_) (fun c_4 => ?_)
          · skip
            have c_4 : (flC V o kr n k) = 0 := (oi_m1 (by exact Nat.lt_of_le_of_lt (flC_le ho) (by decide))).mp c_4
            refine lv_iinc (v := nI (k + 1)) (lv' := [(1, .int (nI (k + 1))), (2, .int (oi (flC V o kr n k))), (0, .ref (b 1))]) hx hb dX6_isWhole_42 hl (k := 2) rfl (gk_inc1 _) (by decide) rfl (fun ls hl => ?_)
            refine lv_goto (tgt := 2) hx hb dX6_isWhole_45 (by decide) ?_
            exact ih2 (k + 1) _ ls (by rfl) (by omega) (by first | rfl | exact allB_s ha1 (whp_3 (by assumption) (by assumption)) | exact allB_s ha1 (whp_4 (by assumption) (by assumption))) (by omega) (lv_sub hl [2, 0] rfl)
          · skip
            have c_4 : (flC V o kr n k) ≠ 0 := fun q => c_4 ((oi_m1 (by exact Nat.lt_of_le_of_lt (flC_le ho) (by decide))).mpr q)
            refine lv_aload_n hx hb dX6_isWhole_31 rfl (lv_at hl 1 rfl) ?_
            refine lv_iload_n hx hb dX6_isWhole_32 rfl (lv_at hl 2 rfl) ?_
            refine lv_iload_n hx hb dX6_isWhole_33 rfl (lv_at hl 0 rfl) ?_
            refine gk_top (y := nI (flC V o kr n k - 1)) (oi_pos (by assumption)) ?_
            refine vp_callSi (gk_run (va_runV (As := [.int (nI k), .int (nI (flC V o kr n k - 1))]) (rest := []) ⟨hx, hb, hml, hown, hts⟩ (c_X6_together l dC dI cI b n F T P V (fun j => nI (o j)) (fun j => nI (kr j)) hn k (flC V o kr n k - 1) (by omega) (by have := flC_le (V := V) (kr := kr) (n := n) (x := k) ho; omega)) (cwV 2 hts gX6_isWhole_X6_together rfl rfl rfl (by decide +kernel) ⟨Nat.le_of_ble_eq_true rfl, Nat.le_of_ble_eq_true rfl⟩) ⟨gk_fb, va_recv hK hP (ci := 6) (q0 := 0) rfl rfl, fun U hU hW => ⟨rfl, by rw [hU]; exact hP, va_K.moved hW.alike hK⟩⟩ rfl rfl hl.1 rfl (lv_room (Nat.le_of_ble_eq_true rfl)) dX6_isWhole_34 ⟨Nat.zero_le _, Nat.zero_le _⟩)) (fun r_5 er_5 => ?_)
            subst er_5
            refine lv_if_eq (tgt := 42) hx hb dX6_isWhole_37 (by decide) (fun c_6 => ?_) (fun c_6 => ?_)
            · skip
              have c_6 : (tog F T k (flC V o kr n k - 1)) = false := b2i_0.mp c_6
              refine lv_iinc (v := nI (k + 1)) (lv' := [(1, .int (nI (k + 1))), (2, .int (oi (flC V o kr n k))), (0, .ref (b 1))]) hx hb dX6_isWhole_42 hl (k := 2) rfl (gk_inc1 _) (by decide) rfl (fun ls hl => ?_)
              refine lv_goto (tgt := 2) hx hb dX6_isWhole_45 (by decide) ?_
              exact ih2 (k + 1) _ ls (by rfl) (by omega) (by first | rfl | exact allB_s ha1 (whp_3 (by assumption) (by assumption)) | exact allB_s ha1 (whp_4 (by assumption) (by assumption))) (by omega) (lv_sub hl [2, 0] rfl)
            · skip
              have c_6 : (tog F T k (flC V o kr n k - 1)) = true := b2i_1.mp c_6
              refine lv_iconst (v := 0) hx hb dX6_isWhole_40 (by decide) ?_
              exact W.zret (v := 0) hx hb hr (rfl) (fun t ht _ => ⟨_, rfl, by first | exact b2i_f (allB_f (by omega) (whp_1 (by assumption))) | exact b2i_f (allB_f (by omega) (whp_2 (by assumption) (by assumption))) | exact b2i_t ((show k = n by omega) ▸ ha1), ht⟩) (fun q h => by cases h) dX6_isWhole_41
  exact L2 ((n) + 1) 0 _ ls (by rfl) (by omega) (by first | rfl | exact allB_s ha1 (whp_3 (by assumption) (by assumption)) | exact allB_s ha1 (whp_4 (by assumption) (by assumption))) (by omega) (lv_sub hl [1, 0] rfl)

set_option maxHeartbeats 4000000 in
set_option maxRecDepth 100000 in
theorem c_X4_isUnder (l : Launch) (dC : Nat → ClassId) (dI : Nat → Nat → Nat) (cI : ClassId) (b : Nat → Nat) (n : Nat) (F T P V : Nat → Int32) (o kr : Nat → Nat) (hn : n ≤ 60) (ho : ∀ j, o j < 60) (p1 p2 : Int32) (x y : Nat) (hx0 : x < 60) (hy0 : y < 60) : Met l yX4_isUnder wsX4_isUnder ({ frames := 0, cells := 0, slots := 0, locals := 0 } : Room) (va_Pc [.ref (b 12), .int (nI x), .int (nI y)] (fun U => va_P (dC, dI) vwCl ((b 12, .inr (4, [.ref (b 1), .int p1, .int p2])) :: (sW cI b (nI n) F T P V (fun j => nI (o j)) (fun j => nI (kr j)))) U.heap ∧ va_K (dC, dI) vwCl [(cI, .int)] U)) (vp_Si (fun r => r = b2i (udB V P x y))) 0 0 (fun _ => False) := by
  refine Met.ofW (cc := cX4_isUnder) (maxL := 3) (ret := (some .boolean)) (by decide) rfl ?_
  intro p e s m args below meth c s₁ B hml hv
  obtain ⟨rfl, hP, hK⟩ := hv
  have hx := B.exec
  have hb := B.bytes
  have hr := B.returns
  have hts := atoms_spec (ws := wsX4_isUnder) B.pre
  have hown : s.vm.findClass RX4 = some m.cls := findClass_of_methodNamed B.named
  have hlocks := B.notSynchronized
  have i_X4 : ∀ w ∈ u_ws RX4 TX4 3, w ∈ wsX4_isUnder := by decide +kernel
  have i_X6 : ∀ w ∈ u_ws RX6 TX6 7, w ∈ wsX4_isUnder := by decide +kernel
  have k_0 := hts (.fieldLink RX4 9 "VoiceRows$PairRows" "score" "LVoiceRows$Score;") (by decide +kernel)
  have k_1 := hts (.fieldLink RX4 35 "VoiceRows$Score" "voice" "[I") (by decide +kernel)
  have k_2 := hts (.fieldLink RX4 51 "VoiceRows$Score" "pitch" "[I") (by decide +kernel)
  have hl := lv_entry ([.ref (b 12), .int (nI x), .int (nI y)]) (n := 3) (Nat.le_of_ble_eq_true rfl)
  rw [lg_entry_eq]
  generalize (lg_sl ([.ref (b 12), .int (nI x), .int (nI y)]) ++ List.replicate (3 - (lg_sl ([.ref (b 12), .int (nI x), .int (nI y)])).length) Slot.unset).toArray = ls at hl ⊢
  have hl : lv_has ls 3 [(0, .ref (b 12)), (1, .int (nI x)), (2, .int (nI y))] := hl
  refine lv_aload_n hx hb dX4_isUnder_0 rfl (lv_at hl 0 rfl) ?_
  refine va_get (D := (dC, dI)) (ci := 4) (v := .ref (b 1)) (C := RX4) (T := TX4) (N := 3) hx hb hts i_X4 hown hK hP 0 rfl rfl 0 (by decide) k_0 (fun _ h9 => h9) rfl dX4_isUnder_1 ?_
  refine va_get (D := (dC, dI)) (ci := 6) (v := .ref (b 5)) (C := RX6) (T := TX6) (N := 7) hx hb hts i_X6 hown hK hP 1 rfl rfl 4 (by decide) k_1 (fun _ h9 => h9) rfl dX4_isUnder_4 ?_
  refine lv_iload_n hx hb dX4_isUnder_7 rfl (lv_at hl 1 rfl) ?_
  refine gk_ld hx hb hK hP 5 0 rfl rfl x (by omega) (by omega) (v := V x) (rfl) dX4_isUnder_8 ?_
  refine lv_aload_n hx hb dX4_isUnder_9 rfl (lv_at hl 0 rfl) ?_
  refine va_get (D := (dC, dI)) (ci := 4) (v := .ref (b 1)) (C := RX4) (T := TX4) (N := 3) hx hb hts i_X4 hown hK hP 0 rfl rfl 0 (by decide) k_0 (fun _ h9 => h9) rfl dX4_isUnder_10 ?_
  refine va_get (D := (dC, dI)) (ci := 6) (v := .ref (b 5)) (C := RX6) (T := TX6) (N := 7) hx hb hts i_X6 hown hK hP 1 rfl rfl 4 (by decide) k_1 (fun _ h9 => h9) rfl dX4_isUnder_13 ?_
  refine lv_iload_n hx hb dX4_isUnder_16 rfl (lv_at hl 2 rfl) ?_
  refine gk_ld hx hb hK hP 5 0 rfl rfl y (by omega) (by omega) (v := V y) (rfl) dX4_isUnder_17 ?_
  refine lv_icmp_ge (tgt := 46) hx hb dX4_isUnder_18 (by decide) (fun c_1 => ?_) (fun c_1 => ?_)
  · skip
    refine lv_iconst (v := 0) hx hb dX4_isUnder_46 (by decide) ?_
    exact W.zret (v := 0) hx hb hr (rfl) (fun t ht _ => ⟨_, rfl, by unfold udB; first | exact b2i_t (by (simp only [decide_eq_true_eq, decide_eq_false_iff_not, Bool.and_eq_true, Bool.and_eq_false_iff, Bool.or_eq_true, Bool.or_eq_false_iff, Bool.not_eq_true, Bool.not_eq_false, ne_eq, not_and, not_or, tog_t, tog_f, ahd_t, ahd_f, isoB_t, isoB_f, ixB_t, ixB_f, vOK_t, vOK_f, wOK_t, wOK_f, tn4, Int32.lt_iff_toInt_lt, Int32.le_iff_toInt_le, ← Int32.toInt_inj, tI0, tI1, tI2, tI3, tI4, tI6, tI14, tI59, tI60, tI127, tI1000, tI100000, tIm1, tIm2, tIm3, tIm4, tIbig] at c_1 ⊢ <;> omega)) | exact b2i_f (by (simp only [decide_eq_true_eq, decide_eq_false_iff_not, Bool.and_eq_true, Bool.and_eq_false_iff, Bool.or_eq_true, Bool.or_eq_false_iff, Bool.not_eq_true, Bool.not_eq_false, ne_eq, not_and, not_or, tog_t, tog_f, ahd_t, ahd_f, isoB_t, isoB_f, ixB_t, ixB_f, vOK_t, vOK_f, wOK_t, wOK_f, tn4, Int32.lt_iff_toInt_lt, Int32.le_iff_toInt_le, ← Int32.toInt_inj, tI0, tI1, tI2, tI3, tI4, tI6, tI14, tI59, tI60, tI127, tI1000, tI100000, tIm1, tIm2, tIm3, tIm4, tIbig] at c_1 ⊢ <;> omega)), ht⟩) (fun q h => by cases h) dX4_isUnder_47
  · skip
    refine lv_aload_n hx hb dX4_isUnder_21 rfl (lv_at hl 0 rfl) ?_
    refine va_get (D := (dC, dI)) (ci := 4) (v := .ref (b 1)) (C := RX4) (T := TX4) (N := 3) hx hb hts i_X4 hown hK hP 0 rfl rfl 0 (by decide) k_0 (fun _ h9 => h9) rfl dX4_isUnder_22 ?_
    refine va_get (D := (dC, dI)) (ci := 6) (v := .ref (b 4)) (C := RX6) (T := TX6) (N := 7) hx hb hts i_X6 hown hK hP 1 rfl rfl 3 (by decide) k_2 (fun _ h9 => h9) rfl dX4_isUnder_25 ?_
    refine lv_iload_n hx hb dX4_isUnder_28 rfl (lv_at hl 1 rfl) ?_
    refine gk_ld hx hb hK hP 4 0 rfl rfl x (by omega) (by omega) (v := P x) (rfl) dX4_isUnder_29 ?_
    refine lv_aload_n hx hb dX4_isUnder_30 rfl (lv_at hl 0 rfl) ?_
    refine va_get (D := (dC, dI)) (ci := 4) (v := .ref (b 1)) (C := RX4) (T := TX4) (N := 3) hx hb hts i_X4 hown hK hP 0 rfl rfl 0 (by decide) k_0 (fun _ h9 => h9) rfl dX4_isUnder_31 ?_
    refine va_get (D := (dC, dI)) (ci := 6) (v := .ref (b 4)) (C := RX6) (T := TX6) (N := 7) hx hb hts i_X6 hown hK hP 1 rfl rfl 3 (by decide) k_2 (fun _ h9 => h9) rfl dX4_isUnder_34 ?_
    refine lv_iload_n hx hb dX4_isUnder_37 rfl (lv_at hl 2 rfl) ?_
    refine gk_ld hx hb hK hP 4 0 rfl rfl y (by omega) (by omega) (v := P y) (rfl) dX4_isUnder_38 ?_
    refine lv_icmp_ge (tgt := 46) hx hb dX4_isUnder_39 (by decide) (fun c_2 => ?_) (fun c_2 => ?_)
    · skip
      refine lv_iconst (v := 0) hx hb dX4_isUnder_46 (by decide) ?_
      exact W.zret (v := 0) hx hb hr (rfl) (fun t ht _ => ⟨_, rfl, by unfold udB; first | exact b2i_t (by (simp only [decide_eq_true_eq, decide_eq_false_iff_not, Bool.and_eq_true, Bool.and_eq_false_iff, Bool.or_eq_true, Bool.or_eq_false_iff, Bool.not_eq_true, Bool.not_eq_false, ne_eq, not_and, not_or, tog_t, tog_f, ahd_t, ahd_f, isoB_t, isoB_f, ixB_t, ixB_f, vOK_t, vOK_f, wOK_t, wOK_f, tn4, Int32.lt_iff_toInt_lt, Int32.le_iff_toInt_le, ← Int32.toInt_inj, tI0, tI1, tI2, tI3, tI4, tI6, tI14, tI59, tI60, tI127, tI1000, tI100000, tIm1, tIm2, tIm3, tIm4, tIbig] at c_1 c_2 ⊢ <;> omega)) | exact b2i_f (by (simp only [decide_eq_true_eq, decide_eq_false_iff_not, Bool.and_eq_true, Bool.and_eq_false_iff, Bool.or_eq_true, Bool.or_eq_false_iff, Bool.not_eq_true, Bool.not_eq_false, ne_eq, not_and, not_or, tog_t, tog_f, ahd_t, ahd_f, isoB_t, isoB_f, ixB_t, ixB_f, vOK_t, vOK_f, wOK_t, wOK_f, tn4, Int32.lt_iff_toInt_lt, Int32.le_iff_toInt_le, ← Int32.toInt_inj, tI0, tI1, tI2, tI3, tI4, tI6, tI14, tI59, tI60, tI127, tI1000, tI100000, tIm1, tIm2, tIm3, tIm4, tIbig] at c_1 c_2 ⊢ <;> omega)), ht⟩) (fun q h => by cases h) dX4_isUnder_47
    · skip
      refine lv_iconst (v := 1) hx hb dX4_isUnder_42 (by decide) ?_
      refine lv_goto (tgt := 47) hx hb dX4_isUnder_43 (by decide) ?_
      exact W.zret (v := 1) hx hb hr (rfl) (fun t ht _ => ⟨_, rfl, by unfold udB; first | exact b2i_t (by (simp only [decide_eq_true_eq, decide_eq_false_iff_not, Bool.and_eq_true, Bool.and_eq_false_iff, Bool.or_eq_true, Bool.or_eq_false_iff, Bool.not_eq_true, Bool.not_eq_false, ne_eq, not_and, not_or, tog_t, tog_f, ahd_t, ahd_f, isoB_t, isoB_f, ixB_t, ixB_f, vOK_t, vOK_f, wOK_t, wOK_f, tn4, Int32.lt_iff_toInt_lt, Int32.le_iff_toInt_le, ← Int32.toInt_inj, tI0, tI1, tI2, tI3, tI4, tI6, tI14, tI59, tI60, tI127, tI1000, tI100000, tIm1, tIm2, tIm3, tIm4, tIbig] at c_1 c_2 ⊢ <;> omega)) | exact b2i_f (by (simp only [decide_eq_true_eq, decide_eq_false_iff_not, Bool.and_eq_true, Bool.and_eq_false_iff, Bool.or_eq_true, Bool.or_eq_false_iff, Bool.not_eq_true, Bool.not_eq_false, ne_eq, not_and, not_or, tog_t, tog_f, ahd_t, ahd_f, isoB_t, isoB_f, ixB_t, ixB_f, vOK_t, vOK_f, wOK_t, wOK_f, tn4, Int32.lt_iff_toInt_lt, Int32.le_iff_toInt_le, ← Int32.toInt_inj, tI0, tI1, tI2, tI3, tI4, tI6, tI14, tI59, tI60, tI127, tI1000, tI100000, tIm1, tIm2, tIm3, tIm4, tIbig] at c_1 c_2 ⊢ <;> omega)), ht⟩) (fun q h => by cases h) dX4_isUnder_47

set_option maxHeartbeats 4000000 in
set_option maxRecDepth 100000 in
theorem c_X4_doMeet (l : Launch) (dC : Nat → ClassId) (dI : Nat → Nat → Nat) (cI : ClassId) (b : Nat → Nat) (n : Nat) (F T P V : Nat → Int32) (o kr : Nat → Nat) (hn : n ≤ 60) (ho : ∀ j, o j < 60) (p1 p2 : Int32) (x y : Nat) (hx0 : x < 60) (hy0 : y < 60) : Met l yX4_doMeet wsX4_doMeet ({ frames := 0, cells := 0, slots := 0, locals := 0 } : Room) (va_Pc [.ref (b 12), .int (nI x), .int (nI y)] (fun U => va_P (dC, dI) vwCl ((b 12, .inr (4, [.ref (b 1), .int p1, .int p2])) :: (sW cI b (nI n) F T P V (fun j => nI (o j)) (fun j => nI (kr j)))) U.heap ∧ va_K (dC, dI) vwCl [(cI, .int)] U)) (vp_Si (fun r => r = b2i (dmB V P x y))) 0 0 (fun _ => False) := by
  refine Met.ofW (cc := cX4_doMeet) (maxL := 3) (ret := (some .boolean)) (by decide) rfl ?_
  intro p e s m args below meth c s₁ B hml hv
  obtain ⟨rfl, hP, hK⟩ := hv
  have hx := B.exec
  have hb := B.bytes
  have hr := B.returns
  have hts := atoms_spec (ws := wsX4_doMeet) B.pre
  have hown : s.vm.findClass RX4 = some m.cls := findClass_of_methodNamed B.named
  have hlocks := B.notSynchronized
  have i_X4 : ∀ w ∈ u_ws RX4 TX4 3, w ∈ wsX4_doMeet := by decide +kernel
  have i_X6 : ∀ w ∈ u_ws RX6 TX6 7, w ∈ wsX4_doMeet := by decide +kernel
  have k_0 := hts (.fieldLink RX4 9 "VoiceRows$PairRows" "score" "LVoiceRows$Score;") (by decide +kernel)
  have k_1 := hts (.fieldLink RX4 35 "VoiceRows$Score" "voice" "[I") (by decide +kernel)
  have k_2 := hts (.fieldLink RX4 51 "VoiceRows$Score" "pitch" "[I") (by decide +kernel)
  have hl := lv_entry ([.ref (b 12), .int (nI x), .int (nI y)]) (n := 3) (Nat.le_of_ble_eq_true rfl)
  rw [lg_entry_eq]
  generalize (lg_sl ([.ref (b 12), .int (nI x), .int (nI y)]) ++ List.replicate (3 - (lg_sl ([.ref (b 12), .int (nI x), .int (nI y)])).length) Slot.unset).toArray = ls at hl ⊢
  have hl : lv_has ls 3 [(0, .ref (b 12)), (1, .int (nI x)), (2, .int (nI y))] := hl
  refine lv_aload_n hx hb dX4_doMeet_0 rfl (lv_at hl 0 rfl) ?_
  refine va_get (D := (dC, dI)) (ci := 4) (v := .ref (b 1)) (C := RX4) (T := TX4) (N := 3) hx hb hts i_X4 hown hK hP 0 rfl rfl 0 (by decide) k_0 (fun _ h9 => h9) rfl dX4_doMeet_1 ?_
  refine va_get (D := (dC, dI)) (ci := 6) (v := .ref (b 5)) (C := RX6) (T := TX6) (N := 7) hx hb hts i_X6 hown hK hP 1 rfl rfl 4 (by decide) k_1 (fun _ h9 => h9) rfl dX4_doMeet_4 ?_
  refine lv_iload_n hx hb dX4_doMeet_7 rfl (lv_at hl 1 rfl) ?_
  refine gk_ld hx hb hK hP 5 0 rfl rfl x (by omega) (by omega) (v := V x) (rfl) dX4_doMeet_8 ?_
  refine lv_aload_n hx hb dX4_doMeet_9 rfl (lv_at hl 0 rfl) ?_
  refine va_get (D := (dC, dI)) (ci := 4) (v := .ref (b 1)) (C := RX4) (T := TX4) (N := 3) hx hb hts i_X4 hown hK hP 0 rfl rfl 0 (by decide) k_0 (fun _ h9 => h9) rfl dX4_doMeet_10 ?_
  refine va_get (D := (dC, dI)) (ci := 6) (v := .ref (b 5)) (C := RX6) (T := TX6) (N := 7) hx hb hts i_X6 hown hK hP 1 rfl rfl 4 (by decide) k_1 (fun _ h9 => h9) rfl dX4_doMeet_13 ?_
  refine lv_iload_n hx hb dX4_doMeet_16 rfl (lv_at hl 2 rfl) ?_
  refine gk_ld hx hb hK hP 5 0 rfl rfl y (by omega) (by omega) (v := V y) (rfl) dX4_doMeet_17 ?_
  refine lv_icmp_eq (tgt := 46) hx hb dX4_doMeet_18 (by decide) (fun c_1 => ?_) (fun c_1 => ?_)
  · skip
    refine lv_iconst (v := 0) hx hb dX4_doMeet_46 (by decide) ?_
    exact W.zret (v := 0) hx hb hr (rfl) (fun t ht _ => ⟨_, rfl, by unfold dmB; first | exact b2i_t (by (simp only [decide_eq_true_eq, decide_eq_false_iff_not, Bool.and_eq_true, Bool.and_eq_false_iff, Bool.or_eq_true, Bool.or_eq_false_iff, Bool.not_eq_true, Bool.not_eq_false, ne_eq, not_and, not_or, tog_t, tog_f, ahd_t, ahd_f, isoB_t, isoB_f, ixB_t, ixB_f, vOK_t, vOK_f, wOK_t, wOK_f, tn4, Int32.lt_iff_toInt_lt, Int32.le_iff_toInt_le, ← Int32.toInt_inj, tI0, tI1, tI2, tI3, tI4, tI6, tI14, tI59, tI60, tI127, tI1000, tI100000, tIm1, tIm2, tIm3, tIm4, tIbig] at c_1 ⊢ <;> omega)) | exact b2i_f (by (simp only [decide_eq_true_eq, decide_eq_false_iff_not, Bool.and_eq_true, Bool.and_eq_false_iff, Bool.or_eq_true, Bool.or_eq_false_iff, Bool.not_eq_true, Bool.not_eq_false, ne_eq, not_and, not_or, tog_t, tog_f, ahd_t, ahd_f, isoB_t, isoB_f, ixB_t, ixB_f, vOK_t, vOK_f, wOK_t, wOK_f, tn4, Int32.lt_iff_toInt_lt, Int32.le_iff_toInt_le, ← Int32.toInt_inj, tI0, tI1, tI2, tI3, tI4, tI6, tI14, tI59, tI60, tI127, tI1000, tI100000, tIm1, tIm2, tIm3, tIm4, tIbig] at c_1 ⊢ <;> omega)), ht⟩) (fun q h => by cases h) dX4_doMeet_47
  · skip
    refine lv_aload_n hx hb dX4_doMeet_21 rfl (lv_at hl 0 rfl) ?_
    refine va_get (D := (dC, dI)) (ci := 4) (v := .ref (b 1)) (C := RX4) (T := TX4) (N := 3) hx hb hts i_X4 hown hK hP 0 rfl rfl 0 (by decide) k_0 (fun _ h9 => h9) rfl dX4_doMeet_22 ?_
    refine va_get (D := (dC, dI)) (ci := 6) (v := .ref (b 4)) (C := RX6) (T := TX6) (N := 7) hx hb hts i_X6 hown hK hP 1 rfl rfl 3 (by decide) k_2 (fun _ h9 => h9) rfl dX4_doMeet_25 ?_
    refine lv_iload_n hx hb dX4_doMeet_28 rfl (lv_at hl 1 rfl) ?_
    refine gk_ld hx hb hK hP 4 0 rfl rfl x (by omega) (by omega) (v := P x) (rfl) dX4_doMeet_29 ?_
    refine lv_aload_n hx hb dX4_doMeet_30 rfl (lv_at hl 0 rfl) ?_
    refine va_get (D := (dC, dI)) (ci := 4) (v := .ref (b 1)) (C := RX4) (T := TX4) (N := 3) hx hb hts i_X4 hown hK hP 0 rfl rfl 0 (by decide) k_0 (fun _ h9 => h9) rfl dX4_doMeet_31 ?_
    refine va_get (D := (dC, dI)) (ci := 6) (v := .ref (b 4)) (C := RX6) (T := TX6) (N := 7) hx hb hts i_X6 hown hK hP 1 rfl rfl 3 (by decide) k_2 (fun _ h9 => h9) rfl dX4_doMeet_34 ?_
    refine lv_iload_n hx hb dX4_doMeet_37 rfl (lv_at hl 2 rfl) ?_
    refine gk_ld hx hb hK hP 4 0 rfl rfl y (by omega) (by omega) (v := P y) (rfl) dX4_doMeet_38 ?_
    refine lv_icmp_ne (tgt := 46) hx hb dX4_doMeet_39 (by decide) (fun c_2 => ?_) (fun c_2 => ?_)
    · skip
      refine lv_iconst (v := 0) hx hb dX4_doMeet_46 (by decide) ?_
      exact W.zret (v := 0) hx hb hr (rfl) (fun t ht _ => ⟨_, rfl, by unfold dmB; first | exact b2i_t (by (simp only [decide_eq_true_eq, decide_eq_false_iff_not, Bool.and_eq_true, Bool.and_eq_false_iff, Bool.or_eq_true, Bool.or_eq_false_iff, Bool.not_eq_true, Bool.not_eq_false, ne_eq, not_and, not_or, tog_t, tog_f, ahd_t, ahd_f, isoB_t, isoB_f, ixB_t, ixB_f, vOK_t, vOK_f, wOK_t, wOK_f, tn4, Int32.lt_iff_toInt_lt, Int32.le_iff_toInt_le, ← Int32.toInt_inj, tI0, tI1, tI2, tI3, tI4, tI6, tI14, tI59, tI60, tI127, tI1000, tI100000, tIm1, tIm2, tIm3, tIm4, tIbig] at c_1 c_2 ⊢ <;> omega)) | exact b2i_f (by (simp only [decide_eq_true_eq, decide_eq_false_iff_not, Bool.and_eq_true, Bool.and_eq_false_iff, Bool.or_eq_true, Bool.or_eq_false_iff, Bool.not_eq_true, Bool.not_eq_false, ne_eq, not_and, not_or, tog_t, tog_f, ahd_t, ahd_f, isoB_t, isoB_f, ixB_t, ixB_f, vOK_t, vOK_f, wOK_t, wOK_f, tn4, Int32.lt_iff_toInt_lt, Int32.le_iff_toInt_le, ← Int32.toInt_inj, tI0, tI1, tI2, tI3, tI4, tI6, tI14, tI59, tI60, tI127, tI1000, tI100000, tIm1, tIm2, tIm3, tIm4, tIbig] at c_1 c_2 ⊢ <;> omega)), ht⟩) (fun q h => by cases h) dX4_doMeet_47
    · skip
      refine lv_iconst (v := 1) hx hb dX4_doMeet_42 (by decide) ?_
      refine lv_goto (tgt := 47) hx hb dX4_doMeet_43 (by decide) ?_
      exact W.zret (v := 1) hx hb hr (rfl) (fun t ht _ => ⟨_, rfl, by unfold dmB; first | exact b2i_t (by (simp only [decide_eq_true_eq, decide_eq_false_iff_not, Bool.and_eq_true, Bool.and_eq_false_iff, Bool.or_eq_true, Bool.or_eq_false_iff, Bool.not_eq_true, Bool.not_eq_false, ne_eq, not_and, not_or, tog_t, tog_f, ahd_t, ahd_f, isoB_t, isoB_f, ixB_t, ixB_f, vOK_t, vOK_f, wOK_t, wOK_f, tn4, Int32.lt_iff_toInt_lt, Int32.le_iff_toInt_le, ← Int32.toInt_inj, tI0, tI1, tI2, tI3, tI4, tI6, tI14, tI59, tI60, tI127, tI1000, tI100000, tIm1, tIm2, tIm3, tIm4, tIbig] at c_1 c_2 ⊢ <;> omega)) | exact b2i_f (by (simp only [decide_eq_true_eq, decide_eq_false_iff_not, Bool.and_eq_true, Bool.and_eq_false_iff, Bool.or_eq_true, Bool.or_eq_false_iff, Bool.not_eq_true, Bool.not_eq_false, ne_eq, not_and, not_or, tog_t, tog_f, ahd_t, ahd_f, isoB_t, isoB_f, ixB_t, ixB_f, vOK_t, vOK_f, wOK_t, wOK_f, tn4, Int32.lt_iff_toInt_lt, Int32.le_iff_toInt_le, ← Int32.toInt_inj, tI0, tI1, tI2, tI3, tI4, tI6, tI14, tI59, tI60, tI127, tI1000, tI100000, tIm1, tIm2, tIm3, tIm4, tIbig] at c_1 c_2 ⊢ <;> omega)), ht⟩) (fun q h => by cases h) dX4_doMeet_47

set_option maxHeartbeats 4000000 in
set_option maxRecDepth 100000 in
theorem c_X4_sameSpan (l : Launch) (dC : Nat → ClassId) (dI : Nat → Nat → Nat) (cI : ClassId) (b : Nat → Nat) (n : Nat) (F T P V : Nat → Int32) (o kr : Nat → Nat) (hn : n ≤ 60) (ho : ∀ j, o j < 60) (p1 p2 : Int32) (x y : Nat) (hx0 : x < 60) (hy0 : y < 60) : Met l yX4_sameSpan wsX4_sameSpan ({ frames := 0, cells := 0, slots := 0, locals := 0 } : Room) (va_Pc [.ref (b 12), .int (nI x), .int (nI y)] (fun U => va_P (dC, dI) vwCl ((b 12, .inr (4, [.ref (b 1), .int p1, .int p2])) :: (sW cI b (nI n) F T P V (fun j => nI (o j)) (fun j => nI (kr j)))) U.heap ∧ va_K (dC, dI) vwCl [(cI, .int)] U)) (vp_Si (fun r => r = b2i (ssB F T x y))) 0 0 (fun _ => False) := by
  refine Met.ofW (cc := cX4_sameSpan) (maxL := 3) (ret := (some .boolean)) (by decide) rfl ?_
  intro p e s m args below meth c s₁ B hml hv
  obtain ⟨rfl, hP, hK⟩ := hv
  have hx := B.exec
  have hb := B.bytes
  have hr := B.returns
  have hts := atoms_spec (ws := wsX4_sameSpan) B.pre
  have hown : s.vm.findClass RX4 = some m.cls := findClass_of_methodNamed B.named
  have hlocks := B.notSynchronized
  have i_X4 : ∀ w ∈ u_ws RX4 TX4 3, w ∈ wsX4_sameSpan := by decide +kernel
  have i_X6 : ∀ w ∈ u_ws RX6 TX6 7, w ∈ wsX4_sameSpan := by decide +kernel
  have k_0 := hts (.fieldLink RX4 9 "VoiceRows$PairRows" "score" "LVoiceRows$Score;") (by decide +kernel)
  have k_1 := hts (.fieldLink RX4 54 "VoiceRows$Score" "from" "[I") (by decide +kernel)
  have k_2 := hts (.fieldLink RX4 57 "VoiceRows$Score" "to" "[I") (by decide +kernel)
  have hl := lv_entry ([.ref (b 12), .int (nI x), .int (nI y)]) (n := 3) (Nat.le_of_ble_eq_true rfl)
  rw [lg_entry_eq]
  generalize (lg_sl ([.ref (b 12), .int (nI x), .int (nI y)]) ++ List.replicate (3 - (lg_sl ([.ref (b 12), .int (nI x), .int (nI y)])).length) Slot.unset).toArray = ls at hl ⊢
  have hl : lv_has ls 3 [(0, .ref (b 12)), (1, .int (nI x)), (2, .int (nI y))] := hl
  refine lv_aload_n hx hb dX4_sameSpan_0 rfl (lv_at hl 0 rfl) ?_
  refine va_get (D := (dC, dI)) (ci := 4) (v := .ref (b 1)) (C := RX4) (T := TX4) (N := 3) hx hb hts i_X4 hown hK hP 0 rfl rfl 0 (by decide) k_0 (fun _ h9 => h9) rfl dX4_sameSpan_1 ?_
  refine va_get (D := (dC, dI)) (ci := 6) (v := .ref (b 2)) (C := RX6) (T := TX6) (N := 7) hx hb hts i_X6 hown hK hP 1 rfl rfl 1 (by decide) k_1 (fun _ h9 => h9) rfl dX4_sameSpan_4 ?_
  refine lv_iload_n hx hb dX4_sameSpan_7 rfl (lv_at hl 1 rfl) ?_
  refine gk_ld hx hb hK hP 2 0 rfl rfl x (by omega) (by omega) (v := F x) (rfl) dX4_sameSpan_8 ?_
  refine lv_aload_n hx hb dX4_sameSpan_9 rfl (lv_at hl 0 rfl) ?_
  refine va_get (D := (dC, dI)) (ci := 4) (v := .ref (b 1)) (C := RX4) (T := TX4) (N := 3) hx hb hts i_X4 hown hK hP 0 rfl rfl 0 (by decide) k_0 (fun _ h9 => h9) rfl dX4_sameSpan_10 ?_
  refine va_get (D := (dC, dI)) (ci := 6) (v := .ref (b 2)) (C := RX6) (T := TX6) (N := 7) hx hb hts i_X6 hown hK hP 1 rfl rfl 1 (by decide) k_1 (fun _ h9 => h9) rfl dX4_sameSpan_13 ?_
  refine lv_iload_n hx hb dX4_sameSpan_16 rfl (lv_at hl 2 rfl) ?_
  refine gk_ld hx hb hK hP 2 0 rfl rfl y (by omega) (by omega) (v := F y) (rfl) dX4_sameSpan_17 ?_
  refine lv_icmp_ne (tgt := 46) hx hb dX4_sameSpan_18 (by decide) (fun c_1 => ?_) (fun c_1 => ?_)
  · skip
    refine lv_iconst (v := 0) hx hb dX4_sameSpan_46 (by decide) ?_
    exact W.zret (v := 0) hx hb hr (rfl) (fun t ht _ => ⟨_, rfl, by unfold ssB; first | exact b2i_t (by (simp only [decide_eq_true_eq, decide_eq_false_iff_not, Bool.and_eq_true, Bool.and_eq_false_iff, Bool.or_eq_true, Bool.or_eq_false_iff, Bool.not_eq_true, Bool.not_eq_false, ne_eq, not_and, not_or, tog_t, tog_f, ahd_t, ahd_f, isoB_t, isoB_f, ixB_t, ixB_f, vOK_t, vOK_f, wOK_t, wOK_f, tn4, Int32.lt_iff_toInt_lt, Int32.le_iff_toInt_le, ← Int32.toInt_inj, tI0, tI1, tI2, tI3, tI4, tI6, tI14, tI59, tI60, tI127, tI1000, tI100000, tIm1, tIm2, tIm3, tIm4, tIbig] at c_1 ⊢ <;> omega)) | exact b2i_f (by (simp only [decide_eq_true_eq, decide_eq_false_iff_not, Bool.and_eq_true, Bool.and_eq_false_iff, Bool.or_eq_true, Bool.or_eq_false_iff, Bool.not_eq_true, Bool.not_eq_false, ne_eq, not_and, not_or, tog_t, tog_f, ahd_t, ahd_f, isoB_t, isoB_f, ixB_t, ixB_f, vOK_t, vOK_f, wOK_t, wOK_f, tn4, Int32.lt_iff_toInt_lt, Int32.le_iff_toInt_le, ← Int32.toInt_inj, tI0, tI1, tI2, tI3, tI4, tI6, tI14, tI59, tI60, tI127, tI1000, tI100000, tIm1, tIm2, tIm3, tIm4, tIbig] at c_1 ⊢ <;> omega)), ht⟩) (fun q h => by cases h) dX4_sameSpan_47
  · skip
    refine lv_aload_n hx hb dX4_sameSpan_21 rfl (lv_at hl 0 rfl) ?_
    refine va_get (D := (dC, dI)) (ci := 4) (v := .ref (b 1)) (C := RX4) (T := TX4) (N := 3) hx hb hts i_X4 hown hK hP 0 rfl rfl 0 (by decide) k_0 (fun _ h9 => h9) rfl dX4_sameSpan_22 ?_
    refine va_get (D := (dC, dI)) (ci := 6) (v := .ref (b 3)) (C := RX6) (T := TX6) (N := 7) hx hb hts i_X6 hown hK hP 1 rfl rfl 2 (by decide) k_2 (fun _ h9 => h9) rfl dX4_sameSpan_25 ?_
    refine lv_iload_n hx hb dX4_sameSpan_28 rfl (lv_at hl 1 rfl) ?_
    refine gk_ld hx hb hK hP 3 0 rfl rfl x (by omega) (by omega) (v := T x) (rfl) dX4_sameSpan_29 ?_
    refine lv_aload_n hx hb dX4_sameSpan_30 rfl (lv_at hl 0 rfl) ?_
    refine va_get (D := (dC, dI)) (ci := 4) (v := .ref (b 1)) (C := RX4) (T := TX4) (N := 3) hx hb hts i_X4 hown hK hP 0 rfl rfl 0 (by decide) k_0 (fun _ h9 => h9) rfl dX4_sameSpan_31 ?_
    refine va_get (D := (dC, dI)) (ci := 6) (v := .ref (b 3)) (C := RX6) (T := TX6) (N := 7) hx hb hts i_X6 hown hK hP 1 rfl rfl 2 (by decide) k_2 (fun _ h9 => h9) rfl dX4_sameSpan_34 ?_
    refine lv_iload_n hx hb dX4_sameSpan_37 rfl (lv_at hl 2 rfl) ?_
    refine gk_ld hx hb hK hP 3 0 rfl rfl y (by omega) (by omega) (v := T y) (rfl) dX4_sameSpan_38 ?_
    refine lv_icmp_ne (tgt := 46) hx hb dX4_sameSpan_39 (by decide) (fun c_2 => ?_) (fun c_2 => ?_)
    · skip
      refine lv_iconst (v := 0) hx hb dX4_sameSpan_46 (by decide) ?_
      exact W.zret (v := 0) hx hb hr (rfl) (fun t ht _ => ⟨_, rfl, by unfold ssB; first | exact b2i_t (by (simp only [decide_eq_true_eq, decide_eq_false_iff_not, Bool.and_eq_true, Bool.and_eq_false_iff, Bool.or_eq_true, Bool.or_eq_false_iff, Bool.not_eq_true, Bool.not_eq_false, ne_eq, not_and, not_or, tog_t, tog_f, ahd_t, ahd_f, isoB_t, isoB_f, ixB_t, ixB_f, vOK_t, vOK_f, wOK_t, wOK_f, tn4, Int32.lt_iff_toInt_lt, Int32.le_iff_toInt_le, ← Int32.toInt_inj, tI0, tI1, tI2, tI3, tI4, tI6, tI14, tI59, tI60, tI127, tI1000, tI100000, tIm1, tIm2, tIm3, tIm4, tIbig] at c_1 c_2 ⊢ <;> omega)) | exact b2i_f (by (simp only [decide_eq_true_eq, decide_eq_false_iff_not, Bool.and_eq_true, Bool.and_eq_false_iff, Bool.or_eq_true, Bool.or_eq_false_iff, Bool.not_eq_true, Bool.not_eq_false, ne_eq, not_and, not_or, tog_t, tog_f, ahd_t, ahd_f, isoB_t, isoB_f, ixB_t, ixB_f, vOK_t, vOK_f, wOK_t, wOK_f, tn4, Int32.lt_iff_toInt_lt, Int32.le_iff_toInt_le, ← Int32.toInt_inj, tI0, tI1, tI2, tI3, tI4, tI6, tI14, tI59, tI60, tI127, tI1000, tI100000, tIm1, tIm2, tIm3, tIm4, tIbig] at c_1 c_2 ⊢ <;> omega)), ht⟩) (fun q h => by cases h) dX4_sameSpan_47
    · skip
      refine lv_iconst (v := 1) hx hb dX4_sameSpan_42 (by decide) ?_
      refine lv_goto (tgt := 47) hx hb dX4_sameSpan_43 (by decide) ?_
      exact W.zret (v := 1) hx hb hr (rfl) (fun t ht _ => ⟨_, rfl, by unfold ssB; first | exact b2i_t (by (simp only [decide_eq_true_eq, decide_eq_false_iff_not, Bool.and_eq_true, Bool.and_eq_false_iff, Bool.or_eq_true, Bool.or_eq_false_iff, Bool.not_eq_true, Bool.not_eq_false, ne_eq, not_and, not_or, tog_t, tog_f, ahd_t, ahd_f, isoB_t, isoB_f, ixB_t, ixB_f, vOK_t, vOK_f, wOK_t, wOK_f, tn4, Int32.lt_iff_toInt_lt, Int32.le_iff_toInt_le, ← Int32.toInt_inj, tI0, tI1, tI2, tI3, tI4, tI6, tI14, tI59, tI60, tI127, tI1000, tI100000, tIm1, tIm2, tIm3, tIm4, tIbig] at c_1 c_2 ⊢ <;> omega)) | exact b2i_f (by (simp only [decide_eq_true_eq, decide_eq_false_iff_not, Bool.and_eq_true, Bool.and_eq_false_iff, Bool.or_eq_true, Bool.or_eq_false_iff, Bool.not_eq_true, Bool.not_eq_false, ne_eq, not_and, not_or, tog_t, tog_f, ahd_t, ahd_f, isoB_t, isoB_f, ixB_t, ixB_f, vOK_t, vOK_f, wOK_t, wOK_f, tn4, Int32.lt_iff_toInt_lt, Int32.le_iff_toInt_le, ← Int32.toInt_inj, tI0, tI1, tI2, tI3, tI4, tI6, tI14, tI59, tI60, tI127, tI1000, tI100000, tIm1, tIm2, tIm3, tIm4, tIbig] at c_1 c_2 ⊢ <;> omega)), ht⟩) (fun q h => by cases h) dX4_sameSpan_47

set_option maxHeartbeats 4000000 in
set_option maxRecDepth 100000 in
theorem c_X4_isPair (l : Launch) (dC : Nat → ClassId) (dI : Nat → Nat → Nat) (cI : ClassId) (b : Nat → Nat) (n : Nat) (F T P V : Nat → Int32) (o kr : Nat → Nat) (hn : n ≤ 60) (ho : ∀ j, o j < 60) (p1 p2 : Int32) (kd : Int32) (x y : Nat) (hx0 : x < 60) (hy0 : y < 60) : Met l yX4_isPair wsX4_isPair ({ frames := 1, cells := 0, slots := 0, locals := 22 } : Room) (va_Pc [.ref (b 12), .int kd, .int (nI x), .int (nI y)] (fun U => va_P (dC, dI) vwCl ((b 12, .inr (4, [.ref (b 1), .int p1, .int p2])) :: (sW cI b (nI n) F T P V (fun j => nI (o j)) (fun j => nI (kr j)))) U.heap ∧ va_K (dC, dI) vwCl [(cI, .int)] U)) (vp_Si (fun r => r = b2i (prC F T P V kd x y))) 0 0 (fun _ => False) := by
  refine Met.ofW (cc := cX4_isPair) (maxL := 4) (ret := (some .boolean)) (by decide) rfl ?_
  intro p e s m args below meth c s₁ B hml hv
  obtain ⟨rfl, hP, hK⟩ := hv
  have hx := B.exec
  have hb := B.bytes
  have hr := B.returns
  have hts := atoms_spec (ws := wsX4_isPair) B.pre
  have hown : s.vm.findClass RX4 = some m.cls := findClass_of_methodNamed B.named
  have hlocks := B.notSynchronized
  have i_X4 : ∀ w ∈ u_ws RX4 TX4 3, w ∈ wsX4_isPair := by decide +kernel
  have i_X6 : ∀ w ∈ u_ws RX6 TX6 7, w ∈ wsX4_isPair := by decide +kernel
  have k_0 := hts (.fieldLink RX4 9 "VoiceRows$PairRows" "score" "LVoiceRows$Score;") (by decide +kernel)
  have k_1 := hts (.fieldLink RX4 35 "VoiceRows$Score" "voice" "[I") (by decide +kernel)
  have hl := lv_entry ([.ref (b 12), .int kd, .int (nI x), .int (nI y)]) (n := 4) (Nat.le_of_ble_eq_true rfl)
  rw [lg_entry_eq]
  generalize (lg_sl ([.ref (b 12), .int kd, .int (nI x), .int (nI y)]) ++ List.replicate (4 - (lg_sl ([.ref (b 12), .int kd, .int (nI x), .int (nI y)])).length) Slot.unset).toArray = ls at hl ⊢
  have hl : lv_has ls 4 [(0, .ref (b 12)), (1, .int kd), (2, .int (nI x)), (3, .int (nI y))] := hl
  refine lv_aload_n hx hb dX4_isPair_0 rfl (lv_at hl 0 rfl) ?_
  refine va_get (D := (dC, dI)) (ci := 4) (v := .ref (b 1)) (C := RX4) (T := TX4) (N := 3) hx hb hts i_X4 hown hK hP 0 rfl rfl 0 (by decide) k_0 (fun _ h9 => h9) rfl dX4_isPair_1 ?_
  refine va_get (D := (dC, dI)) (ci := 6) (v := .ref (b 5)) (C := RX6) (T := TX6) (N := 7) hx hb hts i_X6 hown hK hP 1 rfl rfl 4 (by decide) k_1 (fun _ h9 => h9) rfl dX4_isPair_4 ?_
  refine lv_iload_n hx hb dX4_isPair_7 rfl (lv_at hl 2 rfl) ?_
  refine gk_ld hx hb hK hP 5 0 rfl rfl x (by omega) (by omega) (v := V x) (rfl) dX4_isPair_8 ?_
  refine lv_iconst (v := (-1)) hx hb dX4_isPair_9 (by decide) ?_
  refine lv_icmp_eq (tgt := 38) hx hb dX4_isPair_10 (by decide) (fun c_1 => ?_) (fun c_1 => ?_)
  · skip
    refine lv_iconst (v := 0) hx hb dX4_isPair_38 (by decide) ?_
    exact W.zret (v := 0) hx hb hr (rfl) (fun t ht _ => ⟨_, rfl, by simp [b2i, prC, c_1], ht⟩) (fun q h => by cases h) dX4_isPair_39
  · skip
    refine lv_aload_n hx hb dX4_isPair_13 rfl (lv_at hl 0 rfl) ?_
    refine va_get (D := (dC, dI)) (ci := 4) (v := .ref (b 1)) (C := RX4) (T := TX4) (N := 3) hx hb hts i_X4 hown hK hP 0 rfl rfl 0 (by decide) k_0 (fun _ h9 => h9) rfl dX4_isPair_14 ?_
    refine va_get (D := (dC, dI)) (ci := 6) (v := .ref (b 5)) (C := RX6) (T := TX6) (N := 7) hx hb hts i_X6 hown hK hP 1 rfl rfl 4 (by decide) k_1 (fun _ h9 => h9) rfl dX4_isPair_17 ?_
    refine lv_iload_n hx hb dX4_isPair_20 rfl (lv_at hl 3 rfl) ?_
    refine gk_ld hx hb hK hP 5 0 rfl rfl y (by omega) (by omega) (v := V y) (rfl) dX4_isPair_21 ?_
    refine lv_iconst (v := (-1)) hx hb dX4_isPair_22 (by decide) ?_
    refine lv_icmp_eq (tgt := 38) hx hb dX4_isPair_23 (by decide) (fun c_2 => ?_) (fun c_2 => ?_)
    · skip
      refine lv_iconst (v := 0) hx hb dX4_isPair_38 (by decide) ?_
      exact W.zret (v := 0) hx hb hr (rfl) (fun t ht _ => ⟨_, rfl, by simp [b2i, prC, c_1, c_2], ht⟩) (fun q h => by cases h) dX4_isPair_39
    · skip
      refine lv_aload_n hx hb dX4_isPair_26 rfl (lv_at hl 0 rfl) ?_
      refine va_get (D := (dC, dI)) (ci := 4) (v := .ref (b 1)) (C := RX4) (T := TX4) (N := 3) hx hb hts i_X4 hown hK hP 0 rfl rfl 0 (by decide) k_0 (fun _ h9 => h9) rfl dX4_isPair_27 ?_
      refine lv_iload_n hx hb dX4_isPair_30 rfl (lv_at hl 2 rfl) ?_
      refine lv_iload_n hx hb dX4_isPair_31 rfl (lv_at hl 3 rfl) ?_
      have hPc_3 := hP.sub (ws' := (sW cI b (nI n) F T P V (fun j => nI (o j)) (fun j => nI (kr j)))) [1, 2, 3, 4, 5, 6, 7] rfl
      refine vp_callSi (gk_run (va_runV (As := [.int (nI x), .int (nI y)]) (rest := []) ⟨hx, hb, hml, hown, hts⟩ (c_X6_together l dC dI cI b n F T P V (fun j => nI (o j)) (fun j => nI (kr j)) hn x y hx0 hy0) (cwV 2 hts gX4_isPair_X6_together rfl rfl rfl (by decide +kernel) ⟨Nat.le_of_ble_eq_true rfl, Nat.le_of_ble_eq_true rfl⟩) ⟨gk_fb, va_recv hK hPc_3 (ci := 6) (q0 := 0) rfl rfl, fun U hU hW => ⟨rfl, by rw [hU]; exact hPc_3, va_K.moved hW.alike hK⟩⟩ rfl rfl hl.1 rfl (lv_room (Nat.le_of_ble_eq_true rfl)) dX4_isPair_32 ⟨Nat.zero_le _, Nat.zero_le _⟩)) (fun r_4 er_4 => ?_)
      subst er_4
      refine lv_if_ne (tgt := 40) hx hb dX4_isPair_35 (by decide) (fun c_5 => ?_) (fun c_5 => ?_)
      · skip
        have c_5 : (tog F T x y) = true := b2i_1.mp c_5
        refine lv_iload_n hx hb dX4_isPair_40 rfl (lv_at hl 1 rfl) ?_
        refine lv_if_ne (tgt := 68) hx hb dX4_isPair_41 (by decide) (fun c_6 => ?_) (fun c_6 => ?_)
        · skip
          refine lv_aload_n hx hb dX4_isPair_68 rfl (lv_at hl 0 rfl) ?_
          refine lv_iload_n hx hb dX4_isPair_69 rfl (lv_at hl 2 rfl) ?_
          refine lv_iload_n hx hb dX4_isPair_70 rfl (lv_at hl 3 rfl) ?_
          refine vp_callSi (gk_run (va_runV (As := [.int (nI x), .int (nI y)]) (rest := []) ⟨hx, hb, hml, hown, hts⟩ (c_X4_doMeet l dC dI cI b n F T P V o kr hn ho p1 p2 x y hx0 hy0) (cwV 2 hts gX4_isPair_X4_doMeet rfl rfl rfl (by decide +kernel) ⟨Nat.le_of_ble_eq_true rfl, Nat.le_of_ble_eq_true rfl⟩) ⟨gk_fb, va_recv hK hP (ci := 4) (q0 := 0) rfl rfl, fun U hU hW => ⟨rfl, by rw [hU]; exact hP, va_K.moved hW.alike hK⟩⟩ rfl rfl hl.1 rfl (lv_room (Nat.le_of_ble_eq_true rfl)) dX4_isPair_71 ⟨Nat.zero_le _, Nat.zero_le _⟩)) (fun r_7 er_7 => ?_)
          subst er_7
          refine lv_if_eq (tgt := 95) hx hb dX4_isPair_74 (by decide) (fun c_8 => ?_) (fun c_8 => ?_)
          · skip
            have c_8 : (dmB V P x y) = false := b2i_0.mp c_8
            refine lv_iconst (v := 0) hx hb dX4_isPair_95 (by decide) ?_
            exact W.zret (v := 0) hx hb hr (rfl) (fun t ht _ => ⟨_, rfl, by simp [b2i, prC, c_1, c_2, c_5, c_6, c_8], ht⟩) (fun q h => by cases h) dX4_isPair_96
          · skip
            have c_8 : (dmB V P x y) = true := b2i_1.mp c_8
            refine lv_iload_n hx hb dX4_isPair_77 rfl (lv_at hl 1 rfl) ?_
            refine lv_iconst (v := 1) hx hb dX4_isPair_78 (by decide) ?_
            refine lv_icmp_eq (tgt := 91) hx hb dX4_isPair_79 (by decide) (fun c_9 => ?_) (fun c_9 => ?_)
            · skip
              refine lv_iconst (v := 1) hx hb dX4_isPair_91 (by decide) ?_
              refine lv_goto (tgt := 96) hx hb dX4_isPair_92 (by decide) ?_
              exact W.zret (v := 1) hx hb hr (rfl) (fun t ht _ => ⟨_, rfl, by simp [b2i, prC, c_1, c_2, c_5, c_6, c_8, c_9], ht⟩) (fun q h => by cases h) dX4_isPair_96
            · skip
              refine lv_aload_n hx hb dX4_isPair_82 rfl (lv_at hl 0 rfl) ?_
              refine lv_iload_n hx hb dX4_isPair_83 rfl (lv_at hl 2 rfl) ?_
              refine lv_iload_n hx hb dX4_isPair_84 rfl (lv_at hl 3 rfl) ?_
              refine vp_callSi (gk_run (va_runV (As := [.int (nI x), .int (nI y)]) (rest := []) ⟨hx, hb, hml, hown, hts⟩ (c_X4_sameSpan l dC dI cI b n F T P V o kr hn ho p1 p2 x y hx0 hy0) (cwV 2 hts gX4_isPair_X4_sameSpan rfl rfl rfl (by decide +kernel) ⟨Nat.le_of_ble_eq_true rfl, Nat.le_of_ble_eq_true rfl⟩) ⟨gk_fb, va_recv hK hP (ci := 4) (q0 := 0) rfl rfl, fun U hU hW => ⟨rfl, by rw [hU]; exact hP, va_K.moved hW.alike hK⟩⟩ rfl rfl hl.1 rfl (lv_room (Nat.le_of_ble_eq_true rfl)) dX4_isPair_85 ⟨Nat.zero_le _, Nat.zero_le _⟩)) (fun r_10 er_10 => ?_)
              subst er_10
              refine lv_if_eq (tgt := 95) hx hb dX4_isPair_88 (by decide) (fun c_11 => ?_) (fun c_11 => ?_)
              · skip
                have c_11 : (ssB F T x y) = false := b2i_0.mp c_11
                refine lv_iconst (v := 0) hx hb dX4_isPair_95 (by decide) ?_
                exact W.zret (v := 0) hx hb hr (rfl) (fun t ht _ => ⟨_, rfl, by simp [b2i, prC, c_1, c_2, c_5, c_6, c_8, c_9, c_11], ht⟩) (fun q h => by cases h) dX4_isPair_96
              · skip
                have c_11 : (ssB F T x y) = true := b2i_1.mp c_11
                refine lv_iconst (v := 1) hx hb dX4_isPair_91 (by decide) ?_
                refine lv_goto (tgt := 96) hx hb dX4_isPair_92 (by decide) ?_
                exact W.zret (v := 1) hx hb hr (rfl) (fun t ht _ => ⟨_, rfl, by simp [b2i, prC, c_1, c_2, c_5, c_6, c_8, c_9, c_11], ht⟩) (fun q h => by cases h) dX4_isPair_96
        · skip
          refine lv_aload_n hx hb dX4_isPair_44 rfl (lv_at hl 0 rfl) ?_
          refine lv_iload_n hx hb dX4_isPair_45 rfl (lv_at hl 2 rfl) ?_
          refine lv_iload_n hx hb dX4_isPair_46 rfl (lv_at hl 3 rfl) ?_
          refine vp_callSi (gk_run (va_runV (As := [.int (nI x), .int (nI y)]) (rest := []) ⟨hx, hb, hml, hown, hts⟩ (c_X4_isUnder l dC dI cI b n F T P V o kr hn ho p1 p2 x y (by omega) (by omega)) (cwV 2 hts gX4_isPair_X4_isUnder rfl rfl rfl (by decide +kernel) ⟨Nat.le_of_ble_eq_true rfl, Nat.le_of_ble_eq_true rfl⟩) ⟨gk_fb, va_recv hK hP (ci := 4) (q0 := 0) rfl rfl, fun U hU hW => ⟨rfl, by rw [hU]; exact hP, va_K.moved hW.alike hK⟩⟩ rfl rfl hl.1 rfl (lv_room (Nat.le_of_ble_eq_true rfl)) dX4_isPair_47 ⟨Nat.zero_le _, Nat.zero_le _⟩)) (fun r_12 er_12 => ?_)
          subst er_12
          refine lv_if_ne (tgt := 62) hx hb dX4_isPair_50 (by decide) (fun c_13 => ?_) (fun c_13 => ?_)
          · skip
            have c_13 : (udB V P x y) = true := b2i_1.mp c_13
            refine lv_iconst (v := 1) hx hb dX4_isPair_62 (by decide) ?_
            refine lv_goto (tgt := 67) hx hb dX4_isPair_63 (by decide) ?_
            exact W.zret (v := 1) hx hb hr (rfl) (fun t ht _ => ⟨_, rfl, by simp [b2i, prC, c_1, c_2, c_5, c_6, c_13], ht⟩) (fun q h => by cases h) dX4_isPair_67
          · skip
            have c_13 : (udB V P x y) = false := b2i_0.mp c_13
            refine lv_aload_n hx hb dX4_isPair_53 rfl (lv_at hl 0 rfl) ?_
            refine lv_iload_n hx hb dX4_isPair_54 rfl (lv_at hl 3 rfl) ?_
            refine lv_iload_n hx hb dX4_isPair_55 rfl (lv_at hl 2 rfl) ?_
            refine vp_callSi (gk_run (va_runV (As := [.int (nI y), .int (nI x)]) (rest := []) ⟨hx, hb, hml, hown, hts⟩ (c_X4_isUnder l dC dI cI b n F T P V o kr hn ho p1 p2 y x (by omega) (by omega)) (cwV 2 hts gX4_isPair_X4_isUnder rfl rfl rfl (by decide +kernel) ⟨Nat.le_of_ble_eq_true rfl, Nat.le_of_ble_eq_true rfl⟩) ⟨gk_fb, va_recv hK hP (ci := 4) (q0 := 0) rfl rfl, fun U hU hW => ⟨rfl, by rw [hU]; exact hP, va_K.moved hW.alike hK⟩⟩ rfl rfl hl.1 rfl (lv_room (Nat.le_of_ble_eq_true rfl)) dX4_isPair_56 ⟨Nat.zero_le _, Nat.zero_le _⟩)) (fun r_14 er_14 => ?_)
            subst er_14
            refine lv_if_eq (tgt := 66) hx hb dX4_isPair_59 (by decide) (fun c_15 => ?_) (fun c_15 => ?_)
            · skip
              have c_15 : (udB V P y x) = false := b2i_0.mp c_15
              refine lv_iconst (v := 0) hx hb dX4_isPair_66 (by decide) ?_
              exact W.zret (v := 0) hx hb hr (rfl) (fun t ht _ => ⟨_, rfl, by simp [b2i, prC, c_1, c_2, c_5, c_6, c_13, c_15], ht⟩) (fun q h => by cases h) dX4_isPair_67
            · skip
              have c_15 : (udB V P y x) = true := b2i_1.mp c_15
              refine lv_iconst (v := 1) hx hb dX4_isPair_62 (by decide) ?_
              refine lv_goto (tgt := 67) hx hb dX4_isPair_63 (by decide) ?_
              exact W.zret (v := 1) hx hb hr (rfl) (fun t ht _ => ⟨_, rfl, by simp [b2i, prC, c_1, c_2, c_5, c_6, c_13, c_15], ht⟩) (fun q h => by cases h) dX4_isPair_67
      · skip
        have c_5 : (tog F T x y) = false := b2i_0.mp c_5
        refine lv_iconst (v := 0) hx hb dX4_isPair_38 (by decide) ?_
        exact W.zret (v := 0) hx hb hr (rfl) (fun t ht _ => ⟨_, rfl, by simp [b2i, prC, c_1, c_2, c_5], ht⟩) (fun q h => by cases h) dX4_isPair_39
