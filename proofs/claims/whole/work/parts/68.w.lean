set_option maxHeartbeats 1000000 in
set_option maxRecDepth 100000 in
theorem c_X8_silence (l : Launch) (dC : Nat → ClassId) (dI : Nat → Nat → Nat) (cI : ClassId) (a : Nat → Nat) (n : Nat) (F T P V Wt O G L R : Nat → Int32) (hn : n ≤ 60) (hT : ∀ j, (T j).toInt ≤ 100000) (v tm : Int32) : Met l yX8_silence wsX8_silence ({ frames := 1, cells := 0, slots := 0, locals := 22 } : Room) (va_Pc [.ref (a 0), .int v, .int tm] (fun U => va_P (dC, dI) vwCl (mW cI a (nI n) F T P V Wt O G L R) U.heap ∧ va_K (dC, dI) vwCl [(cI, .int)] U)) (vp_Si (fun r => SIL (isoB V v) F T n tm r)) 0 0 (fun _ => False) := by
  refine Met.ofW (cc := cX8_silence) (maxL := 6) (ret := (some .int)) (by decide) rfl ?_
  intro p e s m args below meth c s₁ B hml hv
  obtain ⟨rfl, hP, hK⟩ := hv
  have hx := B.exec
  have hb := B.bytes
  have hr := B.returns
  have hts := atoms_spec (ws := wsX8_silence) B.pre
  have hown : s.vm.findClass RX8 = some m.cls := findClass_of_methodNamed B.named
  have hlocks := B.notSynchronized
  have i_X8 : ∀ w ∈ u_ws RX8 TX8 10, w ∈ wsX8_silence := by decide +kernel
  have k_0 := hts (.fieldLink RX8 38 "VoiceRowsModel" "notes" "I") (by decide +kernel)
  have k_1 := hts (.fieldLink RX8 7 "VoiceRowsModel" "from" "[I") (by decide +kernel)
  have k_2 := hts (.fieldLink RX8 13 "VoiceRowsModel" "to" "[I") (by decide +kernel)
  have hl := lv_entry ([.ref (a 0), .int v, .int tm]) (n := 6) (Nat.le_of_ble_eq_true rfl)
  rw [lg_entry_eq]
  generalize (lg_sl ([.ref (a 0), .int v, .int tm]) ++ List.replicate (6 - (lg_sl ([.ref (a 0), .int v, .int tm])).length) Slot.unset).toArray = ls at hl ⊢
  have hl : lv_has ls 6 [(0, .ref (a 0)), (1, .int v), (2, .int tm)] := hl
  refine lv_iload_n hx hb dX8_silence_0 rfl (lv_at hl 2 rfl) ?_
  refine lv_istore_n (lv' := [(3, .int tm), (0, .ref (a 0)), (1, .int v), (2, .int tm)]) hx hb dX8_silence_1 rfl hl (by decide) rfl (fun ls hl => ?_)
  refine lv_iconst (v := 1) hx hb dX8_silence_2 (by decide) ?_
  refine lv_istore (lv' := [(4, .int 1), (3, .int tm), (0, .ref (a 0)), (1, .int v), (2, .int tm)]) hx hb dX8_silence_3 hl (by decide) rfl (fun ls hl => ?_)
  have L5 : ∀ (fu : Nat) (t1 : Int32) (mo : Bool) (x3 x4 : Int32) (ls : Array Slot), x3 = t1 → x4 = b2i mo → SO (isoB V v) F T n tm t1 mo → 2 * (100001 - t1.toInt).toNat + mo.toNat < fu → lv_has ls 6 [(0, .ref (a 0)), (1, .int v), (2, .int tm), (3, .int x3), (4, .int x4)] → W p l e (headSpec wsX8_silence ({ frames := 1, cells := 0, slots := 0, locals := 22 } : Room)).room s m [.ref (a 0), .int v, .int tm].toArray below meth c s.heap [] 0 0 (MQ below (vp_Si (fun r => SIL (isoB V v) F T n tm r)) [.ref (a 0), .int v, .int tm].toArray s 0 0 (fun _ => False)) (F0 m 5 ls []) := by
    intro fu
    induction fu with
    | zero =>
      intro t1 mo x3 x4 ls e3 e4 hso hfu5 hl
      exact absurd hfu5 (Nat.not_lt_zero _)
    | succ fu ih5 =>
      intro t1 mo x3 x4 ls e3 e4 hso hfu5 hl
      have e3 := e3.symm
      subst e3
      subst e4
      refine lv_iload hx hb dX8_silence_5 (lv_at hl 4 rfl) ?_
      refine lv_if_eq (tgt := 77) hx hb dX8_silence_7 (by decide) (fun c_1 => ?_) (fun c_1 => ?_)
      · skip
        have c_1 : mo = false := b2i_0.mp c_1
        refine lv_iload_n hx hb dX8_silence_77 rfl (lv_at hl 3 rfl) ?_
        exact W.iret (v := t1) hx hb hr (fun t ht _ => ⟨_, rfl, by exact SO_end hso (by assumption), ht⟩) (fun q h => by cases h) dX8_silence_78
      · skip
        have c_1 : mo = true := b2i_1.mp c_1
        refine lv_iconst (v := 0) hx hb dX8_silence_10 (by decide) ?_
        refine lv_istore (lv' := [(4, .int 0), (0, .ref (a 0)), (1, .int v), (2, .int tm), (3, .int t1)]) hx hb dX8_silence_11 hl (by decide) rfl (fun ls hl => ?_)
        refine lv_iconst (v := 0) hx hb dX8_silence_13 (by decide) ?_
        refine lv_istore (lv' := [(5, .int 0), (4, .int 0), (0, .ref (a 0)), (1, .int v), (2, .int tm), (3, .int t1)]) hx hb dX8_silence_14 hl (by decide) rfl (fun ls hl => ?_)
        have L16 : ∀ (fu : Nat) (k : Nat) (t3 : Int32) (mo3 : Bool) (x3 x4 x5 : Int32) (ls : Array Slot), x3 = t3 → x4 = b2i mo3 → x5 = nI k → k ≤ n → SI (isoB V v) F T n tm t1 k t3 mo3 → n - k < fu → lv_has ls 6 [(0, .ref (a 0)), (1, .int v), (2, .int tm), (3, .int x3), (4, .int x4), (5, .int x5)] → W p l e (headSpec wsX8_silence ({ frames := 1, cells := 0, slots := 0, locals := 22 } : Room)).room s m [.ref (a 0), .int v, .int tm].toArray below meth c s.heap [] 0 0 (MQ below (vp_Si (fun r => SIL (isoB V v) F T n tm r)) [.ref (a 0), .int v, .int tm].toArray s 0 0 (fun _ => False)) (F0 m 16 ls []) := by
          intro fu
          induction fu with
          | zero =>
            intro k t3 mo3 x3 x4 x5 ls e3 e4 e5 hk1 hsi hfu16 hl
            exact absurd hfu16 (Nat.not_lt_zero _)
          | succ fu ih16 =>
            intro k t3 mo3 x3 x4 x5 ls e3 e4 e5 hk1 hsi hfu16 hl
            have e3 := e3.symm
            subst e3
            subst e4
            subst e5
            refine lv_iload hx hb dX8_silence_16 (lv_at hl 5 rfl) ?_
            refine lv_aload_n hx hb dX8_silence_18 rfl (lv_at hl 0 rfl) ?_
            refine va_get (D := (dC, dI)) (ci := 8) (v := .int (nI n)) (C := RX8) (T := TX8) (N := 10) hx hb hts i_X8 hown hK hP 0 rfl rfl 4 (by decide) k_0 (fun _ h9 => h9) rfl dX8_silence_19 ?_
            refine lv_icmp_ge (tgt := 74) hx hb dX8_silence_22 (by decide) (fun c_2 => ?_) (fun c_2 => ?_)
            · skip
              have c_2 : k ≥ n := gk_geT (a := k) (b := n) (by first | omega | exact Nat.lt_trans (ho _) (by decide) | exact Nat.lt_of_le_of_lt atN_le (by omega) | exact Nat.lt_of_le_of_lt szN_le (by omega) | exact Nat.lt_of_le_of_lt clM_le (by omega) | exact Nat.lt_of_le_of_lt rkN_le (by omega) | exact Nat.lt_of_le_of_lt (cnt_le _ _) (by omega)) (by first | omega | exact Nat.lt_trans (ho _) (by decide) | exact Nat.lt_of_le_of_lt atN_le (by omega) | exact Nat.lt_of_le_of_lt szN_le (by omega) | exact Nat.lt_of_le_of_lt clM_le (by omega) | exact Nat.lt_of_le_of_lt rkN_le (by omega) | exact Nat.lt_of_le_of_lt (cnt_le _ _) (by omega)) c_2
              have hdec := SI_dec hsi (m0 := mo) (by assumption)
              refine lv_goto (tgt := 5) hx hb dX8_silence_74 (by decide) ?_
              exact ih5 t3 mo3 _ _ ls (by rfl) (by rfl) (by exact SO_next (by omega) hsi) (by omega) (lv_sub hl [0, 1, 2, 3, 4] rfl)
            · skip
              have c_2 : k < n := gk_geF (a := k) (b := n) (by first | omega | exact Nat.lt_trans (ho _) (by decide) | exact Nat.lt_of_le_of_lt atN_le (by omega) | exact Nat.lt_of_le_of_lt szN_le (by omega) | exact Nat.lt_of_le_of_lt clM_le (by omega) | exact Nat.lt_of_le_of_lt rkN_le (by omega) | exact Nat.lt_of_le_of_lt (cnt_le _ _) (by omega)) (by first | omega | exact Nat.lt_trans (ho _) (by decide) | exact Nat.lt_of_le_of_lt atN_le (by omega) | exact Nat.lt_of_le_of_lt szN_le (by omega) | exact Nat.lt_of_le_of_lt clM_le (by omega) | exact Nat.lt_of_le_of_lt rkN_le (by omega) | exact Nat.lt_of_le_of_lt (cnt_le _ _) (by omega)) c_2
              refine lv_aload_n hx hb dX8_silence_25 rfl (lv_at hl 0 rfl) ?_
              refine lv_iload hx hb dX8_silence_26 (lv_at hl 5 rfl) ?_
              refine lv_iload_n hx hb dX8_silence_28 rfl (lv_at hl 1 rfl) ?_
              refine vp_callSi (gk_run (va_runV (As := [.int (nI k), .int v]) (rest := []) ⟨hx, hb, hml, hown, hts⟩ (c_X8_isOf l dC dI cI a n F T P V Wt O G L R hn k (by omega) v) (cwV 2 hts gX8_silence_X8_isOf rfl rfl rfl (by decide +kernel) ⟨Nat.le_of_ble_eq_true rfl, Nat.le_of_ble_eq_true rfl⟩) ⟨gk_fb, va_recv hK hP (ci := 8) (q0 := 0) rfl rfl, fun U hU hW => ⟨rfl, by rw [hU]; exact hP, va_K.moved hW.alike hK⟩⟩ rfl rfl hl.1 rfl (lv_room (Nat.le_of_ble_eq_true rfl)) dX8_silence_29 ⟨Nat.zero_le _, Nat.zero_le _⟩)) (fun r_3 er_3 => ?_)
              subst er_3
              refine lv_if_eq (tgt := 68) hx hb dX8_silence_32 (by decide) (fun c_4 => ?_) (fun c_4 => ?_)
              · skip
                have c_4 : (isoB V v k) = false := b2i_0.mp c_4
                refine lv_iinc (v := nI (k + 1)) (lv' := [(5, .int (nI (k + 1))), (0, .ref (a 0)), (1, .int v), (2, .int tm), (3, .int t3), (4, .int (b2i mo3))]) hx hb dX8_silence_68 hl (k := 5) rfl (gk_inc1 _) (by decide) rfl (fun ls hl => ?_)
                refine lv_goto (tgt := 16) hx hb dX8_silence_71 (by decide) ?_
                exact ih16 (k + 1) t3 mo3 _ _ _ ls (by rfl) (by rfl) (by rfl) (by omega) (by exact SI_n hsi (fun h9 => by first | exact no_tf h9.1 (by assumption) | exact absurd h9.2.1 (Int32.not_le.mpr (by assumption)) | exact absurd h9.2.2 (Int32.not_lt.mpr (by assumption)))) (by omega) (lv_sub hl [1, 2, 3, 4, 5, 0] rfl)
              · skip
                have c_4 : (isoB V v k) = true := b2i_1.mp c_4
                refine lv_aload_n hx hb dX8_silence_35 rfl (lv_at hl 0 rfl) ?_
                refine va_get (D := (dC, dI)) (ci := 8) (v := .ref (a 1)) (C := RX8) (T := TX8) (N := 10) hx hb hts i_X8 hown hK hP 0 rfl rfl 0 (by decide) k_1 (fun _ h9 => h9) rfl dX8_silence_36 ?_
                refine lv_iload hx hb dX8_silence_39 (lv_at hl 5 rfl) ?_
                refine gk_ld hx hb hK hP 1 0 rfl rfl k (by omega) (by omega) (v := F k) (rfl) dX8_silence_41 ?_
                refine lv_iload_n hx hb dX8_silence_42 rfl (lv_at hl 3 rfl) ?_
                refine lv_icmp_gt (tgt := 68) hx hb dX8_silence_43 (by decide) (fun c_5 => ?_) (fun c_5 => ?_)
                · skip
                  refine lv_iinc (v := nI (k + 1)) (lv' := [(5, .int (nI (k + 1))), (0, .ref (a 0)), (1, .int v), (2, .int tm), (3, .int t3), (4, .int (b2i mo3))]) hx hb dX8_silence_68 hl (k := 5) rfl (gk_inc1 _) (by decide) rfl (fun ls hl => ?_)
                  refine lv_goto (tgt := 16) hx hb dX8_silence_71 (by decide) ?_
                  exact ih16 (k + 1) t3 mo3 _ _ _ ls (by rfl) (by rfl) (by rfl) (by omega) (by exact SI_n hsi (fun h9 => by first | exact no_tf h9.1 (by assumption) | exact absurd h9.2.1 (Int32.not_le.mpr (by assumption)) | exact absurd h9.2.2 (Int32.not_lt.mpr (by assumption)))) (by omega) (lv_sub hl [1, 2, 3, 4, 5, 0] rfl)
                · skip
                  refine lv_iload_n hx hb dX8_silence_46 rfl (lv_at hl 3 rfl) ?_
                  refine lv_aload_n hx hb dX8_silence_47 rfl (lv_at hl 0 rfl) ?_
                  refine va_get (D := (dC, dI)) (ci := 8) (v := .ref (a 2)) (C := RX8) (T := TX8) (N := 10) hx hb hts i_X8 hown hK hP 0 rfl rfl 1 (by decide) k_2 (fun _ h9 => h9) rfl dX8_silence_48 ?_
                  refine lv_iload hx hb dX8_silence_51 (lv_at hl 5 rfl) ?_
                  refine gk_ld hx hb hK hP 2 0 rfl rfl k (by omega) (by omega) (v := T k) (rfl) dX8_silence_53 ?_
                  refine lv_icmp_ge (tgt := 68) hx hb dX8_silence_54 (by decide) (fun c_6 => ?_) (fun c_6 => ?_)
                  · skip
                    refine lv_iinc (v := nI (k + 1)) (lv' := [(5, .int (nI (k + 1))), (0, .ref (a 0)), (1, .int v), (2, .int tm), (3, .int t3), (4, .int (b2i mo3))]) hx hb dX8_silence_68 hl (k := 5) rfl (gk_inc1 _) (by decide) rfl (fun ls hl => ?_)
                    refine lv_goto (tgt := 16) hx hb dX8_silence_71 (by decide) ?_
                    exact ih16 (k + 1) t3 mo3 _ _ _ ls (by rfl) (by rfl) (by rfl) (by omega) (by exact SI_n hsi (fun h9 => by first | exact no_tf h9.1 (by assumption) | exact absurd h9.2.1 (Int32.not_le.mpr (by assumption)) | exact absurd h9.2.2 (Int32.not_lt.mpr (by assumption)))) (by omega) (lv_sub hl [1, 2, 3, 4, 5, 0] rfl)
                  · skip
                    refine lv_aload_n hx hb dX8_silence_57 rfl (lv_at hl 0 rfl) ?_
                    refine va_get (D := (dC, dI)) (ci := 8) (v := .ref (a 2)) (C := RX8) (T := TX8) (N := 10) hx hb hts i_X8 hown hK hP 0 rfl rfl 1 (by decide) k_2 (fun _ h9 => h9) rfl dX8_silence_58 ?_
                    refine lv_iload hx hb dX8_silence_61 (lv_at hl 5 rfl) ?_
                    refine gk_ld hx hb hK hP 2 0 rfl rfl k (by omega) (by omega) (v := T k) (rfl) dX8_silence_63 ?_
                    refine lv_istore_n (lv' := [(3, .int (T k)), (0, .ref (a 0)), (1, .int v), (2, .int tm), (4, .int (b2i mo3)), (5, .int (nI k))]) hx hb dX8_silence_64 rfl hl (by decide) rfl (fun ls hl => ?_)
                    refine lv_iconst (v := 1) hx hb dX8_silence_65 (by decide) ?_
                    refine lv_istore (lv' := [(4, .int 1), (3, .int (T k)), (0, .ref (a 0)), (1, .int v), (2, .int tm), (5, .int (nI k))]) hx hb dX8_silence_66 hl (by decide) rfl (fun ls hl => ?_)
                    refine lv_iinc (v := nI (k + 1)) (lv' := [(5, .int (nI (k + 1))), (4, .int 1), (3, .int (T k)), (0, .ref (a 0)), (1, .int v), (2, .int tm)]) hx hb dX8_silence_68 hl (k := 5) rfl (gk_inc1 _) (by decide) rfl (fun ls hl => ?_)
                    refine lv_goto (tgt := 16) hx hb dX8_silence_71 (by decide) ?_
                    exact ih16 (k + 1) (T k) true _ _ _ ls (by rfl) (by rfl) (by rfl) (by omega) (by exact SI_y hT (by omega) hsi (by assumption) (Int32.not_lt.mp (by assumption)) (Int32.not_le.mp (by assumption))) (by omega) (lv_sub hl [3, 4, 5, 2, 1, 0] rfl)
        exact L16 ((n) + 1) 0 t1 false _ _ _ ls (by rfl) (by rfl) (by rfl) (by omega) (by exact SI_0 hso) (by omega) (lv_sub hl [2, 3, 4, 5, 1, 0] rfl)
  exact L5 ((2 * (100001 - tm.toInt).toNat + true.toNat) + 1) tm true _ _ ls (by rfl) (by rfl) (by exact SO_0) (by omega) (lv_sub hl [2, 3, 4, 1, 0] rfl)

set_option maxHeartbeats 1000000 in
set_option maxRecDepth 100000 in
theorem c_X8_sound (l : Launch) (dC : Nat → ClassId) (dI : Nat → Nat → Nat) (cI : ClassId) (a : Nat → Nat) (n : Nat) (F T P V Wt O G L R : Nat → Int32) (hn : n ≤ 60) (v tm : Int32) : Met l yX8_sound wsX8_sound ({ frames := 1, cells := 0, slots := 0, locals := 22 } : Room) (va_Pc [.ref (a 0), .int v, .int tm] (fun U => va_P (dC, dI) vwCl (mW cI a (nI n) F T P V Wt O G L R) U.heap ∧ va_K (dC, dI) vwCl [(cI, .int)] U)) (vp_Si (fun rr => rr = snf (isoB V v) F tm (mxT T n) n)) 0 0 (fun _ => False) := by
  refine Met.ofW (cc := cX8_sound) (maxL := 5) (ret := (some .int)) (by decide) rfl ?_
  intro p e s m args below meth c s₁ B hml hv
  obtain ⟨rfl, hP, hK⟩ := hv
  have hx := B.exec
  have hb := B.bytes
  have hr := B.returns
  have hts := atoms_spec (ws := wsX8_sound) B.pre
  have hown : s.vm.findClass RX8 = some m.cls := findClass_of_methodNamed B.named
  have hlocks := B.notSynchronized
  have i_X8 : ∀ w ∈ u_ws RX8 TX8 10, w ∈ wsX8_sound := by decide +kernel
  have k_0 := hts (.fieldLink RX8 38 "VoiceRowsModel" "notes" "I") (by decide +kernel)
  have k_1 := hts (.fieldLink RX8 7 "VoiceRowsModel" "from" "[I") (by decide +kernel)
  have hl := lv_entry ([.ref (a 0), .int v, .int tm]) (n := 5) (Nat.le_of_ble_eq_true rfl)
  rw [lg_entry_eq]
  generalize (lg_sl ([.ref (a 0), .int v, .int tm]) ++ List.replicate (5 - (lg_sl ([.ref (a 0), .int v, .int tm])).length) Slot.unset).toArray = ls at hl ⊢
  have hl : lv_has ls 5 [(0, .ref (a 0)), (1, .int v), (2, .int tm)] := hl
  refine lv_aload_n hx hb dX8_sound_0 rfl (lv_at hl 0 rfl) ?_
  refine vp_callSi (gk_run (va_runV (As := []) (rest := []) ⟨hx, hb, hml, hown, hts⟩ (c_X8_theEnd l dC dI cI a n F T P V Wt O G L R hn) (cwV 0 hts gX8_sound_X8_theEnd rfl rfl rfl (by decide +kernel) ⟨Nat.le_of_ble_eq_true rfl, Nat.le_of_ble_eq_true rfl⟩) ⟨gk_fb, va_recv hK hP (ci := 8) (q0 := 0) rfl rfl, fun U hU hW => ⟨rfl, by rw [hU]; exact hP, va_K.moved hW.alike hK⟩⟩ rfl rfl hl.1 rfl (lv_room (Nat.le_of_ble_eq_true rfl)) dX8_sound_1 ⟨Nat.zero_le _, Nat.zero_le _⟩)) (fun r_1 er_1 => ?_)
  subst er_1
  refine lv_istore_n (lv' := [(3, .int (mxT T n)), (0, .ref (a 0)), (1, .int v), (2, .int tm)]) hx hb dX8_sound_4 rfl hl (by decide) rfl (fun ls hl => ?_)
  refine lv_iconst (v := 0) hx hb dX8_sound_5 (by decide) ?_
  refine lv_istore (lv' := [(4, .int 0), (3, .int (mxT T n)), (0, .ref (a 0)), (1, .int v), (2, .int tm)]) hx hb dX8_sound_6 hl (by decide) rfl (fun ls hl => ?_)
  have L8 : ∀ (fu : Nat) (k : Nat) (x3 x4 : Int32) (ls : Array Slot), x3 = snf (isoB V v) F tm (mxT T n) k → x4 = nI k → k ≤ n → n - k < fu → lv_has ls 5 [(0, .ref (a 0)), (1, .int v), (2, .int tm), (3, .int x3), (4, .int x4)] → W p l e (headSpec wsX8_sound ({ frames := 1, cells := 0, slots := 0, locals := 22 } : Room)).room s m [.ref (a 0), .int v, .int tm].toArray below meth c s.heap [] 0 0 (MQ below (vp_Si (fun rr => rr = snf (isoB V v) F tm (mxT T n) n)) [.ref (a 0), .int v, .int tm].toArray s 0 0 (fun _ => False)) (F0 m 8 ls []) := by
    intro fu
    induction fu with
    | zero =>
      intro k x3 x4 ls e3 e4 hk1 hfu8 hl
      exact absurd hfu8 (Nat.not_lt_zero _)
    | succ fu ih8 =>
      intro k x3 x4 ls e3 e4 hk1 hfu8 hl
      subst e3
      subst e4
      refine lv_iload hx hb dX8_sound_8 (lv_at hl 4 rfl) ?_
      refine lv_aload_n hx hb dX8_sound_10 rfl (lv_at hl 0 rfl) ?_
      refine va_get (D := (dC, dI)) (ci := 8) (v := .int (nI n)) (C := RX8) (T := TX8) (N := 10) hx hb hts i_X8 hown hK hP 0 rfl rfl 4 (by decide) k_0 (fun _ h9 => h9) rfl dX8_sound_11 ?_
      refine lv_icmp_ge (tgt := 67) hx hb dX8_sound_14 (by decide) (fun c_2 => ?_) (fun c_2 => ?_)
      · skip
        have c_2 : k ≥ n := gk_geT (a := k) (b := n) (by first | omega | exact Nat.lt_trans (ho _) (by decide) | exact Nat.lt_of_le_of_lt atN_le (by omega) | exact Nat.lt_of_le_of_lt szN_le (by omega) | exact Nat.lt_of_le_of_lt clM_le (by omega) | exact Nat.lt_of_le_of_lt rkN_le (by omega) | exact Nat.lt_of_le_of_lt (cnt_le _ _) (by omega)) (by first | omega | exact Nat.lt_trans (ho _) (by decide) | exact Nat.lt_of_le_of_lt atN_le (by omega) | exact Nat.lt_of_le_of_lt szN_le (by omega) | exact Nat.lt_of_le_of_lt clM_le (by omega) | exact Nat.lt_of_le_of_lt rkN_le (by omega) | exact Nat.lt_of_le_of_lt (cnt_le _ _) (by omega)) c_2
        refine lv_iload_n hx hb dX8_sound_67 rfl (lv_at hl 3 rfl) ?_
        exact W.iret (v := snf (isoB V v) F tm (mxT T n) k) hx hb hr (fun t ht _ => ⟨_, rfl, by (obtain rfl : k = n := by omega); rfl, ht⟩) (fun q h => by cases h) dX8_sound_68
      · skip
        have c_2 : k < n := gk_geF (a := k) (b := n) (by first | omega | exact Nat.lt_trans (ho _) (by decide) | exact Nat.lt_of_le_of_lt atN_le (by omega) | exact Nat.lt_of_le_of_lt szN_le (by omega) | exact Nat.lt_of_le_of_lt clM_le (by omega) | exact Nat.lt_of_le_of_lt rkN_le (by omega) | exact Nat.lt_of_le_of_lt (cnt_le _ _) (by omega)) (by first | omega | exact Nat.lt_trans (ho _) (by decide) | exact Nat.lt_of_le_of_lt atN_le (by omega) | exact Nat.lt_of_le_of_lt szN_le (by omega) | exact Nat.lt_of_le_of_lt clM_le (by omega) | exact Nat.lt_of_le_of_lt rkN_le (by omega) | exact Nat.lt_of_le_of_lt (cnt_le _ _) (by omega)) c_2
        refine lv_aload_n hx hb dX8_sound_17 rfl (lv_at hl 0 rfl) ?_
        refine lv_iload hx hb dX8_sound_18 (lv_at hl 4 rfl) ?_
        refine lv_iload_n hx hb dX8_sound_20 rfl (lv_at hl 1 rfl) ?_
        refine vp_callSi (gk_run (va_runV (As := [.int (nI k), .int v]) (rest := []) ⟨hx, hb, hml, hown, hts⟩ (c_X8_isOf l dC dI cI a n F T P V Wt O G L R hn k (by omega) v) (cwV 2 hts gX8_sound_X8_isOf rfl rfl rfl (by decide +kernel) ⟨Nat.le_of_ble_eq_true rfl, Nat.le_of_ble_eq_true rfl⟩) ⟨gk_fb, va_recv hK hP (ci := 8) (q0 := 0) rfl rfl, fun U hU hW => ⟨rfl, by rw [hU]; exact hP, va_K.moved hW.alike hK⟩⟩ rfl rfl hl.1 rfl (lv_room (Nat.le_of_ble_eq_true rfl)) dX8_sound_21 ⟨Nat.zero_le _, Nat.zero_le _⟩)) (fun r_3 er_3 => ?_)
        subst er_3
        refine lv_if_eq (tgt := 59) hx hb dX8_sound_24 (by decide) (fun c_4 => ?_) (fun c_4 => ?_)
        · skip
          have c_4 : (isoB V v k) = false := b2i_0.mp c_4
          refine lv_iload_n hx hb dX8_sound_59 rfl (lv_at hl 3 rfl) ?_
          refine lv_istore_n (lv' := [(3, .int (snf (isoB V v) F tm (mxT T n) k)), (0, .ref (a 0)), (1, .int v), (2, .int tm), (4, .int (nI k))]) hx hb dX8_sound_60 rfl hl (by decide) rfl (fun ls hl => ?_)
          refine lv_iinc (v := nI (k + 1)) (lv' := [(4, .int (nI (k + 1))), (3, .int (snf (isoB V v) F tm (mxT T n) k)), (0, .ref (a 0)), (1, .int v), (2, .int tm)]) hx hb dX8_sound_61 hl (k := 4) rfl (gk_inc1 _) (by decide) rfl (fun ls hl => ?_)
          refine lv_goto (tgt := 8) hx hb dX8_sound_64 (by decide) ?_
          exact ih8 (k + 1) _ _ ls (by exact snf_n (fun h9 => by first | exact no_tf h9.1 (by assumption) | exact absurd h9.2.1 (Int32.not_le.mpr (by assumption)) | exact absurd h9.2.2 (Int32.not_lt.mpr (by assumption)))) (by rfl) (by omega) (by omega) (lv_sub hl [2, 3, 4, 1, 0] rfl)
        · skip
          have c_4 : (isoB V v k) = true := b2i_1.mp c_4
          refine lv_aload_n hx hb dX8_sound_27 rfl (lv_at hl 0 rfl) ?_
          refine va_get (D := (dC, dI)) (ci := 8) (v := .ref (a 1)) (C := RX8) (T := TX8) (N := 10) hx hb hts i_X8 hown hK hP 0 rfl rfl 0 (by decide) k_1 (fun _ h9 => h9) rfl dX8_sound_28 ?_
          refine lv_iload hx hb dX8_sound_31 (lv_at hl 4 rfl) ?_
          refine gk_ld hx hb hK hP 1 0 rfl rfl k (by omega) (by omega) (v := F k) (rfl) dX8_sound_33 ?_
          refine lv_iload_n hx hb dX8_sound_34 rfl (lv_at hl 2 rfl) ?_
          refine lv_icmp_lt (tgt := 59) hx hb dX8_sound_35 (by decide) (fun c_5 => ?_) (fun c_5 => ?_)
          · skip
            refine lv_iload_n hx hb dX8_sound_59 rfl (lv_at hl 3 rfl) ?_
            refine lv_istore_n (lv' := [(3, .int (snf (isoB V v) F tm (mxT T n) k)), (0, .ref (a 0)), (1, .int v), (2, .int tm), (4, .int (nI k))]) hx hb dX8_sound_60 rfl hl (by decide) rfl (fun ls hl => ?_)
            refine lv_iinc (v := nI (k + 1)) (lv' := [(4, .int (nI (k + 1))), (3, .int (snf (isoB V v) F tm (mxT T n) k)), (0, .ref (a 0)), (1, .int v), (2, .int tm)]) hx hb dX8_sound_61 hl (k := 4) rfl (gk_inc1 _) (by decide) rfl (fun ls hl => ?_)
            refine lv_goto (tgt := 8) hx hb dX8_sound_64 (by decide) ?_
            exact ih8 (k + 1) _ _ ls (by exact snf_n (fun h9 => by first | exact no_tf h9.1 (by assumption) | exact absurd h9.2.1 (Int32.not_le.mpr (by assumption)) | exact absurd h9.2.2 (Int32.not_lt.mpr (by assumption)))) (by rfl) (by omega) (by omega) (lv_sub hl [2, 3, 4, 1, 0] rfl)
          · skip
            refine lv_aload_n hx hb dX8_sound_38 rfl (lv_at hl 0 rfl) ?_
            refine va_get (D := (dC, dI)) (ci := 8) (v := .ref (a 1)) (C := RX8) (T := TX8) (N := 10) hx hb hts i_X8 hown hK hP 0 rfl rfl 0 (by decide) k_1 (fun _ h9 => h9) rfl dX8_sound_39 ?_
            refine lv_iload hx hb dX8_sound_42 (lv_at hl 4 rfl) ?_
            refine gk_ld hx hb hK hP 1 0 rfl rfl k (by omega) (by omega) (v := F k) (rfl) dX8_sound_44 ?_
            refine lv_iload_n hx hb dX8_sound_45 rfl (lv_at hl 3 rfl) ?_
            refine lv_icmp_ge (tgt := 59) hx hb dX8_sound_46 (by decide) (fun c_6 => ?_) (fun c_6 => ?_)
            · skip
              refine lv_iload_n hx hb dX8_sound_59 rfl (lv_at hl 3 rfl) ?_
              refine lv_istore_n (lv' := [(3, .int (snf (isoB V v) F tm (mxT T n) k)), (0, .ref (a 0)), (1, .int v), (2, .int tm), (4, .int (nI k))]) hx hb dX8_sound_60 rfl hl (by decide) rfl (fun ls hl => ?_)
              refine lv_iinc (v := nI (k + 1)) (lv' := [(4, .int (nI (k + 1))), (3, .int (snf (isoB V v) F tm (mxT T n) k)), (0, .ref (a 0)), (1, .int v), (2, .int tm)]) hx hb dX8_sound_61 hl (k := 4) rfl (gk_inc1 _) (by decide) rfl (fun ls hl => ?_)
              refine lv_goto (tgt := 8) hx hb dX8_sound_64 (by decide) ?_
              exact ih8 (k + 1) _ _ ls (by exact snf_n (fun h9 => by first | exact no_tf h9.1 (by assumption) | exact absurd h9.2.1 (Int32.not_le.mpr (by assumption)) | exact absurd h9.2.2 (Int32.not_lt.mpr (by assumption)))) (by rfl) (by omega) (by omega) (lv_sub hl [2, 3, 4, 1, 0] rfl)
            · skip
              refine lv_aload_n hx hb dX8_sound_49 rfl (lv_at hl 0 rfl) ?_
              refine va_get (D := (dC, dI)) (ci := 8) (v := .ref (a 1)) (C := RX8) (T := TX8) (N := 10) hx hb hts i_X8 hown hK hP 0 rfl rfl 0 (by decide) k_1 (fun _ h9 => h9) rfl dX8_sound_50 ?_
              refine lv_iload hx hb dX8_sound_53 (lv_at hl 4 rfl) ?_
              refine gk_ld hx hb hK hP 1 0 rfl rfl k (by omega) (by omega) (v := F k) (rfl) dX8_sound_55 ?_
              refine lv_goto (tgt := 60) hx hb dX8_sound_56 (by decide) ?_
              refine lv_istore_n (lv' := [(3, .int (F k)), (0, .ref (a 0)), (1, .int v), (2, .int tm), (4, .int (nI k))]) hx hb dX8_sound_60 rfl hl (by decide) rfl (fun ls hl => ?_)
              refine lv_iinc (v := nI (k + 1)) (lv' := [(4, .int (nI (k + 1))), (3, .int (F k)), (0, .ref (a 0)), (1, .int v), (2, .int tm)]) hx hb dX8_sound_61 hl (k := 4) rfl (gk_inc1 _) (by decide) rfl (fun ls hl => ?_)
              refine lv_goto (tgt := 8) hx hb dX8_sound_64 (by decide) ?_
              exact ih8 (k + 1) _ _ ls (by exact snf_y ⟨by assumption, Int32.not_lt.mp (by assumption), Int32.not_le.mp (by assumption)⟩) (by rfl) (by omega) (by omega) (lv_sub hl [2, 3, 4, 1, 0] rfl)
  exact L8 ((n) + 1) 0 _ _ ls (by rfl) (by rfl) (by omega) (by omega) (lv_sub hl [2, 3, 4, 1, 0] rfl)

set_option maxHeartbeats 1000000 in
set_option maxRecDepth 100000 in
theorem c_X8_restOf (l : Launch) (dC : Nat → ClassId) (dI : Nat → Nat → Nat) (cI : ClassId) (a : Nat → Nat) (n : Nat) (F T P V Wt O G L R : Nat → Int32) (hn : n ≤ 60) (hT : ∀ j, (T j).toInt ≤ 100000) (v i en : Int32) (c2 : Nat) (RB RE : Nat → Int32) (hc2 : c2 ≤ 61) (hRP : RP (isoB V v) F T n c2 RB RE) : Met l yX8_restOf wsX8_restOf ({ frames := 2, cells := 0, slots := 0, locals := 47 } : Room) (va_Pc [.ref (a 0), .int v, .int i, .int en] (fun U => va_P (dC, dI) vwCl (mW cI a (nI n) F T P V Wt O G L R) U.heap ∧ va_K (dC, dI) vwCl [(cI, .int)] U)) (vp_Si (fun r => (∀ j, j < c2 → i = nI j → r = if en = 0 then RB j else RE j) ∧ ((∀ j, j < c2 → ¬ i = nI j) → r = if i < 0 then nI c2 else -2))) 0 0 (fun _ => False) := by
  refine Met.ofW (cc := cX8_restOf) (maxL := 8) (ret := (some .int)) (by decide) rfl ?_
  intro p e s m args below meth c s₁ B hml hv
  obtain ⟨rfl, hP, hK⟩ := hv
  have hx := B.exec
  have hb := B.bytes
  have hr := B.returns
  have hts := atoms_spec (ws := wsX8_restOf) B.pre
  have hown : s.vm.findClass RX8 = some m.cls := findClass_of_methodNamed B.named
  have hlocks := B.notSynchronized
  have hl := lv_entry ([.ref (a 0), .int v, .int i, .int en]) (n := 8) (Nat.le_of_ble_eq_true rfl)
  rw [lg_entry_eq]
  generalize (lg_sl ([.ref (a 0), .int v, .int i, .int en]) ++ List.replicate (8 - (lg_sl ([.ref (a 0), .int v, .int i, .int en])).length) Slot.unset).toArray = ls at hl ⊢
  have hl : lv_has ls 8 [(0, .ref (a 0)), (1, .int v), (2, .int i), (3, .int en)] := hl
  refine lv_aload_n hx hb dX8_restOf_0 rfl (lv_at hl 0 rfl) ?_
  refine vp_callSi (gk_run (va_runV (As := []) (rest := []) ⟨hx, hb, hml, hown, hts⟩ (c_X8_theEnd l dC dI cI a n F T P V Wt O G L R hn) (cwV 0 hts gX8_restOf_X8_theEnd rfl rfl rfl (by decide +kernel) ⟨Nat.le_of_ble_eq_true rfl, Nat.le_of_ble_eq_true rfl⟩) ⟨gk_fb, va_recv hK hP (ci := 8) (q0 := 0) rfl rfl, fun U hU hW => ⟨rfl, by rw [hU]; exact hP, va_K.moved hW.alike hK⟩⟩ rfl rfl hl.1 rfl (lv_room (Nat.le_of_ble_eq_true rfl)) dX8_restOf_1 ⟨Nat.zero_le _, Nat.zero_le _⟩)) (fun r_1 er_1 => ?_)
  subst er_1
  refine lv_istore (lv' := [(4, .int (mxT T n)), (0, .ref (a 0)), (1, .int v), (2, .int i), (3, .int en)]) hx hb dX8_restOf_4 hl (by decide) rfl (fun ls hl => ?_)
  refine lv_iconst (v := 0) hx hb dX8_restOf_6 (by decide) ?_
  refine lv_istore (lv' := [(5, .int 0), (4, .int (mxT T n)), (0, .ref (a 0)), (1, .int v), (2, .int i), (3, .int en)]) hx hb dX8_restOf_7 hl (by decide) rfl (fun ls hl => ?_)
  refine lv_aload_n hx hb dX8_restOf_9 rfl (lv_at hl 2 rfl) ?_
  refine lv_iload_n hx hb dX8_restOf_10 rfl (lv_at hl 3 rfl) ?_
  refine lv_iconst (v := 0) hx hb dX8_restOf_11 (by decide) ?_
  refine vp_callSi (gk_run (va_runV (As := [.int v, .int 0]) (rest := []) ⟨hx, hb, hml, hown, hts⟩ (c_X8_silence l dC dI cI a n F T P V Wt O G L R hn hT v 0) (cwV 2 hts gX8_restOf_X8_silence rfl rfl rfl (by decide +kernel) ⟨Nat.le_of_ble_eq_true rfl, Nat.le_of_ble_eq_true rfl⟩) ⟨gk_fb, va_recv hK hP (ci := 8) (q0 := 0) rfl rfl, fun U hU hW => ⟨rfl, by rw [hU]; exact hP, va_K.moved hW.alike hK⟩⟩ rfl rfl hl.1 rfl (lv_room (Nat.le_of_ble_eq_true rfl)) dX8_restOf_12 ⟨Nat.zero_le _, Nat.zero_le _⟩)) (fun r_2 er_2 => ?_)
  have hsl0 := er_2
  refine lv_istore (lv' := [(6, .int r_2), (5, .int 0), (4, .int (mxT T n)), (0, .ref (a 0)), (1, .int v), (2, .int i), (3, .int en)]) hx hb dX8_restOf_15 hl (by decide) rfl (fun ls hl => ?_)
  have L17 : ∀ (fu : Nat) (j2 : Nat) (t1 : Int32) (x5 x6 : Int32) (ls : Array Slot), x5 = nI j2 → x6 = t1 → j2 ≤ c2 → SIL (isoB V v) F T n (pe RE j2) t1 → (∀ j, j < j2 → ¬ i = nI j) → c2 - j2 < fu → lv_has ls 8 [(0, .ref (a 0)), (1, .int v), (2, .int i), (3, .int en), (4, .int (mxT T n)), (5, .int x5), (6, .int x6)] → W p l e (headSpec wsX8_restOf ({ frames := 2, cells := 0, slots := 0, locals := 47 } : Room)).room s m [.ref (a 0), .int v, .int i, .int en].toArray below meth c s.heap [] 0 0 (MQ below (vp_Si (fun r => (∀ j, j < c2 → i = nI j → r = if en = 0 then RB j else RE j) ∧ ((∀ j, j < c2 → ¬ i = nI j) → r = if i < 0 then nI c2 else -2))) [.ref (a 0), .int v, .int i, .int en].toArray s 0 0 (fun _ => False)) (F0 m 17 ls []) := by
    intro fu
    induction fu with
    | zero =>
      intro j2 t1 x5 x6 ls e5 e6 hj2 hs2 hno hfu17 hl
      exact absurd hfu17 (Nat.not_lt_zero _)
    | succ fu ih17 =>
      intro j2 t1 x5 x6 ls e5 e6 hj2 hs2 hno hfu17 hl
      subst e5
      have e6 := e6.symm
      subst e6
      refine lv_iload hx hb dX8_restOf_17 (lv_at hl 6 rfl) ?_
      refine lv_iload hx hb dX8_restOf_19 (lv_at hl 4 rfl) ?_
      refine lv_icmp_ge (tgt := 66) hx hb dX8_restOf_21 (by decide) (fun c_3 => ?_) (fun c_3 => ?_)
      · skip
        refine lv_iload_n hx hb dX8_restOf_66 rfl (lv_at hl 2 rfl) ?_
        refine lv_if_ge (tgt := 75) hx hb dX8_restOf_67 (by decide) (fun c_4 => ?_) (fun c_4 => ?_)
        · skip
          refine lv_bipush (v := (-2)) hx hb dX8_restOf_75 (by decide) ?_
          exact W.iret (v := (-2)) hx hb hr (fun t ht _ => ⟨_, rfl, by have hj9 := (RP_at hRP hj2 hs2).2 (Int32.not_lt.mpr (by assumption)); subst hj9; exact ⟨fun j hj ei => absurd ei (hno j hj), fun _ => ite_f (Int32.not_lt.mpr (by assumption)) rfl⟩, ht⟩) (fun q h => by cases h) dX8_restOf_77
        · skip
          refine lv_iload hx hb dX8_restOf_70 (lv_at hl 5 rfl) ?_
          refine lv_goto (tgt := 77) hx hb dX8_restOf_72 (by decide) ?_
          exact W.iret (v := nI j2) hx hb hr (fun t ht _ => ⟨_, rfl, by have hj9 := (RP_at hRP hj2 hs2).2 (Int32.not_lt.mpr (by assumption)); subst hj9; exact ⟨fun j hj ei => absurd ei (hno j hj), fun _ => ite_t (Int32.not_le.mp (by assumption)) rfl⟩, ht⟩) (fun q h => by cases h) dX8_restOf_77
      · skip
        obtain ⟨hj3, et⟩ := (RP_at hRP hj2 hs2).1 (Int32.not_le.mp c_3)
        subst et
        refine lv_aload_n hx hb dX8_restOf_24 rfl (lv_at hl 0 rfl) ?_
        refine lv_iload_n hx hb dX8_restOf_25 rfl (lv_at hl 1 rfl) ?_
        refine lv_iload hx hb dX8_restOf_26 (lv_at hl 6 rfl) ?_
        refine vp_callSi (gk_run (va_runV (As := [.int v, .int (RB j2)]) (rest := []) ⟨hx, hb, hml, hown, hts⟩ (c_X8_sound l dC dI cI a n F T P V Wt O G L R hn v (RB j2)) (cwV 2 hts gX8_restOf_X8_sound rfl rfl rfl (by decide +kernel) ⟨Nat.le_of_ble_eq_true rfl, Nat.le_of_ble_eq_true rfl⟩) ⟨gk_fb, va_recv hK hP (ci := 8) (q0 := 0) rfl rfl, fun U hU hW => ⟨rfl, by rw [hU]; exact hP, va_K.moved hW.alike hK⟩⟩ rfl rfl hl.1 rfl (lv_room (Nat.le_of_ble_eq_true rfl)) dX8_restOf_28 ⟨Nat.zero_le _, Nat.zero_le _⟩)) (fun r_5 er_5 => ?_)
        subst er_5
        refine gk_top (y := RE j2) (RP_next hRP hj3) ?_
        refine lv_istore (lv' := [(7, .int (RE j2)), (0, .ref (a 0)), (1, .int v), (2, .int i), (3, .int en), (4, .int (mxT T n)), (5, .int (nI j2)), (6, .int (RB j2))]) hx hb dX8_restOf_31 hl (by decide) rfl (fun ls hl => ?_)
        refine lv_iload hx hb dX8_restOf_33 (lv_at hl 6 rfl) ?_
        refine lv_iload_n hx hb dX8_restOf_35 rfl (lv_at hl 3 rfl) ?_
        refine lv_icmp_ne (tgt := 51) hx hb dX8_restOf_36 (by decide) (fun c_6 => ?_) (fun c_6 => ?_)
        · skip
          refine lv_iinc (v := nI (j2 + 1)) (lv' := [(5, .int (nI (j2 + 1))), (7, .int (RE j2)), (0, .ref (a 0)), (1, .int v), (2, .int i), (3, .int en), (4, .int (mxT T n)), (6, .int (RB j2))]) hx hb dX8_restOf_51 hl (k := 6) rfl (gk_inc1 _) (by decide) rfl (fun ls hl => ?_)
          refine lv_aload_n hx hb dX8_restOf_54 rfl (lv_at hl 2 rfl) ?_
          refine lv_iload_n hx hb dX8_restOf_55 rfl (lv_at hl 3 rfl) ?_
          refine lv_iload hx hb dX8_restOf_56 (lv_at hl 1 rfl) ?_
          refine vp_callSi (gk_run (va_runV (As := [.int v, .int (RE j2)]) (rest := []) ⟨hx, hb, hml, hown, hts⟩ (c_X8_silence l dC dI cI a n F T P V Wt O G L R hn hT v (RE j2)) (cwV 2 hts gX8_restOf_X8_silence rfl rfl rfl (by decide +kernel) ⟨Nat.le_of_ble_eq_true rfl, Nat.le_of_ble_eq_true rfl⟩) ⟨gk_fb, va_recv hK hP (ci := 8) (q0 := 0) rfl rfl, fun U hU hW => ⟨rfl, by rw [hU]; exact hP, va_K.moved hW.alike hK⟩⟩ rfl rfl hl.1 rfl (lv_room (Nat.le_of_ble_eq_true rfl)) dX8_restOf_58 ⟨Nat.zero_le _, Nat.zero_le _⟩)) (fun r_7 er_7 => ?_)
          have hsl1 := er_7
          refine lv_istore (lv' := [(6, .int r_7), (5, .int (nI (j2 + 1))), (7, .int (RE j2)), (0, .ref (a 0)), (1, .int v), (2, .int i), (3, .int en), (4, .int (mxT T n))]) hx hb dX8_restOf_61 hl (by decide) rfl (fun ls hl => ?_)
          refine lv_goto (tgt := 17) hx hb dX8_restOf_63 (by decide) ?_
          exact ih17 (j2 + 1) r_7 _ _ ls (by rfl) (by rfl) (by omega) (by (rw [pe_s]; exact hsl1)) (by exact fun j hj => (Nat.lt_succ_iff_lt_or_eq.mp hj).elim (hno j) (fun e9 => by subst e9; intro e8; exact absurd e8.symm (by assumption))) (by omega) (lv_sub hl [3, 4, 5, 6, 7, 1, 0] rfl)
        · skip
          refine lv_iload_n hx hb dX8_restOf_39 rfl (lv_at hl 4 rfl) ?_
          refine lv_if_eq (tgt := 48) hx hb dX8_restOf_40 (by decide) (fun c_8 => ?_) (fun c_8 => ?_)
          · skip
            refine lv_iload hx hb dX8_restOf_48 (lv_at hl 7 rfl) ?_
            exact W.iret (v := RB j2) hx hb hr (fun t ht _ => ⟨_, rfl, by refine ⟨fun j hj ei => ?_, fun h => absurd (show nI j2 = i by assumption) (fun e9 => h j2 hj3 e9.symm)⟩; obtain rfl : j2 = j := (nI_eq (by omega) (by omega)).mp ((show nI j2 = i by assumption).trans ei); exact ite_t (by assumption) rfl, ht⟩) (fun q h => by cases h) dX8_restOf_50
          · skip
            refine lv_iload hx hb dX8_restOf_43 (lv_at hl 0 rfl) ?_
            refine lv_goto (tgt := 50) hx hb dX8_restOf_45 (by decide) ?_
            exact W.iret (v := RE j2) hx hb hr (fun t ht _ => ⟨_, rfl, by refine ⟨fun j hj ei => ?_, fun h => absurd (show nI j2 = i by assumption) (fun e9 => h j2 hj3 e9.symm)⟩; obtain rfl : j2 = j := (nI_eq (by omega) (by omega)).mp ((show nI j2 = i by assumption).trans ei); exact ite_f (by assumption) rfl, ht⟩) (fun q h => by cases h) dX8_restOf_50
  exact L17 ((c2) + 1) 0 r_2 _ _ ls (by rfl) (by rfl) (by omega) (by exact hsl0) (by exact fun j hj => absurd hj (Nat.not_lt_zero j)) (by omega) (lv_sub hl [3, 4, 5, 6, 2, 1, 0] rfl)

set_option maxHeartbeats 1000000 in
set_option maxRecDepth 100000 in
theorem c_X8_rests (l : Launch) (dC : Nat → ClassId) (dI : Nat → Nat → Nat) (cI : ClassId) (a : Nat → Nat) (n : Nat) (F T P V Wt : Nat → Int32) (o : Nat → Nat) (G L R : Nat → Int32) (hn : n ≤ 60) (ho : ∀ j, o j < 60) (hT : ∀ j, (T j).toInt ≤ 100000) (v : Int32) (c2 : Nat) (RB RE : Nat → Int32) (hc2 : c2 ≤ 61) (hRP : 0 ≤ v ∧ v ≤ 4 → RP (isoB V v) F T n c2 RB RE) : Met l yX8_rests wsX8_rests ({ frames := 3, cells := 0, slots := 0, locals := 74 } : Room) (va_Pc [.ref (a 0), .int v] (fun U => va_P (dC, dI) vwCl (mW cI a (nI n) F T P V Wt (fun j => nI (o j)) G L R) U.heap ∧ va_K (dC, dI) vwCl [(cI, .int)] U)) (vp_Si (fun rr => rr = if 0 ≤ v ∧ v ≤ 4 then nI c2 else -2)) 0 0 (fun _ => False) := by
  refine Met.ofW (cc := cX8_rests) (maxL := 2) (ret := (some .int)) (by decide) rfl ?_
  intro p e s m args below meth c s₁ B hml hv
  obtain ⟨rfl, hP, hK⟩ := hv
  have hx := B.exec
  have hb := B.bytes
  have hr := B.returns
  have hts := atoms_spec (ws := wsX8_rests) B.pre
  have hown : s.vm.findClass RX8 = some m.cls := findClass_of_methodNamed B.named
  have hlocks := B.notSynchronized
  have hl := lv_entry ([.ref (a 0), .int v]) (n := 2) (Nat.le_of_ble_eq_true rfl)
  rw [lg_entry_eq]
  generalize (lg_sl ([.ref (a 0), .int v]) ++ List.replicate (2 - (lg_sl ([.ref (a 0), .int v])).length) Slot.unset).toArray = ls at hl ⊢
  have hl : lv_has ls 2 [(0, .ref (a 0)), (1, .int v)] := hl
  refine lv_iload_n hx hb dX8_rests_0 rfl (lv_at hl 1 rfl) ?_
  refine lv_if_lt (tgt := 9) hx hb dX8_rests_1 (by decide) (fun c_1 => ?_) (fun c_1 => ?_)
  · skip
    refine lv_bipush (v := (-2)) hx hb dX8_rests_9 (by decide) ?_
    refine lv_goto (tgt := 21) hx hb dX8_rests_11 (by decide) ?_
    exact W.iret (v := (-2)) hx hb hr (fun t ht _ => ⟨_, rfl, by first | exact ite_t (by (simp only [decide_eq_true_eq, decide_eq_false_iff_not, Bool.and_eq_true, Bool.and_eq_false_iff, Bool.or_eq_true, Bool.or_eq_false_iff, Bool.not_eq_true, Bool.not_eq_false, ne_eq, not_and, not_or, tog_t, tog_f, ahd_t, ahd_f, isoB_t, isoB_f, ixB_t, ixB_f, vOK_t, vOK_f, wOK_t, wOK_f, tn4, tI5, isoC_t, isoC_f, Int32.lt_iff_toInt_lt, Int32.le_iff_toInt_le, ← Int32.toInt_inj, tI0, tI1, tI2, tI3, tI4, tI6, tI14, tI59, tI60, tI127, tI1000, tI100000, tIm1, tIm2, tIm3, tIm4, tIbig] at c_1 ⊢; first | done | omega)) rfl | exact ite_f (by (simp only [decide_eq_true_eq, decide_eq_false_iff_not, Bool.and_eq_true, Bool.and_eq_false_iff, Bool.or_eq_true, Bool.or_eq_false_iff, Bool.not_eq_true, Bool.not_eq_false, ne_eq, not_and, not_or, tog_t, tog_f, ahd_t, ahd_f, isoB_t, isoB_f, ixB_t, ixB_f, vOK_t, vOK_f, wOK_t, wOK_f, tn4, tI5, isoC_t, isoC_f, Int32.lt_iff_toInt_lt, Int32.le_iff_toInt_le, ← Int32.toInt_inj, tI0, tI1, tI2, tI3, tI4, tI6, tI14, tI59, tI60, tI127, tI1000, tI100000, tIm1, tIm2, tIm3, tIm4, tIbig] at c_1 ⊢; first | done | omega)) rfl, ht⟩) (fun q h => by cases h) dX8_rests_21
  · skip
    refine lv_iload_n hx hb dX8_rests_4 rfl (lv_at hl 1 rfl) ?_
    refine lv_iconst (v := 4) hx hb dX8_rests_5 (by decide) ?_
    refine lv_icmp_le (tgt := 14) hx hb dX8_rests_6 (by decide) (fun c_2 => ?_) (fun c_2 => ?_)
    · skip
      refine lv_aload_n hx hb dX8_rests_14 rfl (lv_at hl 0 rfl) ?_
      refine lv_iload_n hx hb dX8_rests_15 rfl (lv_at hl 1 rfl) ?_
      refine lv_iconst (v := (-1)) hx hb dX8_rests_16 (by decide) ?_
      refine lv_iconst (v := 0) hx hb dX8_rests_17 (by decide) ?_
      refine vp_callSi (gk_run (va_runV (As := [.int v, .int (-1), .int 0]) (rest := []) ⟨hx, hb, hml, hown, hts⟩ (c_X8_restOf l dC dI cI a n F T P V Wt (fun j => nI (o j)) G L R hn hT v (-1) 0 c2 RB RE hc2 (hRP (by (simp only [decide_eq_true_eq, decide_eq_false_iff_not, Bool.and_eq_true, Bool.and_eq_false_iff, Bool.or_eq_true, Bool.or_eq_false_iff, Bool.not_eq_true, Bool.not_eq_false, ne_eq, not_and, not_or, tog_t, tog_f, ahd_t, ahd_f, isoB_t, isoB_f, ixB_t, ixB_f, vOK_t, vOK_f, wOK_t, wOK_f, tn4, tI5, isoC_t, isoC_f, Int32.lt_iff_toInt_lt, Int32.le_iff_toInt_le, ← Int32.toInt_inj, tI0, tI1, tI2, tI3, tI4, tI6, tI14, tI59, tI60, tI127, tI1000, tI100000, tIm1, tIm2, tIm3, tIm4, tIbig] at c_1 c_2 ⊢; first | done | omega)))) (cwV 3 hts gX8_rests_X8_restOf rfl rfl rfl (by decide +kernel) ⟨Nat.le_of_ble_eq_true rfl, Nat.le_of_ble_eq_true rfl⟩) ⟨gk_fb, va_recv hK hP (ci := 8) (q0 := 0) rfl rfl, fun U hU hW => ⟨rfl, by rw [hU]; exact hP, va_K.moved hW.alike hK⟩⟩ rfl rfl hl.1 rfl (lv_room (Nat.le_of_ble_eq_true rfl)) dX8_rests_18 ⟨Nat.zero_le _, Nat.zero_le _⟩)) (fun r_3 er_3 => ?_)
      have eR := (er_3).2 (fun j hj e9 => no_m1 (by omega) e9.symm)
      rw [if_pos (by decide)] at eR
      subst eR
      exact W.iret (v := nI c2) hx hb hr (fun t ht _ => ⟨_, rfl, by first | exact ite_t (by (simp only [decide_eq_true_eq, decide_eq_false_iff_not, Bool.and_eq_true, Bool.and_eq_false_iff, Bool.or_eq_true, Bool.or_eq_false_iff, Bool.not_eq_true, Bool.not_eq_false, ne_eq, not_and, not_or, tog_t, tog_f, ahd_t, ahd_f, isoB_t, isoB_f, ixB_t, ixB_f, vOK_t, vOK_f, wOK_t, wOK_f, tn4, tI5, isoC_t, isoC_f, Int32.lt_iff_toInt_lt, Int32.le_iff_toInt_le, ← Int32.toInt_inj, tI0, tI1, tI2, tI3, tI4, tI6, tI14, tI59, tI60, tI127, tI1000, tI100000, tIm1, tIm2, tIm3, tIm4, tIbig] at c_1 c_2 ⊢; first | done | omega)) rfl | exact ite_f (by (simp only [decide_eq_true_eq, decide_eq_false_iff_not, Bool.and_eq_true, Bool.and_eq_false_iff, Bool.or_eq_true, Bool.or_eq_false_iff, Bool.not_eq_true, Bool.not_eq_false, ne_eq, not_and, not_or, tog_t, tog_f, ahd_t, ahd_f, isoB_t, isoB_f, ixB_t, ixB_f, vOK_t, vOK_f, wOK_t, wOK_f, tn4, tI5, isoC_t, isoC_f, Int32.lt_iff_toInt_lt, Int32.le_iff_toInt_le, ← Int32.toInt_inj, tI0, tI1, tI2, tI3, tI4, tI6, tI14, tI59, tI60, tI127, tI1000, tI100000, tIm1, tIm2, tIm3, tIm4, tIbig] at c_1 c_2 ⊢; first | done | omega)) rfl, ht⟩) (fun q h => by cases h) dX8_rests_21
    · skip
      refine lv_bipush (v := (-2)) hx hb dX8_rests_9 (by decide) ?_
      refine lv_goto (tgt := 21) hx hb dX8_rests_11 (by decide) ?_
      exact W.iret (v := (-2)) hx hb hr (fun t ht _ => ⟨_, rfl, by first | exact ite_t (by (simp only [decide_eq_true_eq, decide_eq_false_iff_not, Bool.and_eq_true, Bool.and_eq_false_iff, Bool.or_eq_true, Bool.or_eq_false_iff, Bool.not_eq_true, Bool.not_eq_false, ne_eq, not_and, not_or, tog_t, tog_f, ahd_t, ahd_f, isoB_t, isoB_f, ixB_t, ixB_f, vOK_t, vOK_f, wOK_t, wOK_f, tn4, tI5, isoC_t, isoC_f, Int32.lt_iff_toInt_lt, Int32.le_iff_toInt_le, ← Int32.toInt_inj, tI0, tI1, tI2, tI3, tI4, tI6, tI14, tI59, tI60, tI127, tI1000, tI100000, tIm1, tIm2, tIm3, tIm4, tIbig] at c_1 c_2 ⊢; first | done | omega)) rfl | exact ite_f (by (simp only [decide_eq_true_eq, decide_eq_false_iff_not, Bool.and_eq_true, Bool.and_eq_false_iff, Bool.or_eq_true, Bool.or_eq_false_iff, Bool.not_eq_true, Bool.not_eq_false, ne_eq, not_and, not_or, tog_t, tog_f, ahd_t, ahd_f, isoB_t, isoB_f, ixB_t, ixB_f, vOK_t, vOK_f, wOK_t, wOK_f, tn4, tI5, isoC_t, isoC_f, Int32.lt_iff_toInt_lt, Int32.le_iff_toInt_le, ← Int32.toInt_inj, tI0, tI1, tI2, tI3, tI4, tI6, tI14, tI59, tI60, tI127, tI1000, tI100000, tIm1, tIm2, tIm3, tIm4, tIbig] at c_1 c_2 ⊢; first | done | omega)) rfl, ht⟩) (fun q h => by cases h) dX8_rests_21

set_option maxHeartbeats 1000000 in
set_option maxRecDepth 100000 in
theorem c_X8_rest (l : Launch) (dC : Nat → ClassId) (dI : Nat → Nat → Nat) (cI : ClassId) (a : Nat → Nat) (n : Nat) (F T P V Wt : Nat → Int32) (o : Nat → Nat) (G L R : Nat → Int32) (hn : n ≤ 60) (ho : ∀ j, o j < 60) (hT : ∀ j, (T j).toInt ≤ 100000) (v i w : Int32) (c2 : Nat) (RB RE : Nat → Int32) (hc2 : c2 ≤ 61) (hRP : 0 ≤ v ∧ v ≤ 4 ∧ 0 ≤ w ∧ w ≤ 1 → RP (isoB V v) F T n c2 RB RE) : Met l yX8_rest wsX8_rest ({ frames := 3, cells := 0, slots := 0, locals := 74 } : Room) (va_Pc [.ref (a 0), .int v, .int i, .int w] (fun U => va_P (dC, dI) vwCl (mW cI a (nI n) F T P V Wt (fun j => nI (o j)) G L R) U.heap ∧ va_K (dC, dI) vwCl [(cI, .int)] U)) (vp_Si (fun r => (¬ (0 ≤ v ∧ v ≤ 4 ∧ 0 ≤ w ∧ w ≤ 1) → r = -2) ∧ (0 ≤ v ∧ v ≤ 4 ∧ 0 ≤ w ∧ w ≤ 1 → ∀ j, j < c2 → i = nI j → r = if w = 0 then RB j else RE j) ∧ (0 ≤ v ∧ v ≤ 4 ∧ 0 ≤ w ∧ w ≤ 1 → ixB i c2 = false → r = -2))) 0 0 (fun _ => False) := by
  refine Met.ofW (cc := cX8_rest) (maxL := 4) (ret := (some .int)) (by decide) rfl ?_
  intro p e s m args below meth c s₁ B hml hv
  obtain ⟨rfl, hP, hK⟩ := hv
  have hx := B.exec
  have hb := B.bytes
  have hr := B.returns
  have hts := atoms_spec (ws := wsX8_rest) B.pre
  have hown : s.vm.findClass RX8 = some m.cls := findClass_of_methodNamed B.named
  have hlocks := B.notSynchronized
  have hl := lv_entry ([.ref (a 0), .int v, .int i, .int w]) (n := 4) (Nat.le_of_ble_eq_true rfl)
  rw [lg_entry_eq]
  generalize (lg_sl ([.ref (a 0), .int v, .int i, .int w]) ++ List.replicate (4 - (lg_sl ([.ref (a 0), .int v, .int i, .int w])).length) Slot.unset).toArray = ls at hl ⊢
  have hl : lv_has ls 4 [(0, .ref (a 0)), (1, .int v), (2, .int i), (3, .int w)] := hl
  refine lv_iload_n hx hb dX8_rest_0 rfl (lv_at hl 1 rfl) ?_
  refine lv_if_lt (tgt := 22) hx hb dX8_rest_1 (by decide) (fun c_1 => ?_) (fun c_1 => ?_)
  · skip
    refine lv_bipush (v := (-2)) hx hb dX8_rest_22 (by decide) ?_
    exact W.iret (v := (-2)) hx hb hr (fun t ht _ => ⟨_, rfl, by refine ⟨fun _ => rfl, fun h j hj ei => ?_, fun _ _ => rfl⟩; exfalso; have hi9 := ix_in hj (by omega) ei; (simp only [decide_eq_true_eq, decide_eq_false_iff_not, Bool.and_eq_true, Bool.and_eq_false_iff, Bool.or_eq_true, Bool.or_eq_false_iff, Bool.not_eq_true, Bool.not_eq_false, ne_eq, not_and, not_or, tog_t, tog_f, ahd_t, ahd_f, isoB_t, isoB_f, ixB_t, ixB_f, vOK_t, vOK_f, wOK_t, wOK_f, tn4, tI5, isoC_t, isoC_f, Int32.lt_iff_toInt_lt, Int32.le_iff_toInt_le, ← Int32.toInt_inj, tI0, tI1, tI2, tI3, tI4, tI6, tI14, tI59, tI60, tI127, tI1000, tI100000, tIm1, tIm2, tIm3, tIm4, tIbig] at hi9 h c_1; first | done | omega), ht⟩) (fun q h => by cases h) dX8_rest_24
  · skip
    refine lv_iload_n hx hb dX8_rest_4 rfl (lv_at hl 1 rfl) ?_
    refine lv_iconst (v := 4) hx hb dX8_rest_5 (by decide) ?_
    refine lv_icmp_gt (tgt := 22) hx hb dX8_rest_6 (by decide) (fun c_2 => ?_) (fun c_2 => ?_)
    · skip
      refine lv_bipush (v := (-2)) hx hb dX8_rest_22 (by decide) ?_
      exact W.iret (v := (-2)) hx hb hr (fun t ht _ => ⟨_, rfl, by refine ⟨fun _ => rfl, fun h j hj ei => ?_, fun _ _ => rfl⟩; exfalso; have hi9 := ix_in hj (by omega) ei; (simp only [decide_eq_true_eq, decide_eq_false_iff_not, Bool.and_eq_true, Bool.and_eq_false_iff, Bool.or_eq_true, Bool.or_eq_false_iff, Bool.not_eq_true, Bool.not_eq_false, ne_eq, not_and, not_or, tog_t, tog_f, ahd_t, ahd_f, isoB_t, isoB_f, ixB_t, ixB_f, vOK_t, vOK_f, wOK_t, wOK_f, tn4, tI5, isoC_t, isoC_f, Int32.lt_iff_toInt_lt, Int32.le_iff_toInt_le, ← Int32.toInt_inj, tI0, tI1, tI2, tI3, tI4, tI6, tI14, tI59, tI60, tI127, tI1000, tI100000, tIm1, tIm2, tIm3, tIm4, tIbig] at hi9 h c_1 c_2; first | done | omega), ht⟩) (fun q h => by cases h) dX8_rest_24
    · skip
      refine lv_iload_n hx hb dX8_rest_9 rfl (lv_at hl 2 rfl) ?_
      refine lv_if_lt (tgt := 22) hx hb dX8_rest_10 (by decide) (fun c_3 => ?_) (fun c_3 => ?_)
      · skip
        refine lv_bipush (v := (-2)) hx hb dX8_rest_22 (by decide) ?_
        exact W.iret (v := (-2)) hx hb hr (fun t ht _ => ⟨_, rfl, by refine ⟨fun _ => rfl, fun h j hj ei => ?_, fun _ _ => rfl⟩; exfalso; have hi9 := ix_in hj (by omega) ei; (simp only [decide_eq_true_eq, decide_eq_false_iff_not, Bool.and_eq_true, Bool.and_eq_false_iff, Bool.or_eq_true, Bool.or_eq_false_iff, Bool.not_eq_true, Bool.not_eq_false, ne_eq, not_and, not_or, tog_t, tog_f, ahd_t, ahd_f, isoB_t, isoB_f, ixB_t, ixB_f, vOK_t, vOK_f, wOK_t, wOK_f, tn4, tI5, isoC_t, isoC_f, Int32.lt_iff_toInt_lt, Int32.le_iff_toInt_le, ← Int32.toInt_inj, tI0, tI1, tI2, tI3, tI4, tI6, tI14, tI59, tI60, tI127, tI1000, tI100000, tIm1, tIm2, tIm3, tIm4, tIbig] at hi9 h c_1 c_2 c_3; first | done | omega), ht⟩) (fun q h => by cases h) dX8_rest_24
      · skip
        refine lv_iload_n hx hb dX8_rest_13 rfl (lv_at hl 3 rfl) ?_
        refine lv_if_lt (tgt := 22) hx hb dX8_rest_14 (by decide) (fun c_4 => ?_) (fun c_4 => ?_)
        · skip
          refine lv_bipush (v := (-2)) hx hb dX8_rest_22 (by decide) ?_
          exact W.iret (v := (-2)) hx hb hr (fun t ht _ => ⟨_, rfl, by refine ⟨fun _ => rfl, fun h j hj ei => ?_, fun _ _ => rfl⟩; exfalso; have hi9 := ix_in hj (by omega) ei; (simp only [decide_eq_true_eq, decide_eq_false_iff_not, Bool.and_eq_true, Bool.and_eq_false_iff, Bool.or_eq_true, Bool.or_eq_false_iff, Bool.not_eq_true, Bool.not_eq_false, ne_eq, not_and, not_or, tog_t, tog_f, ahd_t, ahd_f, isoB_t, isoB_f, ixB_t, ixB_f, vOK_t, vOK_f, wOK_t, wOK_f, tn4, tI5, isoC_t, isoC_f, Int32.lt_iff_toInt_lt, Int32.le_iff_toInt_le, ← Int32.toInt_inj, tI0, tI1, tI2, tI3, tI4, tI6, tI14, tI59, tI60, tI127, tI1000, tI100000, tIm1, tIm2, tIm3, tIm4, tIbig] at hi9 h c_1 c_2 c_3 c_4; first | done | omega), ht⟩) (fun q h => by cases h) dX8_rest_24
        · skip
          refine lv_iload_n hx hb dX8_rest_17 rfl (lv_at hl 3 rfl) ?_
          refine lv_iconst (v := 1) hx hb dX8_rest_18 (by decide) ?_
          refine lv_icmp_le (tgt := 25) hx hb dX8_rest_19 (by decide) (fun c_5 => ?_) (fun c_5 => ?_)
          · skip
            refine lv_aload_n hx hb dX8_rest_25 rfl (lv_at hl 0 rfl) ?_
            refine lv_iload_n hx hb dX8_rest_26 rfl (lv_at hl 1 rfl) ?_
            refine lv_iload_n hx hb dX8_rest_27 rfl (lv_at hl 2 rfl) ?_
            refine lv_iload_n hx hb dX8_rest_28 rfl (lv_at hl 3 rfl) ?_
            refine lv_iconst (v := 1) hx hb dX8_rest_29 (by decide) ?_
            refine lv_icmp_ne (tgt := 37) hx hb dX8_rest_30 (by decide) (fun c_6 => ?_) (fun c_6 => ?_)
            · skip
              refine lv_iconst (v := 0) hx hb dX8_rest_37 (by decide) ?_
              refine vp_callSi (gk_run (va_runV (As := [.int v, .int i, .int 0]) (rest := []) ⟨hx, hb, hml, hown, hts⟩ (c_X8_restOf l dC dI cI a n F T P V Wt (fun j => nI (o j)) G L R hn hT v i 0 c2 RB RE hc2 (hRP (by (simp only [decide_eq_true_eq, decide_eq_false_iff_not, Bool.and_eq_true, Bool.and_eq_false_iff, Bool.or_eq_true, Bool.or_eq_false_iff, Bool.not_eq_true, Bool.not_eq_false, ne_eq, not_and, not_or, tog_t, tog_f, ahd_t, ahd_f, isoB_t, isoB_f, ixB_t, ixB_f, vOK_t, vOK_f, wOK_t, wOK_f, tn4, tI5, isoC_t, isoC_f, Int32.lt_iff_toInt_lt, Int32.le_iff_toInt_le, ← Int32.toInt_inj, tI0, tI1, tI2, tI3, tI4, tI6, tI14, tI59, tI60, tI127, tI1000, tI100000, tIm1, tIm2, tIm3, tIm4, tIbig] at c_1 c_2 c_3 c_4 c_5 c_6 ⊢; first | done | omega)))) (cwV 3 hts gX8_rest_X8_restOf rfl rfl rfl (by decide +kernel) ⟨Nat.le_of_ble_eq_true rfl, Nat.le_of_ble_eq_true rfl⟩) ⟨gk_fb, va_recv hK hP (ci := 8) (q0 := 0) rfl rfl, fun U hU hW => ⟨rfl, by rw [hU]; exact hP, va_K.moved hW.alike hK⟩⟩ rfl rfl hl.1 rfl (lv_room (Nat.le_of_ble_eq_true rfl)) dX8_rest_38 ⟨Nat.zero_le _, Nat.zero_le _⟩)) (fun r_7 er_7 => ?_)
              have hro := er_7
              exact W.iret (v := r_7) hx hb hr (fun t ht _ => ⟨_, rfl, by refine ⟨fun h => absurd (show 0 ≤ v ∧ v ≤ 4 ∧ 0 ≤ w ∧ w ≤ 1 by (simp only [decide_eq_true_eq, decide_eq_false_iff_not, Bool.and_eq_true, Bool.and_eq_false_iff, Bool.or_eq_true, Bool.or_eq_false_iff, Bool.not_eq_true, Bool.not_eq_false, ne_eq, not_and, not_or, tog_t, tog_f, ahd_t, ahd_f, isoB_t, isoB_f, ixB_t, ixB_f, vOK_t, vOK_f, wOK_t, wOK_f, tn4, tI5, isoC_t, isoC_f, Int32.lt_iff_toInt_lt, Int32.le_iff_toInt_le, ← Int32.toInt_inj, tI0, tI1, tI2, tI3, tI4, tI6, tI14, tI59, tI60, tI127, tI1000, tI100000, tIm1, tIm2, tIm3, tIm4, tIbig] at c_1 c_2 c_3 c_4 c_5 c_6 ⊢; first | done | omega)) h, fun h j hj ei => ?_, fun h hi9 => ?_⟩; (rw [hro.1 j hj ei]; first | (rw [if_pos (show (0 : Int32) = 0 from rfl), if_pos (by (simp only [decide_eq_true_eq, decide_eq_false_iff_not, Bool.and_eq_true, Bool.and_eq_false_iff, Bool.or_eq_true, Bool.or_eq_false_iff, Bool.not_eq_true, Bool.not_eq_false, ne_eq, not_and, not_or, tog_t, tog_f, ahd_t, ahd_f, isoB_t, isoB_f, ixB_t, ixB_f, vOK_t, vOK_f, wOK_t, wOK_f, tn4, tI5, isoC_t, isoC_f, Int32.lt_iff_toInt_lt, Int32.le_iff_toInt_le, ← Int32.toInt_inj, tI0, tI1, tI2, tI3, tI4, tI6, tI14, tI59, tI60, tI127, tI1000, tI100000, tIm1, tIm2, tIm3, tIm4, tIbig] at c_1 c_2 c_3 c_4 c_5 c_6 ⊢; first | done | omega))]) | (rw [if_neg (show ¬ (1 : Int32) = 0 by decide), if_neg (by (simp only [decide_eq_true_eq, decide_eq_false_iff_not, Bool.and_eq_true, Bool.and_eq_false_iff, Bool.or_eq_true, Bool.or_eq_false_iff, Bool.not_eq_true, Bool.not_eq_false, ne_eq, not_and, not_or, tog_t, tog_f, ahd_t, ahd_f, isoB_t, isoB_f, ixB_t, ixB_f, vOK_t, vOK_f, wOK_t, wOK_f, tn4, tI5, isoC_t, isoC_f, Int32.lt_iff_toInt_lt, Int32.le_iff_toInt_le, ← Int32.toInt_inj, tI0, tI1, tI2, tI3, tI4, tI6, tI14, tI59, tI60, tI127, tI1000, tI100000, tIm1, tIm2, tIm3, tIm4, tIbig] at c_1 c_2 c_3 c_4 c_5 c_6 ⊢; first | done | omega))])); rw [hro.2 (fun j hj e9 => no_tf (ix_in hj (by omega) e9) hi9), if_neg (by (simp only [decide_eq_true_eq, decide_eq_false_iff_not, Bool.and_eq_true, Bool.and_eq_false_iff, Bool.or_eq_true, Bool.or_eq_false_iff, Bool.not_eq_true, Bool.not_eq_false, ne_eq, not_and, not_or, tog_t, tog_f, ahd_t, ahd_f, isoB_t, isoB_f, ixB_t, ixB_f, vOK_t, vOK_f, wOK_t, wOK_f, tn4, tI5, isoC_t, isoC_f, Int32.lt_iff_toInt_lt, Int32.le_iff_toInt_le, ← Int32.toInt_inj, tI0, tI1, tI2, tI3, tI4, tI6, tI14, tI59, tI60, tI127, tI1000, tI100000, tIm1, tIm2, tIm3, tIm4, tIbig] at c_1 c_2 c_3 c_4 c_5 c_6 ⊢; first | done | omega))], ht⟩) (fun q h => by cases h) dX8_rest_41
            · skip
              refine lv_iconst (v := 1) hx hb dX8_rest_33 (by decide) ?_
              refine lv_goto (tgt := 38) hx hb dX8_rest_34 (by decide) ?_
              refine vp_callSi (gk_run (va_runV (As := [.int v, .int i, .int 1]) (rest := []) ⟨hx, hb, hml, hown, hts⟩ (c_X8_restOf l dC dI cI a n F T P V Wt (fun j => nI (o j)) G L R hn hT v i 1 c2 RB RE hc2 (hRP (by (simp only [decide_eq_true_eq, decide_eq_false_iff_not, Bool.and_eq_true, Bool.and_eq_false_iff, Bool.or_eq_true, Bool.or_eq_false_iff, Bool.not_eq_true, Bool.not_eq_false, ne_eq, not_and, not_or, tog_t, tog_f, ahd_t, ahd_f, isoB_t, isoB_f, ixB_t, ixB_f, vOK_t, vOK_f, wOK_t, wOK_f, tn4, tI5, isoC_t, isoC_f, Int32.lt_iff_toInt_lt, Int32.le_iff_toInt_le, ← Int32.toInt_inj, tI0, tI1, tI2, tI3, tI4, tI6, tI14, tI59, tI60, tI127, tI1000, tI100000, tIm1, tIm2, tIm3, tIm4, tIbig] at c_1 c_2 c_3 c_4 c_5 c_6 ⊢; first | done | omega)))) (cwV 3 hts gX8_rest_X8_restOf rfl rfl rfl (by decide +kernel) ⟨Nat.le_of_ble_eq_true rfl, Nat.le_of_ble_eq_true rfl⟩) ⟨gk_fb, va_recv hK hP (ci := 8) (q0 := 0) rfl rfl, fun U hU hW => ⟨rfl, by rw [hU]; exact hP, va_K.moved hW.alike hK⟩⟩ rfl rfl hl.1 rfl (lv_room (Nat.le_of_ble_eq_true rfl)) dX8_rest_38 ⟨Nat.zero_le _, Nat.zero_le _⟩)) (fun r_8 er_8 => ?_)
              have hro := er_8
              exact W.iret (v := r_8) hx hb hr (fun t ht _ => ⟨_, rfl, by refine ⟨fun h => absurd (show 0 ≤ v ∧ v ≤ 4 ∧ 0 ≤ w ∧ w ≤ 1 by (simp only [decide_eq_true_eq, decide_eq_false_iff_not, Bool.and_eq_true, Bool.and_eq_false_iff, Bool.or_eq_true, Bool.or_eq_false_iff, Bool.not_eq_true, Bool.not_eq_false, ne_eq, not_and, not_or, tog_t, tog_f, ahd_t, ahd_f, isoB_t, isoB_f, ixB_t, ixB_f, vOK_t, vOK_f, wOK_t, wOK_f, tn4, tI5, isoC_t, isoC_f, Int32.lt_iff_toInt_lt, Int32.le_iff_toInt_le, ← Int32.toInt_inj, tI0, tI1, tI2, tI3, tI4, tI6, tI14, tI59, tI60, tI127, tI1000, tI100000, tIm1, tIm2, tIm3, tIm4, tIbig] at c_1 c_2 c_3 c_4 c_5 c_6 ⊢; first | done | omega)) h, fun h j hj ei => ?_, fun h hi9 => ?_⟩; (rw [hro.1 j hj ei]; first | (rw [if_pos (show (0 : Int32) = 0 from rfl), if_pos (by (simp only [decide_eq_true_eq, decide_eq_false_iff_not, Bool.and_eq_true, Bool.and_eq_false_iff, Bool.or_eq_true, Bool.or_eq_false_iff, Bool.not_eq_true, Bool.not_eq_false, ne_eq, not_and, not_or, tog_t, tog_f, ahd_t, ahd_f, isoB_t, isoB_f, ixB_t, ixB_f, vOK_t, vOK_f, wOK_t, wOK_f, tn4, tI5, isoC_t, isoC_f, Int32.lt_iff_toInt_lt, Int32.le_iff_toInt_le, ← Int32.toInt_inj, tI0, tI1, tI2, tI3, tI4, tI6, tI14, tI59, tI60, tI127, tI1000, tI100000, tIm1, tIm2, tIm3, tIm4, tIbig] at c_1 c_2 c_3 c_4 c_5 c_6 ⊢; first | done | omega))]) | (rw [if_neg (show ¬ (1 : Int32) = 0 by decide), if_neg (by (simp only [decide_eq_true_eq, decide_eq_false_iff_not, Bool.and_eq_true, Bool.and_eq_false_iff, Bool.or_eq_true, Bool.or_eq_false_iff, Bool.not_eq_true, Bool.not_eq_false, ne_eq, not_and, not_or, tog_t, tog_f, ahd_t, ahd_f, isoB_t, isoB_f, ixB_t, ixB_f, vOK_t, vOK_f, wOK_t, wOK_f, tn4, tI5, isoC_t, isoC_f, Int32.lt_iff_toInt_lt, Int32.le_iff_toInt_le, ← Int32.toInt_inj, tI0, tI1, tI2, tI3, tI4, tI6, tI14, tI59, tI60, tI127, tI1000, tI100000, tIm1, tIm2, tIm3, tIm4, tIbig] at c_1 c_2 c_3 c_4 c_5 c_6 ⊢; first | done | omega))])); rw [hro.2 (fun j hj e9 => no_tf (ix_in hj (by omega) e9) hi9), if_neg (by (simp only [decide_eq_true_eq, decide_eq_false_iff_not, Bool.and_eq_true, Bool.and_eq_false_iff, Bool.or_eq_true, Bool.or_eq_false_iff, Bool.not_eq_true, Bool.not_eq_false, ne_eq, not_and, not_or, tog_t, tog_f, ahd_t, ahd_f, isoB_t, isoB_f, ixB_t, ixB_f, vOK_t, vOK_f, wOK_t, wOK_f, tn4, tI5, isoC_t, isoC_f, Int32.lt_iff_toInt_lt, Int32.le_iff_toInt_le, ← Int32.toInt_inj, tI0, tI1, tI2, tI3, tI4, tI6, tI14, tI59, tI60, tI127, tI1000, tI100000, tIm1, tIm2, tIm3, tIm4, tIbig] at c_1 c_2 c_3 c_4 c_5 c_6 ⊢; first | done | omega))], ht⟩) (fun q h => by cases h) dX8_rest_41
          · skip
            refine lv_bipush (v := (-2)) hx hb dX8_rest_22 (by decide) ?_
            exact W.iret (v := (-2)) hx hb hr (fun t ht _ => ⟨_, rfl, by refine ⟨fun _ => rfl, fun h j hj ei => ?_, fun _ _ => rfl⟩; exfalso; have hi9 := ix_in hj (by omega) ei; (simp only [decide_eq_true_eq, decide_eq_false_iff_not, Bool.and_eq_true, Bool.and_eq_false_iff, Bool.or_eq_true, Bool.or_eq_false_iff, Bool.not_eq_true, Bool.not_eq_false, ne_eq, not_and, not_or, tog_t, tog_f, ahd_t, ahd_f, isoB_t, isoB_f, ixB_t, ixB_f, vOK_t, vOK_f, wOK_t, wOK_f, tn4, tI5, isoC_t, isoC_f, Int32.lt_iff_toInt_lt, Int32.le_iff_toInt_le, ← Int32.toInt_inj, tI0, tI1, tI2, tI3, tI4, tI6, tI14, tI59, tI60, tI127, tI1000, tI100000, tIm1, tIm2, tIm3, tIm4, tIbig] at hi9 h c_1 c_2 c_3 c_4 c_5; first | done | omega), ht⟩) (fun q h => by cases h) dX8_rest_24
