set_option maxHeartbeats 1000000 in
set_option maxRecDepth 100000 in
theorem c_X8_price (l : Launch) (dC : Nat → ClassId) (dI : Nat → Nat → Nat) (cI : ClassId) (a : Nat → Nat) (n : Nat) (F T P V Wt : Nat → Int32) (o : Nat → Nat) (G : Nat → Int32) (la : Nat → Nat) (R : Nat → Int32) (hn : n ≤ 60) (ho : ∀ j, o j < 60) (hla : ∀ j, la j ≤ 60) (r v : Nat) (hr0 : r < 60) (hv0 : v < 4) : Met l yX8_price wsX8_price ({ frames := 1, cells := 0, slots := 0, locals := 22 } : Room) (va_Pc [.ref (a 0), .int (nI r), .int (nI v)] (fun U => va_P (dC, dI) vwCl (mW cI a (nI n) F T P V Wt (fun j => nI (o j)) G (fun j => nI (la j)) R) U.heap ∧ va_K (dC, dI) vwCl [(cI, .int)] U)) (vp_Si (fun rr => rr = prc F T P Wt o la r v)) 0 0 (fun _ => False) := by
  refine Met.ofW (cc := cX8_price) (maxL := 7) (ret := (some .int)) (by decide) rfl ?_
  intro p e s m args below meth c s₁ B hml hv
  obtain ⟨rfl, hP, hK⟩ := hv
  have hx := B.exec
  have hb := B.bytes
  have hr := B.returns
  have hts := atoms_spec (ws := wsX8_price) B.pre
  have hown : s.vm.findClass RX8 = some m.cls := findClass_of_methodNamed B.named
  have hlocks := B.notSynchronized
  have i_X8 : ∀ w ∈ u_ws RX8 TX8 10, w ∈ wsX8_price := by decide +kernel
  have k_0 := hts (.fieldLink RX8 25 "VoiceRowsModel" "order" "[I") (by decide +kernel)
  have k_1 := hts (.fieldLink RX8 22 "VoiceRowsModel" "weights" "[I") (by decide +kernel)
  have k_2 := hts (.fieldLink RX8 31 "VoiceRowsModel" "last" "[I") (by decide +kernel)
  have k_3 := hts (.fieldLink RX8 16 "VoiceRowsModel" "pitch" "[I") (by decide +kernel)
  have k_4 := hts (.fieldLink RX8 7 "VoiceRowsModel" "from" "[I") (by decide +kernel)
  have k_5 := hts (.fieldLink RX8 13 "VoiceRowsModel" "to" "[I") (by decide +kernel)
  have k_6 := hts (.constant RX8 62 (2000000000)) (by decide +kernel)
  have hl := lv_entry ([.ref (a 0), .int (nI r), .int (nI v)]) (n := 7) (Nat.le_of_ble_eq_true rfl)
  rw [lg_entry_eq]
  generalize (lg_sl ([.ref (a 0), .int (nI r), .int (nI v)]) ++ List.replicate (7 - (lg_sl ([.ref (a 0), .int (nI r), .int (nI v)])).length) Slot.unset).toArray = ls at hl ⊢
  have hl : lv_has ls 7 [(0, .ref (a 0)), (1, .int (nI r)), (2, .int (nI v))] := hl
  have hlv := hla v
  refine lv_aload_n hx hb dX8_price_0 rfl (lv_at hl 0 rfl) ?_
  refine va_get (D := (dC, dI)) (ci := 8) (v := .ref (a 6)) (C := RX8) (T := TX8) (N := 10) hx hb hts i_X8 hown hK hP 0 rfl rfl 6 (by decide) k_0 (fun _ h9 => h9) rfl dX8_price_1 ?_
  refine lv_iload_n hx hb dX8_price_4 rfl (lv_at hl 1 rfl) ?_
  refine gk_ld hx hb hK hP 6 0 rfl rfl r (by omega) (by omega) (v := nI (o r)) (rfl) dX8_price_5 ?_
  refine lv_istore_n (lv' := [(3, .int (nI (o r))), (0, .ref (a 0)), (1, .int (nI r)), (2, .int (nI v))]) hx hb dX8_price_6 rfl hl (by decide) rfl (fun ls hl => ?_)
  refine lv_aload_n hx hb dX8_price_7 rfl (lv_at hl 1 rfl) ?_
  refine va_get (D := (dC, dI)) (ci := 8) (v := .ref (a 5)) (C := RX8) (T := TX8) (N := 10) hx hb hts i_X8 hown hK hP 0 rfl rfl 5 (by decide) k_1 (fun _ h9 => h9) rfl dX8_price_8 ?_
  refine lv_iconst (v := 3) hx hb dX8_price_11 (by decide) ?_
  refine gk_ld hx hb hK hP 5 0 rfl rfl 3 (by omega) (by omega) (v := Wt 3) (rfl) dX8_price_12 ?_
  refine lv_istore (lv' := [(4, .int (Wt 3)), (3, .int (nI (o r))), (0, .ref (a 0)), (1, .int (nI r)), (2, .int (nI v))]) hx hb dX8_price_13 hl (by decide) rfl (fun ls hl => ?_)
  have J134 : ∀ (x4 : Int32) (ls : Array Slot), x4 = pbM F T P Wt o la r v → (la v = 0 ∨ tog F T (o (la v - 1)) (o r) = false) → lv_has ls 7 [(0, .ref (a 0)), (1, .int (nI r)), (2, .int (nI v)), (3, .int (nI (o r))), (4, .int x4)] → W p l e (headSpec wsX8_price ({ frames := 1, cells := 0, slots := 0, locals := 22 } : Room)).room s m [.ref (a 0), .int (nI r), .int (nI v)].toArray below meth c s.heap [] 0 0 (MQ below (vp_Si (fun rr => rr = prc F T P Wt o la r v)) [.ref (a 0), .int (nI r), .int (nI v)].toArray s 0 0 (fun _ => False)) (F0 m 134 ls []) := by
    intro x4 ls ex4 hj1 hl
    subst ex4
    refine lv_iconst (v := 0) hx hb dX8_price_134 (by decide) ?_
    refine lv_istore (lv' := [(5, .int 0), (0, .ref (a 0)), (1, .int (nI r)), (2, .int (nI v)), (3, .int (nI (o r))), (4, .int (pbM F T P Wt o la r v))]) hx hb dX8_price_135 hl (by decide) rfl (fun ls hl => ?_)
    have L137 : ∀ (fu : Nat) (u : Nat) (x4 x5 : Int32) (ls : Array Slot), x4 = sumW (pcM F T P o la r v) (Wt 2) (pbM F T P Wt o la r v) u → x5 = nI u → u ≤ 4 → 4 - u < fu → lv_has ls 7 [(0, .ref (a 0)), (1, .int (nI r)), (2, .int (nI v)), (3, .int (nI (o r))), (4, .int x4), (5, .int x5)] → W p l e (headSpec wsX8_price ({ frames := 1, cells := 0, slots := 0, locals := 22 } : Room)).room s m [.ref (a 0), .int (nI r), .int (nI v)].toArray below meth c s.heap [] 0 0 (MQ below (vp_Si (fun rr => rr = prc F T P Wt o la r v)) [.ref (a 0), .int (nI r), .int (nI v)].toArray s 0 0 (fun _ => False)) (F0 m 137 ls []) := by
      intro fu
      induction fu with
      | zero =>
        intro u x4 x5 ls e4 e5 hu1 hfu137 hl
        exact absurd hfu137 (Nat.not_lt_zero _)
      | succ fu ih137 =>
        intro u x4 x5 ls e4 e5 hu1 hfu137 hl
        subst e4
        subst e5
        have hlu := hla u
        refine lv_iload hx hb dX8_price_137 (lv_at hl 5 rfl) ?_
        refine lv_iconst (v := 4) hx hb dX8_price_139 (by decide) ?_
        refine lv_icmp_ge (tgt := 252) hx hb dX8_price_140 (by decide) (fun c_1 => ?_) (fun c_1 => ?_)
        · skip
          have c_1 : u ≥ 4 := gk_geT (a := u) (b := 4) (by first | omega | exact Nat.lt_trans (ho _) (by decide) | exact Nat.lt_of_le_of_lt atN_le (by omega) | exact Nat.lt_of_le_of_lt szN_le (by omega) | exact Nat.lt_of_le_of_lt clM_le (by omega) | exact Nat.lt_of_le_of_lt rkN_le (by omega) | exact Nat.lt_of_le_of_lt (cnt_le _ _) (by omega)) (by first | omega | exact Nat.lt_trans (ho _) (by decide) | exact Nat.lt_of_le_of_lt atN_le (by omega) | exact Nat.lt_of_le_of_lt szN_le (by omega) | exact Nat.lt_of_le_of_lt clM_le (by omega) | exact Nat.lt_of_le_of_lt rkN_le (by omega) | exact Nat.lt_of_le_of_lt (cnt_le _ _) (by omega)) c_1
          refine lv_iload hx hb dX8_price_252 (lv_at hl 4 rfl) ?_
          exact W.iret (v := sumW (pcM F T P o la r v) (Wt 2) (pbM F T P Wt o la r v) u) hx hb hr (fun t ht _ => ⟨_, rfl, by (obtain rfl : u = 4 := by omega); exact prc_end hj1, ht⟩) (fun q h => by cases h) dX8_price_254
        · skip
          have c_1 : u < 4 := gk_geF (a := u) (b := 4) (by first | omega | exact Nat.lt_trans (ho _) (by decide) | exact Nat.lt_of_le_of_lt atN_le (by omega) | exact Nat.lt_of_le_of_lt szN_le (by omega) | exact Nat.lt_of_le_of_lt clM_le (by omega) | exact Nat.lt_of_le_of_lt rkN_le (by omega) | exact Nat.lt_of_le_of_lt (cnt_le _ _) (by omega)) (by first | omega | exact Nat.lt_trans (ho _) (by decide) | exact Nat.lt_of_le_of_lt atN_le (by omega) | exact Nat.lt_of_le_of_lt szN_le (by omega) | exact Nat.lt_of_le_of_lt clM_le (by omega) | exact Nat.lt_of_le_of_lt rkN_le (by omega) | exact Nat.lt_of_le_of_lt (cnt_le _ _) (by omega)) c_1
          refine lv_iload hx hb dX8_price_143 (lv_at hl 5 rfl) ?_
          refine lv_iload_n hx hb dX8_price_145 rfl (lv_at hl 2 rfl) ?_
          refine lv_icmp_eq (tgt := 176) hx hb dX8_price_146 (by decide) (fun c_2 => ?_) (fun c_2 => ?_)
          · skip
            have c_2 : u = v := gk_eqT (a := u) (b := v) (by first | omega | exact Nat.lt_trans (ho _) (by decide) | exact Nat.lt_of_le_of_lt atN_le (by omega) | exact Nat.lt_of_le_of_lt szN_le (by omega) | exact Nat.lt_of_le_of_lt clM_le (by omega) | exact Nat.lt_of_le_of_lt rkN_le (by omega) | exact Nat.lt_of_le_of_lt (cnt_le _ _) (by omega)) (by first | omega | exact Nat.lt_trans (ho _) (by decide) | exact Nat.lt_of_le_of_lt atN_le (by omega) | exact Nat.lt_of_le_of_lt szN_le (by omega) | exact Nat.lt_of_le_of_lt clM_le (by omega) | exact Nat.lt_of_le_of_lt rkN_le (by omega) | exact Nat.lt_of_le_of_lt (cnt_le _ _) (by omega)) c_2
            refine lv_iconst (v := (-1)) hx hb dX8_price_176 (by decide) ?_
            refine lv_istore (lv' := [(6, .int (-1)), (0, .ref (a 0)), (1, .int (nI r)), (2, .int (nI v)), (3, .int (nI (o r))), (4, .int (sumW (pcM F T P o la r v) (Wt 2) (pbM F T P Wt o la r v) u)), (5, .int (nI u))]) hx hb dX8_price_177 hl (by decide) rfl (fun ls hl => ?_)
            refine lv_iload hx hb dX8_price_179 (lv_at hl 0 rfl) ?_
            refine lv_if_lt (tgt := 246) hx hb dX8_price_181 (by decide) (fun c_3 => ?_) (fun c_3 => ?_)
            · skip
              refine lv_iinc (v := nI (u + 1)) (lv' := [(5, .int (nI (u + 1))), (6, .int (-1)), (0, .ref (a 0)), (1, .int (nI r)), (2, .int (nI v)), (3, .int (nI (o r))), (4, .int (sumW (pcM F T P o la r v) (Wt 2) (pbM F T P Wt o la r v) u))]) hx hb dX8_price_246 hl (k := 6) rfl (gk_inc1 _) (by decide) rfl (fun ls hl => ?_)
              refine lv_goto (tgt := 137) hx hb dX8_price_249 (by decide) ?_
              exact ih137 (u + 1) _ _ ls (by first | rfl | exact sumW_y (by (simp only [pcM_t, pcM_f, decide_eq_true_eq, decide_eq_false_iff_not, Bool.and_eq_true, Bool.and_eq_false_iff, Bool.or_eq_true, Bool.or_eq_false_iff, Bool.not_eq_true, Bool.not_eq_false, ne_eq, not_and, not_or, tog_t, tog_f, ahd_t, ahd_f, isoB_t, isoB_f, ixB_t, ixB_f, vOK_t, vOK_f, wOK_t, wOK_f, tn4, tI5, Int32.lt_iff_toInt_lt, Int32.le_iff_toInt_le, ← Int32.toInt_inj, tI0, tI1, tI2, tI3, tI4, tI6, tI14, tI59, tI60, tI127, tI1000, tI100000, tIm1, tIm2, tIm3, tIm4, tIbig] at c_1 c_2 c_3 ⊢; first | done | omega)) | exact sumW_n (by (simp only [pcM_t, pcM_f, decide_eq_true_eq, decide_eq_false_iff_not, Bool.and_eq_true, Bool.and_eq_false_iff, Bool.or_eq_true, Bool.or_eq_false_iff, Bool.not_eq_true, Bool.not_eq_false, ne_eq, not_and, not_or, tog_t, tog_f, ahd_t, ahd_f, isoB_t, isoB_f, ixB_t, ixB_f, vOK_t, vOK_f, wOK_t, wOK_f, tn4, tI5, Int32.lt_iff_toInt_lt, Int32.le_iff_toInt_le, ← Int32.toInt_inj, tI0, tI1, tI2, tI3, tI4, tI6, tI14, tI59, tI60, tI127, tI1000, tI100000, tIm1, tIm2, tIm3, tIm4, tIbig] at c_1 c_2 c_3 ⊢; first | done | omega))) (by rfl) (by omega) (by omega) (lv_sub hl [2, 3, 4, 5, 6, 0] rfl)
            · skip
              exact absurd (by decide) c_3
          · skip
            have c_2 : u ≠ v := gk_eqF (a := u) (b := v) (by first | omega | exact Nat.lt_trans (ho _) (by decide) | exact Nat.lt_of_le_of_lt atN_le (by omega) | exact Nat.lt_of_le_of_lt szN_le (by omega) | exact Nat.lt_of_le_of_lt clM_le (by omega) | exact Nat.lt_of_le_of_lt rkN_le (by omega) | exact Nat.lt_of_le_of_lt (cnt_le _ _) (by omega)) (by first | omega | exact Nat.lt_trans (ho _) (by decide) | exact Nat.lt_of_le_of_lt atN_le (by omega) | exact Nat.lt_of_le_of_lt szN_le (by omega) | exact Nat.lt_of_le_of_lt clM_le (by omega) | exact Nat.lt_of_le_of_lt rkN_le (by omega) | exact Nat.lt_of_le_of_lt (cnt_le _ _) (by omega)) c_2
            refine lv_aload_n hx hb dX8_price_149 rfl (lv_at hl 0 rfl) ?_
            refine va_get (D := (dC, dI)) (ci := 8) (v := .ref (a 8)) (C := RX8) (T := TX8) (N := 10) hx hb hts i_X8 hown hK hP 0 rfl rfl 8 (by decide) k_2 (fun _ h9 => h9) rfl dX8_price_150 ?_
            refine lv_iload hx hb dX8_price_153 (lv_at hl 5 rfl) ?_
            refine gk_ld hx hb hK hP 8 0 rfl rfl u (by omega) (by omega) (v := nI (la u)) (rfl) dX8_price_155 ?_
            refine lv_if_le (tgt := 176) hx hb dX8_price_156 (by decide) (fun c_4 => ?_) (fun c_4 => ?_)
            · skip
              have c_4 : la u ≤ 0 := gk_leT (a := la u) (b := 0) (by first | omega | exact Nat.lt_trans (ho _) (by decide) | exact Nat.lt_of_le_of_lt atN_le (by omega) | exact Nat.lt_of_le_of_lt szN_le (by omega) | exact Nat.lt_of_le_of_lt clM_le (by omega) | exact Nat.lt_of_le_of_lt rkN_le (by omega) | exact Nat.lt_of_le_of_lt (cnt_le _ _) (by omega)) (by first | omega | exact Nat.lt_trans (ho _) (by decide) | exact Nat.lt_of_le_of_lt atN_le (by omega) | exact Nat.lt_of_le_of_lt szN_le (by omega) | exact Nat.lt_of_le_of_lt clM_le (by omega) | exact Nat.lt_of_le_of_lt rkN_le (by omega) | exact Nat.lt_of_le_of_lt (cnt_le _ _) (by omega)) c_4
              refine lv_iconst (v := (-1)) hx hb dX8_price_176 (by decide) ?_
              refine lv_istore (lv' := [(6, .int (-1)), (0, .ref (a 0)), (1, .int (nI r)), (2, .int (nI v)), (3, .int (nI (o r))), (4, .int (sumW (pcM F T P o la r v) (Wt 2) (pbM F T P Wt o la r v) u)), (5, .int (nI u))]) hx hb dX8_price_177 hl (by decide) rfl (fun ls hl => ?_)
              refine lv_iload hx hb dX8_price_179 (lv_at hl 0 rfl) ?_
              refine lv_if_lt (tgt := 246) hx hb dX8_price_181 (by decide) (fun c_5 => ?_) (fun c_5 => ?_)
              · skip
                refine lv_iinc (v := nI (u + 1)) (lv' := [(5, .int (nI (u + 1))), (6, .int (-1)), (0, .ref (a 0)), (1, .int (nI r)), (2, .int (nI v)), (3, .int (nI (o r))), (4, .int (sumW (pcM F T P o la r v) (Wt 2) (pbM F T P Wt o la r v) u))]) hx hb dX8_price_246 hl (k := 6) rfl (gk_inc1 _) (by decide) rfl (fun ls hl => ?_)
                refine lv_goto (tgt := 137) hx hb dX8_price_249 (by decide) ?_
                exact ih137 (u + 1) _ _ ls (by first | rfl | exact sumW_y (by (simp only [pcM_t, pcM_f, decide_eq_true_eq, decide_eq_false_iff_not, Bool.and_eq_true, Bool.and_eq_false_iff, Bool.or_eq_true, Bool.or_eq_false_iff, Bool.not_eq_true, Bool.not_eq_false, ne_eq, not_and, not_or, tog_t, tog_f, ahd_t, ahd_f, isoB_t, isoB_f, ixB_t, ixB_f, vOK_t, vOK_f, wOK_t, wOK_f, tn4, tI5, Int32.lt_iff_toInt_lt, Int32.le_iff_toInt_le, ← Int32.toInt_inj, tI0, tI1, tI2, tI3, tI4, tI6, tI14, tI59, tI60, tI127, tI1000, tI100000, tIm1, tIm2, tIm3, tIm4, tIbig] at c_1 c_2 c_4 c_5 ⊢; first | done | omega)) | exact sumW_n (by (simp only [pcM_t, pcM_f, decide_eq_true_eq, decide_eq_false_iff_not, Bool.and_eq_true, Bool.and_eq_false_iff, Bool.or_eq_true, Bool.or_eq_false_iff, Bool.not_eq_true, Bool.not_eq_false, ne_eq, not_and, not_or, tog_t, tog_f, ahd_t, ahd_f, isoB_t, isoB_f, ixB_t, ixB_f, vOK_t, vOK_f, wOK_t, wOK_f, tn4, tI5, Int32.lt_iff_toInt_lt, Int32.le_iff_toInt_le, ← Int32.toInt_inj, tI0, tI1, tI2, tI3, tI4, tI6, tI14, tI59, tI60, tI127, tI1000, tI100000, tIm1, tIm2, tIm3, tIm4, tIbig] at c_1 c_2 c_4 c_5 ⊢; first | done | omega))) (by rfl) (by omega) (by omega) (lv_sub hl [2, 3, 4, 5, 6, 0] rfl)
              · skip
                exact absurd (by decide) c_5
            · skip
              have c_4 : la u > 0 := gk_leF (a := la u) (b := 0) (by first | omega | exact Nat.lt_trans (ho _) (by decide) | exact Nat.lt_of_le_of_lt atN_le (by omega) | exact Nat.lt_of_le_of_lt szN_le (by omega) | exact Nat.lt_of_le_of_lt clM_le (by omega) | exact Nat.lt_of_le_of_lt rkN_le (by omega) | exact Nat.lt_of_le_of_lt (cnt_le _ _) (by omega)) (by first | omega | exact Nat.lt_trans (ho _) (by decide) | exact Nat.lt_of_le_of_lt atN_le (by omega) | exact Nat.lt_of_le_of_lt szN_le (by omega) | exact Nat.lt_of_le_of_lt clM_le (by omega) | exact Nat.lt_of_le_of_lt rkN_le (by omega) | exact Nat.lt_of_le_of_lt (cnt_le _ _) (by omega)) c_4
              refine lv_aload_n hx hb dX8_price_159 rfl (lv_at hl 0 rfl) ?_
              refine va_get (D := (dC, dI)) (ci := 8) (v := .ref (a 6)) (C := RX8) (T := TX8) (N := 10) hx hb hts i_X8 hown hK hP 0 rfl rfl 6 (by decide) k_0 (fun _ h9 => h9) rfl dX8_price_160 ?_
              refine lv_aload_n hx hb dX8_price_163 rfl (lv_at hl 0 rfl) ?_
              refine va_get (D := (dC, dI)) (ci := 8) (v := .ref (a 8)) (C := RX8) (T := TX8) (N := 10) hx hb hts i_X8 hown hK hP 0 rfl rfl 8 (by decide) k_2 (fun _ h9 => h9) rfl dX8_price_164 ?_
              refine lv_iload hx hb dX8_price_167 (lv_at hl 5 rfl) ?_
              refine gk_ld hx hb hK hP 8 0 rfl rfl u (by omega) (by omega) (v := nI (la u)) (rfl) dX8_price_169 ?_
              refine lv_iconst (v := 1) hx hb dX8_price_170 (by decide) ?_
              refine lv_isub hx hb dX8_price_171 ?_
              refine gk_top (y := nI (la u - 1)) (pk_sub (a := la u) (b := 1) (by omega)) ?_
              refine gk_ld hx hb hK hP 6 0 rfl rfl (la u - 1) (by have := hla u; omega) (by omega) (v := nI (o (la u - 1))) (rfl) dX8_price_172 ?_
              refine lv_goto (tgt := 177) hx hb dX8_price_173 (by decide) ?_
              refine lv_istore (lv' := [(6, .int (nI (o (la u - 1)))), (0, .ref (a 0)), (1, .int (nI r)), (2, .int (nI v)), (3, .int (nI (o r))), (4, .int (sumW (pcM F T P o la r v) (Wt 2) (pbM F T P Wt o la r v) u)), (5, .int (nI u))]) hx hb dX8_price_177 hl (by decide) rfl (fun ls hl => ?_)
              refine lv_iload hx hb dX8_price_179 (lv_at hl 0 rfl) ?_
              refine lv_if_lt (tgt := 246) hx hb dX8_price_181 (by decide) (fun c_6 => ?_) (fun c_6 => ?_)
              · skip
                have c_6 : o (la u - 1) < 0 := gk_ltT (a := o (la u - 1)) (b := 0) (by first | omega | exact Nat.lt_trans (ho _) (by decide) | exact Nat.lt_of_le_of_lt atN_le (by omega) | exact Nat.lt_of_le_of_lt szN_le (by omega) | exact Nat.lt_of_le_of_lt clM_le (by omega) | exact Nat.lt_of_le_of_lt rkN_le (by omega) | exact Nat.lt_of_le_of_lt (cnt_le _ _) (by omega)) (by first | omega | exact Nat.lt_trans (ho _) (by decide) | exact Nat.lt_of_le_of_lt atN_le (by omega) | exact Nat.lt_of_le_of_lt szN_le (by omega) | exact Nat.lt_of_le_of_lt clM_le (by omega) | exact Nat.lt_of_le_of_lt rkN_le (by omega) | exact Nat.lt_of_le_of_lt (cnt_le _ _) (by omega)) c_6
                refine lv_iinc (v := nI (u + 1)) (lv' := [(5, .int (nI (u + 1))), (6, .int (nI (o (la u - 1)))), (0, .ref (a 0)), (1, .int (nI r)), (2, .int (nI v)), (3, .int (nI (o r))), (4, .int (sumW (pcM F T P o la r v) (Wt 2) (pbM F T P Wt o la r v) u))]) hx hb dX8_price_246 hl (k := 6) rfl (gk_inc1 _) (by decide) rfl (fun ls hl => ?_)
                refine lv_goto (tgt := 137) hx hb dX8_price_249 (by decide) ?_
                exact ih137 (u + 1) _ _ ls (by first | rfl | exact sumW_y (by (simp only [pcM_t, pcM_f, decide_eq_true_eq, decide_eq_false_iff_not, Bool.and_eq_true, Bool.and_eq_false_iff, Bool.or_eq_true, Bool.or_eq_false_iff, Bool.not_eq_true, Bool.not_eq_false, ne_eq, not_and, not_or, tog_t, tog_f, ahd_t, ahd_f, isoB_t, isoB_f, ixB_t, ixB_f, vOK_t, vOK_f, wOK_t, wOK_f, tn4, tI5, Int32.lt_iff_toInt_lt, Int32.le_iff_toInt_le, ← Int32.toInt_inj, tI0, tI1, tI2, tI3, tI4, tI6, tI14, tI59, tI60, tI127, tI1000, tI100000, tIm1, tIm2, tIm3, tIm4, tIbig] at c_1 c_2 c_4 c_6 ⊢; first | done | omega)) | exact sumW_n (by (simp only [pcM_t, pcM_f, decide_eq_true_eq, decide_eq_false_iff_not, Bool.and_eq_true, Bool.and_eq_false_iff, Bool.or_eq_true, Bool.or_eq_false_iff, Bool.not_eq_true, Bool.not_eq_false, ne_eq, not_and, not_or, tog_t, tog_f, ahd_t, ahd_f, isoB_t, isoB_f, ixB_t, ixB_f, vOK_t, vOK_f, wOK_t, wOK_f, tn4, tI5, Int32.lt_iff_toInt_lt, Int32.le_iff_toInt_le, ← Int32.toInt_inj, tI0, tI1, tI2, tI3, tI4, tI6, tI14, tI59, tI60, tI127, tI1000, tI100000, tIm1, tIm2, tIm3, tIm4, tIbig] at c_1 c_2 c_4 c_6 ⊢; first | done | omega))) (by rfl) (by omega) (by omega) (lv_sub hl [2, 3, 4, 5, 6, 0] rfl)
              · skip
                have c_6 : o (la u - 1) ≥ 0 := gk_ltF (a := o (la u - 1)) (b := 0) (by first | omega | exact Nat.lt_trans (ho _) (by decide) | exact Nat.lt_of_le_of_lt atN_le (by omega) | exact Nat.lt_of_le_of_lt szN_le (by omega) | exact Nat.lt_of_le_of_lt clM_le (by omega) | exact Nat.lt_of_le_of_lt rkN_le (by omega) | exact Nat.lt_of_le_of_lt (cnt_le _ _) (by omega)) (by first | omega | exact Nat.lt_trans (ho _) (by decide) | exact Nat.lt_of_le_of_lt atN_le (by omega) | exact Nat.lt_of_le_of_lt szN_le (by omega) | exact Nat.lt_of_le_of_lt clM_le (by omega) | exact Nat.lt_of_le_of_lt rkN_le (by omega) | exact Nat.lt_of_le_of_lt (cnt_le _ _) (by omega)) c_6
                refine lv_aload_n hx hb dX8_price_184 rfl (lv_at hl 1 rfl) ?_
                refine lv_iload hx hb dX8_price_185 (lv_at hl 0 rfl) ?_
                refine lv_iload_n hx hb dX8_price_187 rfl (lv_at hl 4 rfl) ?_
                refine vp_callSi (gk_run (va_runV (As := [.int (nI (o (la u - 1))), .int (nI (o r))]) (rest := []) ⟨hx, hb, hml, hown, hts⟩ (c_X8_together l dC dI cI a n F T P V Wt (fun j => nI (o j)) G (fun j => nI (la j)) R hn (o (la u - 1)) (o r) (ho _) (ho _)) (cwV 2 hts gX8_price_X8_together rfl rfl rfl (by decide +kernel) ⟨Nat.le_of_ble_eq_true rfl, Nat.le_of_ble_eq_true rfl⟩) ⟨gk_fb, va_recv hK hP (ci := 8) (q0 := 0) rfl rfl, fun U hU hW => ⟨rfl, by rw [hU]; exact hP, va_K.moved hW.alike hK⟩⟩ rfl rfl hl.1 rfl (lv_room (Nat.le_of_ble_eq_true rfl)) dX8_price_188 ⟨Nat.zero_le _, Nat.zero_le _⟩)) (fun r_7 er_7 => ?_)
                subst er_7
                refine lv_if_eq (tgt := 246) hx hb dX8_price_191 (by decide) (fun c_8 => ?_) (fun c_8 => ?_)
                · skip
                  have c_8 : (tog F T (o (la u - 1)) (o r)) = false := b2i_0.mp c_8
                  refine lv_iinc (v := nI (u + 1)) (lv' := [(5, .int (nI (u + 1))), (6, .int (nI (o (la u - 1)))), (0, .ref (a 0)), (1, .int (nI r)), (2, .int (nI v)), (3, .int (nI (o r))), (4, .int (sumW (pcM F T P o la r v) (Wt 2) (pbM F T P Wt o la r v) u))]) hx hb dX8_price_246 hl (k := 6) rfl (gk_inc1 _) (by decide) rfl (fun ls hl => ?_)
                  refine lv_goto (tgt := 137) hx hb dX8_price_249 (by decide) ?_
                  exact ih137 (u + 1) _ _ ls (by first | rfl | exact sumW_y (by (simp only [pcM_t, pcM_f, decide_eq_true_eq, decide_eq_false_iff_not, Bool.and_eq_true, Bool.and_eq_false_iff, Bool.or_eq_true, Bool.or_eq_false_iff, Bool.not_eq_true, Bool.not_eq_false, ne_eq, not_and, not_or, tog_t, tog_f, ahd_t, ahd_f, isoB_t, isoB_f, ixB_t, ixB_f, vOK_t, vOK_f, wOK_t, wOK_f, tn4, tI5, Int32.lt_iff_toInt_lt, Int32.le_iff_toInt_le, ← Int32.toInt_inj, tI0, tI1, tI2, tI3, tI4, tI6, tI14, tI59, tI60, tI127, tI1000, tI100000, tIm1, tIm2, tIm3, tIm4, tIbig] at c_1 c_2 c_4 c_6 c_8 ⊢; first | done | omega)) | exact sumW_n (by (simp only [pcM_t, pcM_f, decide_eq_true_eq, decide_eq_false_iff_not, Bool.and_eq_true, Bool.and_eq_false_iff, Bool.or_eq_true, Bool.or_eq_false_iff, Bool.not_eq_true, Bool.not_eq_false, ne_eq, not_and, not_or, tog_t, tog_f, ahd_t, ahd_f, isoB_t, isoB_f, ixB_t, ixB_f, vOK_t, vOK_f, wOK_t, wOK_f, tn4, tI5, Int32.lt_iff_toInt_lt, Int32.le_iff_toInt_le, ← Int32.toInt_inj, tI0, tI1, tI2, tI3, tI4, tI6, tI14, tI59, tI60, tI127, tI1000, tI100000, tIm1, tIm2, tIm3, tIm4, tIbig] at c_1 c_2 c_4 c_6 c_8 ⊢; first | done | omega))) (by rfl) (by omega) (by omega) (lv_sub hl [2, 3, 4, 5, 6, 0] rfl)
                · skip
                  have c_8 : (tog F T (o (la u - 1)) (o r)) = true := b2i_1.mp c_8
                  refine lv_iload hx hb dX8_price_194 (lv_at hl 6 rfl) ?_
                  refine lv_iload_n hx hb dX8_price_196 rfl (lv_at hl 3 rfl) ?_
                  refine lv_icmp_ge (tgt := 219) hx hb dX8_price_197 (by decide) (fun c_9 => ?_) (fun c_9 => ?_)
                  · skip
                    have c_9 : u ≥ v := gk_geT (a := u) (b := v) (by first | omega | exact Nat.lt_trans (ho _) (by decide) | exact Nat.lt_of_le_of_lt atN_le (by omega) | exact Nat.lt_of_le_of_lt szN_le (by omega) | exact Nat.lt_of_le_of_lt clM_le (by omega) | exact Nat.lt_of_le_of_lt rkN_le (by omega) | exact Nat.lt_of_le_of_lt (cnt_le _ _) (by omega)) (by first | omega | exact Nat.lt_trans (ho _) (by decide) | exact Nat.lt_of_le_of_lt atN_le (by omega) | exact Nat.lt_of_le_of_lt szN_le (by omega) | exact Nat.lt_of_le_of_lt clM_le (by omega) | exact Nat.lt_of_le_of_lt rkN_le (by omega) | exact Nat.lt_of_le_of_lt (cnt_le _ _) (by omega)) c_9
                    refine lv_aload_n hx hb dX8_price_219 rfl (lv_at hl 1 rfl) ?_
                    refine va_get (D := (dC, dI)) (ci := 8) (v := .ref (a 3)) (C := RX8) (T := TX8) (N := 10) hx hb hts i_X8 hown hK hP 0 rfl rfl 2 (by decide) k_3 (fun _ h9 => h9) rfl dX8_price_220 ?_
                    refine lv_iload_n hx hb dX8_price_223 rfl (lv_at hl 4 rfl) ?_
                    refine gk_ld hx hb hK hP 3 0 rfl rfl (o r) (ho _) (by omega) (v := P (o r)) (rfl) dX8_price_224 ?_
                    refine lv_aload_n hx hb dX8_price_225 rfl (lv_at hl 1 rfl) ?_
                    refine va_get (D := (dC, dI)) (ci := 8) (v := .ref (a 3)) (C := RX8) (T := TX8) (N := 10) hx hb hts i_X8 hown hK hP 0 rfl rfl 2 (by decide) k_3 (fun _ h9 => h9) rfl dX8_price_226 ?_
                    refine lv_iload hx hb dX8_price_229 (lv_at hl 0 rfl) ?_
                    refine gk_ld hx hb hK hP 3 0 rfl rfl (o (la u - 1)) (ho _) (by omega) (v := P (o (la u - 1))) (rfl) dX8_price_231 ?_
                    refine lv_icmp_ge (tgt := 246) hx hb dX8_price_232 (by decide) (fun c_10 => ?_) (fun c_10 => ?_)
                    · skip
                      refine lv_iinc (v := nI (u + 1)) (lv' := [(5, .int (nI (u + 1))), (6, .int (nI (o (la u - 1)))), (0, .ref (a 0)), (1, .int (nI r)), (2, .int (nI v)), (3, .int (nI (o r))), (4, .int (sumW (pcM F T P o la r v) (Wt 2) (pbM F T P Wt o la r v) u))]) hx hb dX8_price_246 hl (k := 6) rfl (gk_inc1 _) (by decide) rfl (fun ls hl => ?_)
                      refine lv_goto (tgt := 137) hx hb dX8_price_249 (by decide) ?_
                      exact ih137 (u + 1) _ _ ls (by first | rfl | exact sumW_y (by (simp only [pcM_t, pcM_f, decide_eq_true_eq, decide_eq_false_iff_not, Bool.and_eq_true, Bool.and_eq_false_iff, Bool.or_eq_true, Bool.or_eq_false_iff, Bool.not_eq_true, Bool.not_eq_false, ne_eq, not_and, not_or, tog_t, tog_f, ahd_t, ahd_f, isoB_t, isoB_f, ixB_t, ixB_f, vOK_t, vOK_f, wOK_t, wOK_f, tn4, tI5, Int32.lt_iff_toInt_lt, Int32.le_iff_toInt_le, ← Int32.toInt_inj, tI0, tI1, tI2, tI3, tI4, tI6, tI14, tI59, tI60, tI127, tI1000, tI100000, tIm1, tIm2, tIm3, tIm4, tIbig] at c_1 c_2 c_4 c_6 c_8 c_9 c_10 ⊢; first | done | omega)) | exact sumW_n (by (simp only [pcM_t, pcM_f, decide_eq_true_eq, decide_eq_false_iff_not, Bool.and_eq_true, Bool.and_eq_false_iff, Bool.or_eq_true, Bool.or_eq_false_iff, Bool.not_eq_true, Bool.not_eq_false, ne_eq, not_and, not_or, tog_t, tog_f, ahd_t, ahd_f, isoB_t, isoB_f, ixB_t, ixB_f, vOK_t, vOK_f, wOK_t, wOK_f, tn4, tI5, Int32.lt_iff_toInt_lt, Int32.le_iff_toInt_le, ← Int32.toInt_inj, tI0, tI1, tI2, tI3, tI4, tI6, tI14, tI59, tI60, tI127, tI1000, tI100000, tIm1, tIm2, tIm3, tIm4, tIbig] at c_1 c_2 c_4 c_6 c_8 c_9 c_10 ⊢; first | done | omega))) (by rfl) (by omega) (by omega) (lv_sub hl [2, 3, 4, 5, 6, 0] rfl)
                    · skip
                      refine lv_iload hx hb dX8_price_235 (lv_at hl 5 rfl) ?_
                      refine lv_aload_n hx hb dX8_price_237 rfl (lv_at hl 1 rfl) ?_
                      refine va_get (D := (dC, dI)) (ci := 8) (v := .ref (a 5)) (C := RX8) (T := TX8) (N := 10) hx hb hts i_X8 hown hK hP 0 rfl rfl 5 (by decide) k_1 (fun _ h9 => h9) rfl dX8_price_238 ?_
                      refine lv_iconst (v := 2) hx hb dX8_price_241 (by decide) ?_
                      refine gk_ld hx hb hK hP 5 0 rfl rfl 2 (by omega) (by omega) (v := Wt 2) (rfl) dX8_price_242 ?_
                      refine lv_iadd hx hb dX8_price_243 ?_
                      refine lv_istore (lv' := [(4, .int ((sumW (pcM F T P o la r v) (Wt 2) (pbM F T P Wt o la r v) u) + (Wt 2))), (6, .int (nI (o (la u - 1)))), (0, .ref (a 0)), (1, .int (nI r)), (2, .int (nI v)), (3, .int (nI (o r))), (5, .int (nI u))]) hx hb dX8_price_244 hl (by decide) rfl (fun ls hl => ?_)
                      refine lv_iinc (v := nI (u + 1)) (lv' := [(5, .int (nI (u + 1))), (4, .int ((sumW (pcM F T P o la r v) (Wt 2) (pbM F T P Wt o la r v) u) + (Wt 2))), (6, .int (nI (o (la u - 1)))), (0, .ref (a 0)), (1, .int (nI r)), (2, .int (nI v)), (3, .int (nI (o r)))]) hx hb dX8_price_246 hl (k := 6) rfl (gk_inc1 _) (by decide) rfl (fun ls hl => ?_)
                      refine lv_goto (tgt := 137) hx hb dX8_price_249 (by decide) ?_
                      exact ih137 (u + 1) _ _ ls (by first | rfl | exact sumW_y (by (simp only [pcM_t, pcM_f, decide_eq_true_eq, decide_eq_false_iff_not, Bool.and_eq_true, Bool.and_eq_false_iff, Bool.or_eq_true, Bool.or_eq_false_iff, Bool.not_eq_true, Bool.not_eq_false, ne_eq, not_and, not_or, tog_t, tog_f, ahd_t, ahd_f, isoB_t, isoB_f, ixB_t, ixB_f, vOK_t, vOK_f, wOK_t, wOK_f, tn4, tI5, Int32.lt_iff_toInt_lt, Int32.le_iff_toInt_le, ← Int32.toInt_inj, tI0, tI1, tI2, tI3, tI4, tI6, tI14, tI59, tI60, tI127, tI1000, tI100000, tIm1, tIm2, tIm3, tIm4, tIbig] at c_1 c_2 c_4 c_6 c_8 c_9 c_10 ⊢; first | done | omega)) | exact sumW_n (by (simp only [pcM_t, pcM_f, decide_eq_true_eq, decide_eq_false_iff_not, Bool.and_eq_true, Bool.and_eq_false_iff, Bool.or_eq_true, Bool.or_eq_false_iff, Bool.not_eq_true, Bool.not_eq_false, ne_eq, not_and, not_or, tog_t, tog_f, ahd_t, ahd_f, isoB_t, isoB_f, ixB_t, ixB_f, vOK_t, vOK_f, wOK_t, wOK_f, tn4, tI5, Int32.lt_iff_toInt_lt, Int32.le_iff_toInt_le, ← Int32.toInt_inj, tI0, tI1, tI2, tI3, tI4, tI6, tI14, tI59, tI60, tI127, tI1000, tI100000, tIm1, tIm2, tIm3, tIm4, tIbig] at c_1 c_2 c_4 c_6 c_8 c_9 c_10 ⊢; first | done | omega))) (by rfl) (by omega) (by omega) (lv_sub hl [3, 4, 5, 6, 1, 0] rfl)
                  · skip
                    have c_9 : u < v := gk_geF (a := u) (b := v) (by first | omega | exact Nat.lt_trans (ho _) (by decide) | exact Nat.lt_of_le_of_lt atN_le (by omega) | exact Nat.lt_of_le_of_lt szN_le (by omega) | exact Nat.lt_of_le_of_lt clM_le (by omega) | exact Nat.lt_of_le_of_lt rkN_le (by omega) | exact Nat.lt_of_le_of_lt (cnt_le _ _) (by omega)) (by first | omega | exact Nat.lt_trans (ho _) (by decide) | exact Nat.lt_of_le_of_lt atN_le (by omega) | exact Nat.lt_of_le_of_lt szN_le (by omega) | exact Nat.lt_of_le_of_lt clM_le (by omega) | exact Nat.lt_of_le_of_lt rkN_le (by omega) | exact Nat.lt_of_le_of_lt (cnt_le _ _) (by omega)) c_9
                    refine lv_aload_n hx hb dX8_price_200 rfl (lv_at hl 1 rfl) ?_
                    refine va_get (D := (dC, dI)) (ci := 8) (v := .ref (a 3)) (C := RX8) (T := TX8) (N := 10) hx hb hts i_X8 hown hK hP 0 rfl rfl 2 (by decide) k_3 (fun _ h9 => h9) rfl dX8_price_201 ?_
                    refine lv_iload hx hb dX8_price_204 (lv_at hl 0 rfl) ?_
                    refine gk_ld hx hb hK hP 3 0 rfl rfl (o (la u - 1)) (ho _) (by omega) (v := P (o (la u - 1))) (rfl) dX8_price_206 ?_
                    refine lv_aload_n hx hb dX8_price_207 rfl (lv_at hl 1 rfl) ?_
                    refine va_get (D := (dC, dI)) (ci := 8) (v := .ref (a 3)) (C := RX8) (T := TX8) (N := 10) hx hb hts i_X8 hown hK hP 0 rfl rfl 2 (by decide) k_3 (fun _ h9 => h9) rfl dX8_price_208 ?_
                    refine lv_iload_n hx hb dX8_price_211 rfl (lv_at hl 4 rfl) ?_
                    refine gk_ld hx hb hK hP 3 0 rfl rfl (o r) (ho _) (by omega) (v := P (o r)) (rfl) dX8_price_212 ?_
                    refine lv_icmp_ge (tgt := 246) hx hb dX8_price_213 (by decide) (fun c_11 => ?_) (fun c_11 => ?_)
                    · skip
                      refine lv_iinc (v := nI (u + 1)) (lv' := [(5, .int (nI (u + 1))), (6, .int (nI (o (la u - 1)))), (0, .ref (a 0)), (1, .int (nI r)), (2, .int (nI v)), (3, .int (nI (o r))), (4, .int (sumW (pcM F T P o la r v) (Wt 2) (pbM F T P Wt o la r v) u))]) hx hb dX8_price_246 hl (k := 6) rfl (gk_inc1 _) (by decide) rfl (fun ls hl => ?_)
                      refine lv_goto (tgt := 137) hx hb dX8_price_249 (by decide) ?_
                      exact ih137 (u + 1) _ _ ls (by first | rfl | exact sumW_y (by (simp only [pcM_t, pcM_f, decide_eq_true_eq, decide_eq_false_iff_not, Bool.and_eq_true, Bool.and_eq_false_iff, Bool.or_eq_true, Bool.or_eq_false_iff, Bool.not_eq_true, Bool.not_eq_false, ne_eq, not_and, not_or, tog_t, tog_f, ahd_t, ahd_f, isoB_t, isoB_f, ixB_t, ixB_f, vOK_t, vOK_f, wOK_t, wOK_f, tn4, tI5, Int32.lt_iff_toInt_lt, Int32.le_iff_toInt_le, ← Int32.toInt_inj, tI0, tI1, tI2, tI3, tI4, tI6, tI14, tI59, tI60, tI127, tI1000, tI100000, tIm1, tIm2, tIm3, tIm4, tIbig] at c_1 c_2 c_4 c_6 c_8 c_9 c_11 ⊢; first | done | omega)) | exact sumW_n (by (simp only [pcM_t, pcM_f, decide_eq_true_eq, decide_eq_false_iff_not, Bool.and_eq_true, Bool.and_eq_false_iff, Bool.or_eq_true, Bool.or_eq_false_iff, Bool.not_eq_true, Bool.not_eq_false, ne_eq, not_and, not_or, tog_t, tog_f, ahd_t, ahd_f, isoB_t, isoB_f, ixB_t, ixB_f, vOK_t, vOK_f, wOK_t, wOK_f, tn4, tI5, Int32.lt_iff_toInt_lt, Int32.le_iff_toInt_le, ← Int32.toInt_inj, tI0, tI1, tI2, tI3, tI4, tI6, tI14, tI59, tI60, tI127, tI1000, tI100000, tIm1, tIm2, tIm3, tIm4, tIbig] at c_1 c_2 c_4 c_6 c_8 c_9 c_11 ⊢; first | done | omega))) (by rfl) (by omega) (by omega) (lv_sub hl [2, 3, 4, 5, 6, 0] rfl)
                    · skip
                      refine lv_goto (tgt := 235) hx hb dX8_price_216 (by decide) ?_
                      refine lv_iload hx hb dX8_price_235 (lv_at hl 5 rfl) ?_
                      refine lv_aload_n hx hb dX8_price_237 rfl (lv_at hl 1 rfl) ?_
                      refine va_get (D := (dC, dI)) (ci := 8) (v := .ref (a 5)) (C := RX8) (T := TX8) (N := 10) hx hb hts i_X8 hown hK hP 0 rfl rfl 5 (by decide) k_1 (fun _ h9 => h9) rfl dX8_price_238 ?_
                      refine lv_iconst (v := 2) hx hb dX8_price_241 (by decide) ?_
                      refine gk_ld hx hb hK hP 5 0 rfl rfl 2 (by omega) (by omega) (v := Wt 2) (rfl) dX8_price_242 ?_
                      refine lv_iadd hx hb dX8_price_243 ?_
                      refine lv_istore (lv' := [(4, .int ((sumW (pcM F T P o la r v) (Wt 2) (pbM F T P Wt o la r v) u) + (Wt 2))), (6, .int (nI (o (la u - 1)))), (0, .ref (a 0)), (1, .int (nI r)), (2, .int (nI v)), (3, .int (nI (o r))), (5, .int (nI u))]) hx hb dX8_price_244 hl (by decide) rfl (fun ls hl => ?_)
                      refine lv_iinc (v := nI (u + 1)) (lv' := [(5, .int (nI (u + 1))), (4, .int ((sumW (pcM F T P o la r v) (Wt 2) (pbM F T P Wt o la r v) u) + (Wt 2))), (6, .int (nI (o (la u - 1)))), (0, .ref (a 0)), (1, .int (nI r)), (2, .int (nI v)), (3, .int (nI (o r)))]) hx hb dX8_price_246 hl (k := 6) rfl (gk_inc1 _) (by decide) rfl (fun ls hl => ?_)
                      refine lv_goto (tgt := 137) hx hb dX8_price_249 (by decide) ?_
                      exact ih137 (u + 1) _ _ ls (by first | rfl | exact sumW_y (by (simp only [pcM_t, pcM_f, decide_eq_true_eq, decide_eq_false_iff_not, Bool.and_eq_true, Bool.and_eq_false_iff, Bool.or_eq_true, Bool.or_eq_false_iff, Bool.not_eq_true, Bool.not_eq_false, ne_eq, not_and, not_or, tog_t, tog_f, ahd_t, ahd_f, isoB_t, isoB_f, ixB_t, ixB_f, vOK_t, vOK_f, wOK_t, wOK_f, tn4, tI5, Int32.lt_iff_toInt_lt, Int32.le_iff_toInt_le, ← Int32.toInt_inj, tI0, tI1, tI2, tI3, tI4, tI6, tI14, tI59, tI60, tI127, tI1000, tI100000, tIm1, tIm2, tIm3, tIm4, tIbig] at c_1 c_2 c_4 c_6 c_8 c_9 c_11 ⊢; first | done | omega)) | exact sumW_n (by (simp only [pcM_t, pcM_f, decide_eq_true_eq, decide_eq_false_iff_not, Bool.and_eq_true, Bool.and_eq_false_iff, Bool.or_eq_true, Bool.or_eq_false_iff, Bool.not_eq_true, Bool.not_eq_false, ne_eq, not_and, not_or, tog_t, tog_f, ahd_t, ahd_f, isoB_t, isoB_f, ixB_t, ixB_f, vOK_t, vOK_f, wOK_t, wOK_f, tn4, tI5, Int32.lt_iff_toInt_lt, Int32.le_iff_toInt_le, ← Int32.toInt_inj, tI0, tI1, tI2, tI3, tI4, tI6, tI14, tI59, tI60, tI127, tI1000, tI100000, tIm1, tIm2, tIm3, tIm4, tIbig] at c_1 c_2 c_4 c_6 c_8 c_9 c_11 ⊢; first | done | omega))) (by rfl) (by omega) (by omega) (lv_sub hl [3, 4, 5, 6, 1, 0] rfl)
    exact L137 ((4) + 1) 0 _ _ ls (by first | rfl | exact sumW_y (by (simp only [pcM_t, pcM_f, decide_eq_true_eq, decide_eq_false_iff_not, Bool.and_eq_true, Bool.and_eq_false_iff, Bool.or_eq_true, Bool.or_eq_false_iff, Bool.not_eq_true, Bool.not_eq_false, ne_eq, not_and, not_or, tog_t, tog_f, ahd_t, ahd_f, isoB_t, isoB_f, ixB_t, ixB_f, vOK_t, vOK_f, wOK_t, wOK_f, tn4, tI5, Int32.lt_iff_toInt_lt, Int32.le_iff_toInt_le, ← Int32.toInt_inj, tI0, tI1, tI2, tI3, tI4, tI6, tI14, tI59, tI60, tI127, tI1000, tI100000, tIm1, tIm2, tIm3, tIm4, tIbig] at  ⊢; first | done | omega)) | exact sumW_n (by (simp only [pcM_t, pcM_f, decide_eq_true_eq, decide_eq_false_iff_not, Bool.and_eq_true, Bool.and_eq_false_iff, Bool.or_eq_true, Bool.or_eq_false_iff, Bool.not_eq_true, Bool.not_eq_false, ne_eq, not_and, not_or, tog_t, tog_f, ahd_t, ahd_f, isoB_t, isoB_f, ixB_t, ixB_f, vOK_t, vOK_f, wOK_t, wOK_f, tn4, tI5, Int32.lt_iff_toInt_lt, Int32.le_iff_toInt_le, ← Int32.toInt_inj, tI0, tI1, tI2, tI3, tI4, tI6, tI14, tI59, tI60, tI127, tI1000, tI100000, tIm1, tIm2, tIm3, tIm4, tIbig] at  ⊢; first | done | omega))) (by rfl) (by omega) (by omega) (lv_sub hl [1, 2, 3, 4, 5, 0] rfl)
  refine lv_aload_n hx hb dX8_price_15 rfl (lv_at hl 2 rfl) ?_
  refine va_get (D := (dC, dI)) (ci := 8) (v := .ref (a 8)) (C := RX8) (T := TX8) (N := 10) hx hb hts i_X8 hown hK hP 0 rfl rfl 8 (by decide) k_2 (fun _ h9 => h9) rfl dX8_price_16 ?_
  refine lv_iload_n hx hb dX8_price_19 rfl (lv_at hl 4 rfl) ?_
  refine gk_ld hx hb hK hP 8 0 rfl rfl v (by omega) (by omega) (v := nI (la v)) (rfl) dX8_price_20 ?_
  refine lv_if_le (tgt := 134) hx hb dX8_price_21 (by decide) (fun c_12 => ?_) (fun c_12 => ?_)
  · skip
    have c_12 : la v ≤ 0 := gk_leT (a := la v) (b := 0) (by first | omega | exact Nat.lt_trans (ho _) (by decide) | exact Nat.lt_of_le_of_lt atN_le (by omega) | exact Nat.lt_of_le_of_lt szN_le (by omega) | exact Nat.lt_of_le_of_lt clM_le (by omega) | exact Nat.lt_of_le_of_lt rkN_le (by omega) | exact Nat.lt_of_le_of_lt (cnt_le _ _) (by omega)) (by first | omega | exact Nat.lt_trans (ho _) (by decide) | exact Nat.lt_of_le_of_lt atN_le (by omega) | exact Nat.lt_of_le_of_lt szN_le (by omega) | exact Nat.lt_of_le_of_lt clM_le (by omega) | exact Nat.lt_of_le_of_lt rkN_le (by omega) | exact Nat.lt_of_le_of_lt (cnt_le _ _) (by omega)) c_12
    exact J134 _ ls (by exact pbM_0 (by omega)) (by first | exact Or.inl (by omega) | exact Or.inr (by assumption)) (lv_sub hl [2, 3, 4, 1, 0] rfl)
  · skip
    have c_12 : la v > 0 := gk_leF (a := la v) (b := 0) (by first | omega | exact Nat.lt_trans (ho _) (by decide) | exact Nat.lt_of_le_of_lt atN_le (by omega) | exact Nat.lt_of_le_of_lt szN_le (by omega) | exact Nat.lt_of_le_of_lt clM_le (by omega) | exact Nat.lt_of_le_of_lt rkN_le (by omega) | exact Nat.lt_of_le_of_lt (cnt_le _ _) (by omega)) (by first | omega | exact Nat.lt_trans (ho _) (by decide) | exact Nat.lt_of_le_of_lt atN_le (by omega) | exact Nat.lt_of_le_of_lt szN_le (by omega) | exact Nat.lt_of_le_of_lt clM_le (by omega) | exact Nat.lt_of_le_of_lt rkN_le (by omega) | exact Nat.lt_of_le_of_lt (cnt_le _ _) (by omega)) c_12
    refine lv_aload_n hx hb dX8_price_24 rfl (lv_at hl 2 rfl) ?_
    refine va_get (D := (dC, dI)) (ci := 8) (v := .ref (a 6)) (C := RX8) (T := TX8) (N := 10) hx hb hts i_X8 hown hK hP 0 rfl rfl 6 (by decide) k_0 (fun _ h9 => h9) rfl dX8_price_25 ?_
    refine lv_aload_n hx hb dX8_price_28 rfl (lv_at hl 2 rfl) ?_
    refine va_get (D := (dC, dI)) (ci := 8) (v := .ref (a 8)) (C := RX8) (T := TX8) (N := 10) hx hb hts i_X8 hown hK hP 0 rfl rfl 8 (by decide) k_2 (fun _ h9 => h9) rfl dX8_price_29 ?_
    refine lv_iload_n hx hb dX8_price_32 rfl (lv_at hl 4 rfl) ?_
    refine gk_ld hx hb hK hP 8 0 rfl rfl v (by omega) (by omega) (v := nI (la v)) (rfl) dX8_price_33 ?_
    refine lv_iconst (v := 1) hx hb dX8_price_34 (by decide) ?_
    refine lv_isub hx hb dX8_price_35 ?_
    refine gk_top (y := nI (la v - 1)) (pk_sub (a := la v) (b := 1) (by omega)) ?_
    refine gk_ld hx hb hK hP 6 0 rfl rfl (la v - 1) (by omega) (by omega) (v := nI (o (la v - 1))) (rfl) dX8_price_36 ?_
    refine lv_istore (lv' := [(5, .int (nI (o (la v - 1)))), (4, .int (Wt 3)), (3, .int (nI (o r))), (0, .ref (a 0)), (1, .int (nI r)), (2, .int (nI v))]) hx hb dX8_price_37 hl (by decide) rfl (fun ls hl => ?_)
    refine lv_aload_n hx hb dX8_price_39 rfl (lv_at hl 3 rfl) ?_
    refine lv_iload hx hb dX8_price_40 (lv_at hl 0 rfl) ?_
    refine lv_iload_n hx hb dX8_price_42 rfl (lv_at hl 2 rfl) ?_
    refine vp_callSi (gk_run (va_runV (As := [.int (nI (o (la v - 1))), .int (nI (o r))]) (rest := []) ⟨hx, hb, hml, hown, hts⟩ (c_X8_together l dC dI cI a n F T P V Wt (fun j => nI (o j)) G (fun j => nI (la j)) R hn (o (la v - 1)) (o r) (ho _) (ho _)) (cwV 2 hts gX8_price_X8_together rfl rfl rfl (by decide +kernel) ⟨Nat.le_of_ble_eq_true rfl, Nat.le_of_ble_eq_true rfl⟩) ⟨gk_fb, va_recv hK hP (ci := 8) (q0 := 0) rfl rfl, fun U hU hW => ⟨rfl, by rw [hU]; exact hP, va_K.moved hW.alike hK⟩⟩ rfl rfl hl.1 rfl (lv_room (Nat.le_of_ble_eq_true rfl)) dX8_price_43 ⟨Nat.zero_le _, Nat.zero_le _⟩)) (fun r_13 er_13 => ?_)
    subst er_13
    refine lv_if_eq (tgt := 52) hx hb dX8_price_46 (by decide) (fun c_14 => ?_) (fun c_14 => ?_)
    · skip
      have c_14 : (tog F T (o (la v - 1)) (o r)) = false := b2i_0.mp c_14
      refine lv_aload_n hx hb dX8_price_52 rfl (lv_at hl 3 rfl) ?_
      refine va_get (D := (dC, dI)) (ci := 8) (v := .ref (a 3)) (C := RX8) (T := TX8) (N := 10) hx hb hts i_X8 hown hK hP 0 rfl rfl 2 (by decide) k_3 (fun _ h9 => h9) rfl dX8_price_53 ?_
      refine lv_iload_n hx hb dX8_price_56 rfl (lv_at hl 2 rfl) ?_
      refine gk_ld hx hb hK hP 3 0 rfl rfl (o r) (ho _) (by omega) (v := P (o r)) (rfl) dX8_price_57 ?_
      refine lv_aload_n hx hb dX8_price_58 rfl (lv_at hl 3 rfl) ?_
      refine va_get (D := (dC, dI)) (ci := 8) (v := .ref (a 3)) (C := RX8) (T := TX8) (N := 10) hx hb hts i_X8 hown hK hP 0 rfl rfl 2 (by decide) k_3 (fun _ h9 => h9) rfl dX8_price_59 ?_
      refine lv_iload hx hb dX8_price_62 (lv_at hl 0 rfl) ?_
      refine gk_ld hx hb hK hP 3 0 rfl rfl (o (la v - 1)) (ho _) (by omega) (v := P (o (la v - 1))) (rfl) dX8_price_64 ?_
      refine lv_icmp_le (tgt := 85) hx hb dX8_price_65 (by decide) (fun c_15 => ?_) (fun c_15 => ?_)
      · skip
        refine lv_aload_n hx hb dX8_price_85 rfl (lv_at hl 3 rfl) ?_
        refine va_get (D := (dC, dI)) (ci := 8) (v := .ref (a 3)) (C := RX8) (T := TX8) (N := 10) hx hb hts i_X8 hown hK hP 0 rfl rfl 2 (by decide) k_3 (fun _ h9 => h9) rfl dX8_price_86 ?_
        refine lv_iload hx hb dX8_price_89 (lv_at hl 0 rfl) ?_
        refine gk_ld hx hb hK hP 3 0 rfl rfl (o (la v - 1)) (ho _) (by omega) (v := P (o (la v - 1))) (rfl) dX8_price_91 ?_
        refine lv_aload_n hx hb dX8_price_92 rfl (lv_at hl 3 rfl) ?_
        refine va_get (D := (dC, dI)) (ci := 8) (v := .ref (a 3)) (C := RX8) (T := TX8) (N := 10) hx hb hts i_X8 hown hK hP 0 rfl rfl 2 (by decide) k_3 (fun _ h9 => h9) rfl dX8_price_93 ?_
        refine lv_iload_n hx hb dX8_price_96 rfl (lv_at hl 2 rfl) ?_
        refine gk_ld hx hb hK hP 3 0 rfl rfl (o r) (ho _) (by omega) (v := P (o r)) (rfl) dX8_price_97 ?_
        refine lv_isub hx hb dX8_price_98 ?_
        refine lv_istore (lv' := [(6, .int ((P (o (la v - 1))) - (P (o r)))), (5, .int (nI (o (la v - 1)))), (4, .int (Wt 3)), (3, .int (nI (o r))), (0, .ref (a 0)), (1, .int (nI r)), (2, .int (nI v))]) hx hb dX8_price_99 hl (by decide) rfl (fun ls hl => ?_)
        refine lv_iload hx hb dX8_price_101 (lv_at hl 0 rfl) ?_
        refine lv_aload_n hx hb dX8_price_103 rfl (lv_at hl 4 rfl) ?_
        refine va_get (D := (dC, dI)) (ci := 8) (v := .ref (a 5)) (C := RX8) (T := TX8) (N := 10) hx hb hts i_X8 hown hK hP 0 rfl rfl 5 (by decide) k_1 (fun _ h9 => h9) rfl dX8_price_104 ?_
        refine lv_iconst (v := 0) hx hb dX8_price_107 (by decide) ?_
        refine gk_ld hx hb hK hP 5 0 rfl rfl 0 (by omega) (by omega) (v := Wt 0) (rfl) dX8_price_108 ?_
        refine lv_imul hx hb dX8_price_109 ?_
        refine lv_aload_n hx hb dX8_price_110 rfl (lv_at hl 4 rfl) ?_
        refine va_get (D := (dC, dI)) (ci := 8) (v := .ref (a 1)) (C := RX8) (T := TX8) (N := 10) hx hb hts i_X8 hown hK hP 0 rfl rfl 0 (by decide) k_4 (fun _ h9 => h9) rfl dX8_price_111 ?_
        refine lv_iload_n hx hb dX8_price_114 rfl (lv_at hl 3 rfl) ?_
        refine gk_ld hx hb hK hP 1 0 rfl rfl (o r) (ho _) (by omega) (v := F (o r)) (rfl) dX8_price_115 ?_
        refine lv_aload_n hx hb dX8_price_116 rfl (lv_at hl 4 rfl) ?_
        refine va_get (D := (dC, dI)) (ci := 8) (v := .ref (a 2)) (C := RX8) (T := TX8) (N := 10) hx hb hts i_X8 hown hK hP 0 rfl rfl 1 (by decide) k_5 (fun _ h9 => h9) rfl dX8_price_117 ?_
        refine lv_iload hx hb dX8_price_120 (lv_at hl 1 rfl) ?_
        refine gk_ld hx hb hK hP 2 0 rfl rfl (o (la v - 1)) (ho _) (by omega) (v := T (o (la v - 1))) (rfl) dX8_price_122 ?_
        refine lv_isub hx hb dX8_price_123 ?_
        refine lv_aload_n hx hb dX8_price_124 rfl (lv_at hl 4 rfl) ?_
        refine va_get (D := (dC, dI)) (ci := 8) (v := .ref (a 5)) (C := RX8) (T := TX8) (N := 10) hx hb hts i_X8 hown hK hP 0 rfl rfl 5 (by decide) k_1 (fun _ h9 => h9) rfl dX8_price_125 ?_
        refine lv_iconst (v := 1) hx hb dX8_price_128 (by decide) ?_
        refine gk_ld hx hb hK hP 5 0 rfl rfl 1 (by omega) (by omega) (v := Wt 1) (rfl) dX8_price_129 ?_
        refine lv_imul hx hb dX8_price_130 ?_
        refine lv_iadd hx hb dX8_price_131 ?_
        refine lv_istore (lv' := [(4, .int ((((P (o (la v - 1))) - (P (o r))) * (Wt 0)) + (((F (o r)) - (T (o (la v - 1)))) * (Wt 1)))), (6, .int ((P (o (la v - 1))) - (P (o r)))), (5, .int (nI (o (la v - 1)))), (3, .int (nI (o r))), (0, .ref (a 0)), (1, .int (nI r)), (2, .int (nI v))]) hx hb dX8_price_132 hl (by decide) rfl (fun ls hl => ?_)
        exact J134 _ ls (by exact pbM_2 (by omega) (Int32.not_lt.mpr (by assumption))) (by first | exact Or.inl (by omega) | exact Or.inr (by assumption)) (lv_sub hl [4, 5, 6, 3, 0] rfl)
      · skip
        refine lv_aload_n hx hb dX8_price_68 rfl (lv_at hl 3 rfl) ?_
        refine va_get (D := (dC, dI)) (ci := 8) (v := .ref (a 3)) (C := RX8) (T := TX8) (N := 10) hx hb hts i_X8 hown hK hP 0 rfl rfl 2 (by decide) k_3 (fun _ h9 => h9) rfl dX8_price_69 ?_
        refine lv_iload_n hx hb dX8_price_72 rfl (lv_at hl 2 rfl) ?_
        refine gk_ld hx hb hK hP 3 0 rfl rfl (o r) (ho _) (by omega) (v := P (o r)) (rfl) dX8_price_73 ?_
        refine lv_aload_n hx hb dX8_price_74 rfl (lv_at hl 3 rfl) ?_
        refine va_get (D := (dC, dI)) (ci := 8) (v := .ref (a 3)) (C := RX8) (T := TX8) (N := 10) hx hb hts i_X8 hown hK hP 0 rfl rfl 2 (by decide) k_3 (fun _ h9 => h9) rfl dX8_price_75 ?_
        refine lv_iload hx hb dX8_price_78 (lv_at hl 0 rfl) ?_
        refine gk_ld hx hb hK hP 3 0 rfl rfl (o (la v - 1)) (ho _) (by omega) (v := P (o (la v - 1))) (rfl) dX8_price_80 ?_
        refine lv_isub hx hb dX8_price_81 ?_
        refine lv_goto (tgt := 99) hx hb dX8_price_82 (by decide) ?_
        refine lv_istore (lv' := [(6, .int ((P (o r)) - (P (o (la v - 1))))), (5, .int (nI (o (la v - 1)))), (4, .int (Wt 3)), (3, .int (nI (o r))), (0, .ref (a 0)), (1, .int (nI r)), (2, .int (nI v))]) hx hb dX8_price_99 hl (by decide) rfl (fun ls hl => ?_)
        refine lv_iload hx hb dX8_price_101 (lv_at hl 0 rfl) ?_
        refine lv_aload_n hx hb dX8_price_103 rfl (lv_at hl 4 rfl) ?_
        refine va_get (D := (dC, dI)) (ci := 8) (v := .ref (a 5)) (C := RX8) (T := TX8) (N := 10) hx hb hts i_X8 hown hK hP 0 rfl rfl 5 (by decide) k_1 (fun _ h9 => h9) rfl dX8_price_104 ?_
        refine lv_iconst (v := 0) hx hb dX8_price_107 (by decide) ?_
        refine gk_ld hx hb hK hP 5 0 rfl rfl 0 (by omega) (by omega) (v := Wt 0) (rfl) dX8_price_108 ?_
        refine lv_imul hx hb dX8_price_109 ?_
        refine lv_aload_n hx hb dX8_price_110 rfl (lv_at hl 4 rfl) ?_
        refine va_get (D := (dC, dI)) (ci := 8) (v := .ref (a 1)) (C := RX8) (T := TX8) (N := 10) hx hb hts i_X8 hown hK hP 0 rfl rfl 0 (by decide) k_4 (fun _ h9 => h9) rfl dX8_price_111 ?_
        refine lv_iload_n hx hb dX8_price_114 rfl (lv_at hl 3 rfl) ?_
        refine gk_ld hx hb hK hP 1 0 rfl rfl (o r) (ho _) (by omega) (v := F (o r)) (rfl) dX8_price_115 ?_
        refine lv_aload_n hx hb dX8_price_116 rfl (lv_at hl 4 rfl) ?_
        refine va_get (D := (dC, dI)) (ci := 8) (v := .ref (a 2)) (C := RX8) (T := TX8) (N := 10) hx hb hts i_X8 hown hK hP 0 rfl rfl 1 (by decide) k_5 (fun _ h9 => h9) rfl dX8_price_117 ?_
        refine lv_iload hx hb dX8_price_120 (lv_at hl 1 rfl) ?_
        refine gk_ld hx hb hK hP 2 0 rfl rfl (o (la v - 1)) (ho _) (by omega) (v := T (o (la v - 1))) (rfl) dX8_price_122 ?_
        refine lv_isub hx hb dX8_price_123 ?_
        refine lv_aload_n hx hb dX8_price_124 rfl (lv_at hl 4 rfl) ?_
        refine va_get (D := (dC, dI)) (ci := 8) (v := .ref (a 5)) (C := RX8) (T := TX8) (N := 10) hx hb hts i_X8 hown hK hP 0 rfl rfl 5 (by decide) k_1 (fun _ h9 => h9) rfl dX8_price_125 ?_
        refine lv_iconst (v := 1) hx hb dX8_price_128 (by decide) ?_
        refine gk_ld hx hb hK hP 5 0 rfl rfl 1 (by omega) (by omega) (v := Wt 1) (rfl) dX8_price_129 ?_
        refine lv_imul hx hb dX8_price_130 ?_
        refine lv_iadd hx hb dX8_price_131 ?_
        refine lv_istore (lv' := [(4, .int ((((P (o r)) - (P (o (la v - 1)))) * (Wt 0)) + (((F (o r)) - (T (o (la v - 1)))) * (Wt 1)))), (6, .int ((P (o r)) - (P (o (la v - 1))))), (5, .int (nI (o (la v - 1)))), (3, .int (nI (o r))), (0, .ref (a 0)), (1, .int (nI r)), (2, .int (nI v))]) hx hb dX8_price_132 hl (by decide) rfl (fun ls hl => ?_)
        exact J134 _ ls (by exact pbM_1 (by omega) (Int32.not_le.mp (by assumption))) (by first | exact Or.inl (by omega) | exact Or.inr (by assumption)) (lv_sub hl [4, 5, 6, 3, 0] rfl)
    · skip
      have c_14 : (tog F T (o (la v - 1)) (o r)) = true := b2i_1.mp c_14
      refine lv_ldc (v := 2000000000) hx hb hown k_6 dX8_price_49 ?_
      exact W.iret (v := 2000000000) hx hb hr (fun t ht _ => ⟨_, rfl, by exact prc_nev (by omega) (by assumption), ht⟩) (fun q h => by cases h) dX8_price_51

set_option maxHeartbeats 1000000 in
set_option maxRecDepth 100000 in
theorem c_X3_crossed (l : Launch) (dC : Nat → ClassId) (dI : Nat → Nat → Nat) (cI : ClassId) (b : Nat → Nat) (n : Nat) (F T P V : Nat → Int32) (o kr : Nat → Nat) (hn : n ≤ 60) (ho : ∀ j, o j < 60) (Wt : Nat → Int32) (ln : Nat → Nat) (hln : ∀ j, ln j ≤ 60) (x v : Nat) (hx0 : x < 60) (hv0 : v < 4) : Met l yX3_crossed wsX3_crossed ({ frames := 0, cells := 0, slots := 0, locals := 0 } : Room) (va_Pc [.ref (b 14), .int (nI x), .int (nI v)] (fun U => va_P (dC, dI) vwCl [(b 14, .inr (3, [.ref (b 1), .ref (b 8), .ref (b 15)])), (b 8, .inl (cI, 4, .inl Wt)), (b 15, .inl (cI, 4, .inl (fun j => oi (ln j)))), (b 1, .inr (6, [.int (nI n), .ref (b 2), .ref (b 3), .ref (b 4), .ref (b 5), .ref (b 6), .ref (b 7)])), (b 2, .inl (cI, 60, .inl F)), (b 3, .inl (cI, 60, .inl T)), (b 4, .inl (cI, 60, .inl P)), (b 5, .inl (cI, 60, .inl V)), (b 6, .inl (cI, 60, .inl (fun j => nI (o j)))), (b 7, .inl (cI, 60, .inl (fun j => nI (kr j))))] U.heap ∧ va_K (dC, dI) vwCl [(cI, .int)] U)) (vp_Si (fun rr => rr = crC F T P Wt ln x v)) 0 0 (fun _ => False) := by
  refine Met.ofW (cc := cX3_crossed) (maxL := 7) (ret := (some .int)) (by decide) rfl ?_
  intro p e s m args below meth c s₁ B hml hv
  obtain ⟨rfl, hP, hK⟩ := hv
  have hx := B.exec
  have hb := B.bytes
  have hr := B.returns
  have hts := atoms_spec (ws := wsX3_crossed) B.pre
  have hown : s.vm.findClass RX3 = some m.cls := findClass_of_methodNamed B.named
  have hlocks := B.notSynchronized
  have i_X3 : ∀ w ∈ u_ws RX3 TX3 3, w ∈ wsX3_crossed := by decide +kernel
  have i_X6 : ∀ w ∈ u_ws RX6 TX6 7, w ∈ wsX3_crossed := by decide +kernel
  have k_0 := hts (.fieldLink RX3 9 "VoiceRows$Lines" "last" "[I") (by decide +kernel)
  have k_1 := hts (.fieldLink RX3 15 "VoiceRows$Lines" "score" "LVoiceRows$Score;") (by decide +kernel)
  have k_2 := hts (.fieldLink RX3 37 "VoiceRows$Score" "to" "[I") (by decide +kernel)
  have k_3 := hts (.fieldLink RX3 32 "VoiceRows$Score" "from" "[I") (by decide +kernel)
  have k_4 := hts (.fieldLink RX3 40 "VoiceRows$Score" "pitch" "[I") (by decide +kernel)
  have k_5 := hts (.fieldLink RX3 19 "VoiceRows$Lines" "weights" "[I") (by decide +kernel)
  have hl := lv_entry ([.ref (b 14), .int (nI x), .int (nI v)]) (n := 7) (Nat.le_of_ble_eq_true rfl)
  rw [lg_entry_eq]
  generalize (lg_sl ([.ref (b 14), .int (nI x), .int (nI v)]) ++ List.replicate (7 - (lg_sl ([.ref (b 14), .int (nI x), .int (nI v)])).length) Slot.unset).toArray = ls at hl ⊢
  have hl : lv_has ls 7 [(0, .ref (b 14)), (1, .int (nI x)), (2, .int (nI v))] := hl
  refine lv_iconst (v := 0) hx hb dX3_crossed_0 (by decide) ?_
  refine lv_istore_n (lv' := [(3, .int 0), (0, .ref (b 14)), (1, .int (nI x)), (2, .int (nI v))]) hx hb dX3_crossed_1 rfl hl (by decide) rfl (fun ls hl => ?_)
  refine lv_iconst (v := 0) hx hb dX3_crossed_2 (by decide) ?_
  refine lv_istore (lv' := [(4, .int 0), (3, .int 0), (0, .ref (b 14)), (1, .int (nI x)), (2, .int (nI v))]) hx hb dX3_crossed_3 hl (by decide) rfl (fun ls hl => ?_)
  have L5 : ∀ (fu : Nat) (k : Nat) (x3 x4 : Int32) (ls : Array Slot), x3 = sumW (ccC F T P ln x v) (Wt 2) 0 k → x4 = nI k → k ≤ 4 → 4 - k < fu → lv_has ls 7 [(0, .ref (b 14)), (1, .int (nI x)), (2, .int (nI v)), (3, .int x3), (4, .int x4)] → W p l e (headSpec wsX3_crossed ({ frames := 0, cells := 0, slots := 0, locals := 0 } : Room)).room s m [.ref (b 14), .int (nI x), .int (nI v)].toArray below meth c s.heap [] 0 0 (MQ below (vp_Si (fun rr => rr = crC F T P Wt ln x v)) [.ref (b 14), .int (nI x), .int (nI v)].toArray s 0 0 (fun _ => False)) (F0 m 5 ls []) := by
    intro fu
    induction fu with
    | zero =>
      intro k x3 x4 ls e3 e4 hk1 hfu5 hl
      exact absurd hfu5 (Nat.not_lt_zero _)
    | succ fu ih5 =>
      intro k x3 x4 ls e3 e4 hk1 hfu5 hl
      subst e3
      subst e4
      refine lv_iload hx hb dX3_crossed_5 (lv_at hl 4 rfl) ?_
      refine lv_iconst (v := 4) hx hb dX3_crossed_7 (by decide) ?_
      refine lv_icmp_ge (tgt := 107) hx hb dX3_crossed_8 (by decide) (fun c_1 => ?_) (fun c_1 => ?_)
      · skip
        have c_1 : k ≥ 4 := gk_geT (a := k) (b := 4) (by first | omega | exact Nat.lt_trans (ho _) (by decide) | exact Nat.lt_of_le_of_lt atN_le (by omega) | exact Nat.lt_of_le_of_lt szN_le (by omega) | exact Nat.lt_of_le_of_lt clM_le (by omega) | exact Nat.lt_of_le_of_lt rkN_le (by omega) | exact Nat.lt_of_le_of_lt (cnt_le _ _) (by omega)) (by first | omega | exact Nat.lt_trans (ho _) (by decide) | exact Nat.lt_of_le_of_lt atN_le (by omega) | exact Nat.lt_of_le_of_lt szN_le (by omega) | exact Nat.lt_of_le_of_lt clM_le (by omega) | exact Nat.lt_of_le_of_lt rkN_le (by omega) | exact Nat.lt_of_le_of_lt (cnt_le _ _) (by omega)) c_1
        refine lv_iload_n hx hb dX3_crossed_107 rfl (lv_at hl 3 rfl) ?_
        exact W.iret (v := sumW (ccC F T P ln x v) (Wt 2) 0 k) hx hb hr (fun t ht _ => ⟨_, rfl, by (obtain rfl : k = 4 := by omega); rfl, ht⟩) (fun q h => by cases h) dX3_crossed_108
      · skip
        have c_1 : k < 4 := gk_geF (a := k) (b := 4) (by first | omega | exact Nat.lt_trans (ho _) (by decide) | exact Nat.lt_of_le_of_lt atN_le (by omega) | exact Nat.lt_of_le_of_lt szN_le (by omega) | exact Nat.lt_of_le_of_lt clM_le (by omega) | exact Nat.lt_of_le_of_lt rkN_le (by omega) | exact Nat.lt_of_le_of_lt (cnt_le _ _) (by omega)) (by first | omega | exact Nat.lt_trans (ho _) (by decide) | exact Nat.lt_of_le_of_lt atN_le (by omega) | exact Nat.lt_of_le_of_lt szN_le (by omega) | exact Nat.lt_of_le_of_lt clM_le (by omega) | exact Nat.lt_of_le_of_lt rkN_le (by omega) | exact Nat.lt_of_le_of_lt (cnt_le _ _) (by omega)) c_1
        refine lv_aload_n hx hb dX3_crossed_11 rfl (lv_at hl 0 rfl) ?_
        refine va_get (D := (dC, dI)) (ci := 3) (v := .ref (b 15)) (C := RX3) (T := TX3) (N := 3) hx hb hts i_X3 hown hK hP 0 rfl rfl 2 (by decide) k_0 (fun _ h9 => h9) rfl dX3_crossed_12 ?_
        refine lv_iload hx hb dX3_crossed_15 (lv_at hl 4 rfl) ?_
        refine gk_ld hx hb hK hP 2 0 rfl rfl k (by omega) (by omega) (v := oi (ln k)) (rfl) dX3_crossed_17 ?_
        refine lv_istore (lv' := [(5, .int (oi (ln k))), (0, .ref (b 14)), (1, .int (nI x)), (2, .int (nI v)), (3, .int (sumW (ccC F T P ln x v) (Wt 2) 0 k)), (4, .int (nI k))]) hx hb dX3_crossed_18 hl (by decide) rfl (fun ls hl => ?_)
        refine lv_iload hx hb dX3_crossed_20 (lv_at hl 0 rfl) ?_
        refine lv_iconst (v := (-1)) hx hb dX3_crossed_22 (by decide) ?_
        refine lv_icmp_eq (tgt := 101) hx hb dX3_crossed_23 (by decide) (fun c_2 => ?_) (fun c_2 => ?_)
        · skip
          have c_2 : (ln k) = 0 := (oi_m1 (by have := hln k; omega)).mp c_2
          refine lv_iinc (v := nI (k + 1)) (lv' := [(4, .int (nI (k + 1))), (5, .int (oi (ln k))), (0, .ref (b 14)), (1, .int (nI x)), (2, .int (nI v)), (3, .int (sumW (ccC F T P ln x v) (Wt 2) 0 k))]) hx hb dX3_crossed_101 hl (k := 5) rfl (gk_inc1 _) (by decide) rfl (fun ls hl => ?_)
          refine lv_goto (tgt := 5) hx hb dX3_crossed_104 (by decide) ?_
          exact ih5 (k + 1) _ _ ls (by first | rfl | exact sumW_y (ccC_t (by assumption) (Int32.not_le.mp (by assumption)) (by (simp only [decide_eq_true_eq, decide_eq_false_iff_not, Bool.and_eq_true, Bool.and_eq_false_iff, Bool.or_eq_true, Bool.or_eq_false_iff, Bool.not_eq_true, Bool.not_eq_false, ne_eq, not_and, not_or, tog_t, tog_f, ahd_t, ahd_f, isoB_t, isoB_f, ixB_t, ixB_f, vOK_t, vOK_f, wOK_t, wOK_f, tn4, tI5, Int32.lt_iff_toInt_lt, Int32.le_iff_toInt_le, ← Int32.toInt_inj, tI0, tI1, tI2, tI3, tI4, tI6, tI14, tI59, tI60, tI127, tI1000, tI100000, tIm1, tIm2, tIm3, tIm4, tIbig] at c_1 c_2 ⊢; first | done | omega))) | exact sumW_n (ccC_f0 (by assumption)) | exact sumW_n (ccC_f1 (Int32.not_lt.mpr (by assumption))) | exact sumW_n (ccC_f2 (by (simp only [decide_eq_true_eq, decide_eq_false_iff_not, Bool.and_eq_true, Bool.and_eq_false_iff, Bool.or_eq_true, Bool.or_eq_false_iff, Bool.not_eq_true, Bool.not_eq_false, ne_eq, not_and, not_or, tog_t, tog_f, ahd_t, ahd_f, isoB_t, isoB_f, ixB_t, ixB_f, vOK_t, vOK_f, wOK_t, wOK_f, tn4, tI5, Int32.lt_iff_toInt_lt, Int32.le_iff_toInt_le, ← Int32.toInt_inj, tI0, tI1, tI2, tI3, tI4, tI6, tI14, tI59, tI60, tI127, tI1000, tI100000, tIm1, tIm2, tIm3, tIm4, tIbig] at c_1 c_2 ⊢; first | done | omega)))) (by rfl) (by omega) (by omega) (lv_sub hl [2, 3, 4, 5, 0] rfl)
        · skip
          have c_2 : (ln k) ≠ 0 := fun q => c_2 ((oi_m1 (by have := hln k; omega)).mpr q)
          refine lv_aload_n hx hb dX3_crossed_26 rfl (lv_at hl 1 rfl) ?_
          refine va_get (D := (dC, dI)) (ci := 3) (v := .ref (b 1)) (C := RX3) (T := TX3) (N := 3) hx hb hts i_X3 hown hK hP 0 rfl rfl 0 (by decide) k_1 (fun _ h9 => h9) rfl dX3_crossed_27 ?_
          refine va_get (D := (dC, dI)) (ci := 6) (v := .ref (b 3)) (C := RX6) (T := TX6) (N := 7) hx hb hts i_X6 hown hK hP 3 rfl rfl 2 (by decide) k_2 (fun _ h9 => h9) rfl dX3_crossed_30 ?_
          refine lv_iload hx hb dX3_crossed_33 (lv_at hl 0 rfl) ?_
          refine gk_top (y := nI (ln k - 1)) (oi_pos (by assumption)) ?_
          refine gk_ld hx hb hK hP 5 0 rfl rfl (ln k - 1) (by have := hln k; omega) (by omega) (v := T (ln k - 1)) (rfl) dX3_crossed_35 ?_
          refine lv_aload_n hx hb dX3_crossed_36 rfl (lv_at hl 1 rfl) ?_
          refine va_get (D := (dC, dI)) (ci := 3) (v := .ref (b 1)) (C := RX3) (T := TX3) (N := 3) hx hb hts i_X3 hown hK hP 0 rfl rfl 0 (by decide) k_1 (fun _ h9 => h9) rfl dX3_crossed_37 ?_
          refine va_get (D := (dC, dI)) (ci := 6) (v := .ref (b 2)) (C := RX6) (T := TX6) (N := 7) hx hb hts i_X6 hown hK hP 3 rfl rfl 1 (by decide) k_3 (fun _ h9 => h9) rfl dX3_crossed_40 ?_
          refine lv_iload_n hx hb dX3_crossed_43 rfl (lv_at hl 2 rfl) ?_
          refine gk_ld hx hb hK hP 4 0 rfl rfl x (by omega) (by omega) (v := F x) (rfl) dX3_crossed_44 ?_
          refine lv_icmp_le (tgt := 101) hx hb dX3_crossed_45 (by decide) (fun c_3 => ?_) (fun c_3 => ?_)
          · skip
            refine lv_iinc (v := nI (k + 1)) (lv' := [(4, .int (nI (k + 1))), (5, .int (oi (ln k))), (0, .ref (b 14)), (1, .int (nI x)), (2, .int (nI v)), (3, .int (sumW (ccC F T P ln x v) (Wt 2) 0 k))]) hx hb dX3_crossed_101 hl (k := 5) rfl (gk_inc1 _) (by decide) rfl (fun ls hl => ?_)
            refine lv_goto (tgt := 5) hx hb dX3_crossed_104 (by decide) ?_
            exact ih5 (k + 1) _ _ ls (by first | rfl | exact sumW_y (ccC_t (by assumption) (Int32.not_le.mp (by assumption)) (by (simp only [decide_eq_true_eq, decide_eq_false_iff_not, Bool.and_eq_true, Bool.and_eq_false_iff, Bool.or_eq_true, Bool.or_eq_false_iff, Bool.not_eq_true, Bool.not_eq_false, ne_eq, not_and, not_or, tog_t, tog_f, ahd_t, ahd_f, isoB_t, isoB_f, ixB_t, ixB_f, vOK_t, vOK_f, wOK_t, wOK_f, tn4, tI5, Int32.lt_iff_toInt_lt, Int32.le_iff_toInt_le, ← Int32.toInt_inj, tI0, tI1, tI2, tI3, tI4, tI6, tI14, tI59, tI60, tI127, tI1000, tI100000, tIm1, tIm2, tIm3, tIm4, tIbig] at c_1 c_2 c_3 ⊢; first | done | omega))) | exact sumW_n (ccC_f0 (by assumption)) | exact sumW_n (ccC_f1 (Int32.not_lt.mpr (by assumption))) | exact sumW_n (ccC_f2 (by (simp only [decide_eq_true_eq, decide_eq_false_iff_not, Bool.and_eq_true, Bool.and_eq_false_iff, Bool.or_eq_true, Bool.or_eq_false_iff, Bool.not_eq_true, Bool.not_eq_false, ne_eq, not_and, not_or, tog_t, tog_f, ahd_t, ahd_f, isoB_t, isoB_f, ixB_t, ixB_f, vOK_t, vOK_f, wOK_t, wOK_f, tn4, tI5, Int32.lt_iff_toInt_lt, Int32.le_iff_toInt_le, ← Int32.toInt_inj, tI0, tI1, tI2, tI3, tI4, tI6, tI14, tI59, tI60, tI127, tI1000, tI100000, tIm1, tIm2, tIm3, tIm4, tIbig] at c_1 c_2 c_3 ⊢; first | done | omega)))) (by rfl) (by omega) (by omega) (lv_sub hl [2, 3, 4, 5, 0] rfl)
          · skip
            refine lv_aload_n hx hb dX3_crossed_48 rfl (lv_at hl 1 rfl) ?_
            refine va_get (D := (dC, dI)) (ci := 3) (v := .ref (b 1)) (C := RX3) (T := TX3) (N := 3) hx hb hts i_X3 hown hK hP 0 rfl rfl 0 (by decide) k_1 (fun _ h9 => h9) rfl dX3_crossed_49 ?_
            refine va_get (D := (dC, dI)) (ci := 6) (v := .ref (b 4)) (C := RX6) (T := TX6) (N := 7) hx hb hts i_X6 hown hK hP 3 rfl rfl 3 (by decide) k_4 (fun _ h9 => h9) rfl dX3_crossed_52 ?_
            refine lv_iload_n hx hb dX3_crossed_55 rfl (lv_at hl 2 rfl) ?_
            refine gk_ld hx hb hK hP 6 0 rfl rfl x (by omega) (by omega) (v := P x) (rfl) dX3_crossed_56 ?_
            refine lv_aload_n hx hb dX3_crossed_57 rfl (lv_at hl 1 rfl) ?_
            refine va_get (D := (dC, dI)) (ci := 3) (v := .ref (b 1)) (C := RX3) (T := TX3) (N := 3) hx hb hts i_X3 hown hK hP 0 rfl rfl 0 (by decide) k_1 (fun _ h9 => h9) rfl dX3_crossed_58 ?_
            refine va_get (D := (dC, dI)) (ci := 6) (v := .ref (b 4)) (C := RX6) (T := TX6) (N := 7) hx hb hts i_X6 hown hK hP 3 rfl rfl 3 (by decide) k_4 (fun _ h9 => h9) rfl dX3_crossed_61 ?_
            refine lv_iload hx hb dX3_crossed_64 (lv_at hl 0 rfl) ?_
            refine gk_top (y := nI (ln k - 1)) (oi_pos (by assumption)) ?_
            refine gk_ld hx hb hK hP 6 0 rfl rfl (ln k - 1) (by have := hln k; omega) (by omega) (v := P (ln k - 1)) (rfl) dX3_crossed_66 ?_
            refine lv_isub hx hb dX3_crossed_67 ?_
            refine lv_istore (lv' := [(6, .int ((P x) - (P (ln k - 1)))), (5, .int (oi (ln k))), (0, .ref (b 14)), (1, .int (nI x)), (2, .int (nI v)), (3, .int (sumW (ccC F T P ln x v) (Wt 2) 0 k)), (4, .int (nI k))]) hx hb dX3_crossed_68 hl (by decide) rfl (fun ls hl => ?_)
            refine lv_iload hx hb dX3_crossed_70 (lv_at hl 6 rfl) ?_
            refine lv_iload_n hx hb dX3_crossed_72 rfl (lv_at hl 4 rfl) ?_
            refine lv_icmp_ge (tgt := 81) hx hb dX3_crossed_73 (by decide) (fun c_4 => ?_) (fun c_4 => ?_)
            · skip
              have c_4 : k ≥ v := gk_geT (a := k) (b := v) (by first | omega | exact Nat.lt_trans (ho _) (by decide) | exact Nat.lt_of_le_of_lt atN_le (by omega) | exact Nat.lt_of_le_of_lt szN_le (by omega) | exact Nat.lt_of_le_of_lt clM_le (by omega) | exact Nat.lt_of_le_of_lt rkN_le (by omega) | exact Nat.lt_of_le_of_lt (cnt_le _ _) (by omega)) (by first | omega | exact Nat.lt_trans (ho _) (by decide) | exact Nat.lt_of_le_of_lt atN_le (by omega) | exact Nat.lt_of_le_of_lt szN_le (by omega) | exact Nat.lt_of_le_of_lt clM_le (by omega) | exact Nat.lt_of_le_of_lt rkN_le (by omega) | exact Nat.lt_of_le_of_lt (cnt_le _ _) (by omega)) c_4
              refine lv_iload hx hb dX3_crossed_81 (lv_at hl 6 rfl) ?_
              refine lv_iload_n hx hb dX3_crossed_83 rfl (lv_at hl 4 rfl) ?_
              refine lv_icmp_le (tgt := 101) hx hb dX3_crossed_84 (by decide) (fun c_5 => ?_) (fun c_5 => ?_)
              · skip
                have c_5 : k ≤ v := gk_leT (a := k) (b := v) (by first | omega | exact Nat.lt_trans (ho _) (by decide) | exact Nat.lt_of_le_of_lt atN_le (by omega) | exact Nat.lt_of_le_of_lt szN_le (by omega) | exact Nat.lt_of_le_of_lt clM_le (by omega) | exact Nat.lt_of_le_of_lt rkN_le (by omega) | exact Nat.lt_of_le_of_lt (cnt_le _ _) (by omega)) (by first | omega | exact Nat.lt_trans (ho _) (by decide) | exact Nat.lt_of_le_of_lt atN_le (by omega) | exact Nat.lt_of_le_of_lt szN_le (by omega) | exact Nat.lt_of_le_of_lt clM_le (by omega) | exact Nat.lt_of_le_of_lt rkN_le (by omega) | exact Nat.lt_of_le_of_lt (cnt_le _ _) (by omega)) c_5
                refine lv_iinc (v := nI (k + 1)) (lv' := [(4, .int (nI (k + 1))), (6, .int ((P x) - (P (ln k - 1)))), (5, .int (oi (ln k))), (0, .ref (b 14)), (1, .int (nI x)), (2, .int (nI v)), (3, .int (sumW (ccC F T P ln x v) (Wt 2) 0 k))]) hx hb dX3_crossed_101 hl (k := 6) rfl (gk_inc1 _) (by decide) rfl (fun ls hl => ?_)
                refine lv_goto (tgt := 5) hx hb dX3_crossed_104 (by decide) ?_
                exact ih5 (k + 1) _ _ ls (by first | rfl | exact sumW_y (ccC_t (by assumption) (Int32.not_le.mp (by assumption)) (by (simp only [decide_eq_true_eq, decide_eq_false_iff_not, Bool.and_eq_true, Bool.and_eq_false_iff, Bool.or_eq_true, Bool.or_eq_false_iff, Bool.not_eq_true, Bool.not_eq_false, ne_eq, not_and, not_or, tog_t, tog_f, ahd_t, ahd_f, isoB_t, isoB_f, ixB_t, ixB_f, vOK_t, vOK_f, wOK_t, wOK_f, tn4, tI5, Int32.lt_iff_toInt_lt, Int32.le_iff_toInt_le, ← Int32.toInt_inj, tI0, tI1, tI2, tI3, tI4, tI6, tI14, tI59, tI60, tI127, tI1000, tI100000, tIm1, tIm2, tIm3, tIm4, tIbig] at c_1 c_2 c_3 c_4 c_5 ⊢; first | done | omega))) | exact sumW_n (ccC_f0 (by assumption)) | exact sumW_n (ccC_f1 (Int32.not_lt.mpr (by assumption))) | exact sumW_n (ccC_f2 (by (simp only [decide_eq_true_eq, decide_eq_false_iff_not, Bool.and_eq_true, Bool.and_eq_false_iff, Bool.or_eq_true, Bool.or_eq_false_iff, Bool.not_eq_true, Bool.not_eq_false, ne_eq, not_and, not_or, tog_t, tog_f, ahd_t, ahd_f, isoB_t, isoB_f, ixB_t, ixB_f, vOK_t, vOK_f, wOK_t, wOK_f, tn4, tI5, Int32.lt_iff_toInt_lt, Int32.le_iff_toInt_le, ← Int32.toInt_inj, tI0, tI1, tI2, tI3, tI4, tI6, tI14, tI59, tI60, tI127, tI1000, tI100000, tIm1, tIm2, tIm3, tIm4, tIbig] at c_1 c_2 c_3 c_4 c_5 ⊢; first | done | omega)))) (by rfl) (by omega) (by omega) (lv_sub hl [3, 4, 5, 6, 0] rfl)
              · skip
                have c_5 : k > v := gk_leF (a := k) (b := v) (by first | omega | exact Nat.lt_trans (ho _) (by decide) | exact Nat.lt_of_le_of_lt atN_le (by omega) | exact Nat.lt_of_le_of_lt szN_le (by omega) | exact Nat.lt_of_le_of_lt clM_le (by omega) | exact Nat.lt_of_le_of_lt rkN_le (by omega) | exact Nat.lt_of_le_of_lt (cnt_le _ _) (by omega)) (by first | omega | exact Nat.lt_trans (ho _) (by decide) | exact Nat.lt_of_le_of_lt atN_le (by omega) | exact Nat.lt_of_le_of_lt szN_le (by omega) | exact Nat.lt_of_le_of_lt clM_le (by omega) | exact Nat.lt_of_le_of_lt rkN_le (by omega) | exact Nat.lt_of_le_of_lt (cnt_le _ _) (by omega)) c_5
                refine lv_iload hx hb dX3_crossed_87 (lv_at hl 0 rfl) ?_
                refine lv_if_ge (tgt := 101) hx hb dX3_crossed_89 (by decide) (fun c_6 => ?_) (fun c_6 => ?_)
                · skip
                  refine lv_iinc (v := nI (k + 1)) (lv' := [(4, .int (nI (k + 1))), (6, .int ((P x) - (P (ln k - 1)))), (5, .int (oi (ln k))), (0, .ref (b 14)), (1, .int (nI x)), (2, .int (nI v)), (3, .int (sumW (ccC F T P ln x v) (Wt 2) 0 k))]) hx hb dX3_crossed_101 hl (k := 6) rfl (gk_inc1 _) (by decide) rfl (fun ls hl => ?_)
                  refine lv_goto (tgt := 5) hx hb dX3_crossed_104 (by decide) ?_
                  exact ih5 (k + 1) _ _ ls (by first | rfl | exact sumW_y (ccC_t (by assumption) (Int32.not_le.mp (by assumption)) (by (simp only [decide_eq_true_eq, decide_eq_false_iff_not, Bool.and_eq_true, Bool.and_eq_false_iff, Bool.or_eq_true, Bool.or_eq_false_iff, Bool.not_eq_true, Bool.not_eq_false, ne_eq, not_and, not_or, tog_t, tog_f, ahd_t, ahd_f, isoB_t, isoB_f, ixB_t, ixB_f, vOK_t, vOK_f, wOK_t, wOK_f, tn4, tI5, Int32.lt_iff_toInt_lt, Int32.le_iff_toInt_le, ← Int32.toInt_inj, tI0, tI1, tI2, tI3, tI4, tI6, tI14, tI59, tI60, tI127, tI1000, tI100000, tIm1, tIm2, tIm3, tIm4, tIbig] at c_1 c_2 c_3 c_4 c_5 c_6 ⊢; first | done | omega))) | exact sumW_n (ccC_f0 (by assumption)) | exact sumW_n (ccC_f1 (Int32.not_lt.mpr (by assumption))) | exact sumW_n (ccC_f2 (by (simp only [decide_eq_true_eq, decide_eq_false_iff_not, Bool.and_eq_true, Bool.and_eq_false_iff, Bool.or_eq_true, Bool.or_eq_false_iff, Bool.not_eq_true, Bool.not_eq_false, ne_eq, not_and, not_or, tog_t, tog_f, ahd_t, ahd_f, isoB_t, isoB_f, ixB_t, ixB_f, vOK_t, vOK_f, wOK_t, wOK_f, tn4, tI5, Int32.lt_iff_toInt_lt, Int32.le_iff_toInt_le, ← Int32.toInt_inj, tI0, tI1, tI2, tI3, tI4, tI6, tI14, tI59, tI60, tI127, tI1000, tI100000, tIm1, tIm2, tIm3, tIm4, tIbig] at c_1 c_2 c_3 c_4 c_5 c_6 ⊢; first | done | omega)))) (by rfl) (by omega) (by omega) (lv_sub hl [3, 4, 5, 6, 0] rfl)
                · skip
                  refine lv_iload_n hx hb dX3_crossed_92 rfl (lv_at hl 5 rfl) ?_
                  refine lv_aload_n hx hb dX3_crossed_93 rfl (lv_at hl 2 rfl) ?_
                  refine va_get (D := (dC, dI)) (ci := 3) (v := .ref (b 8)) (C := RX3) (T := TX3) (N := 3) hx hb hts i_X3 hown hK hP 0 rfl rfl 1 (by decide) k_5 (fun _ h9 => h9) rfl dX3_crossed_94 ?_
                  refine lv_iconst (v := 2) hx hb dX3_crossed_97 (by decide) ?_
                  refine gk_ld hx hb hK hP 1 0 rfl rfl 2 (by omega) (by omega) (v := Wt 2) (rfl) dX3_crossed_98 ?_
                  refine lv_iadd hx hb dX3_crossed_99 ?_
                  refine lv_istore_n (lv' := [(3, .int ((sumW (ccC F T P ln x v) (Wt 2) 0 k) + (Wt 2))), (6, .int ((P x) - (P (ln k - 1)))), (5, .int (oi (ln k))), (0, .ref (b 14)), (1, .int (nI x)), (2, .int (nI v)), (4, .int (nI k))]) hx hb dX3_crossed_100 rfl hl (by decide) rfl (fun ls hl => ?_)
                  refine lv_iinc (v := nI (k + 1)) (lv' := [(4, .int (nI (k + 1))), (3, .int ((sumW (ccC F T P ln x v) (Wt 2) 0 k) + (Wt 2))), (6, .int ((P x) - (P (ln k - 1)))), (5, .int (oi (ln k))), (0, .ref (b 14)), (1, .int (nI x)), (2, .int (nI v))]) hx hb dX3_crossed_101 hl (k := 6) rfl (gk_inc1 _) (by decide) rfl (fun ls hl => ?_)
                  refine lv_goto (tgt := 5) hx hb dX3_crossed_104 (by decide) ?_
                  exact ih5 (k + 1) _ _ ls (by first | rfl | exact sumW_y (ccC_t (by assumption) (Int32.not_le.mp (by assumption)) (by (simp only [decide_eq_true_eq, decide_eq_false_iff_not, Bool.and_eq_true, Bool.and_eq_false_iff, Bool.or_eq_true, Bool.or_eq_false_iff, Bool.not_eq_true, Bool.not_eq_false, ne_eq, not_and, not_or, tog_t, tog_f, ahd_t, ahd_f, isoB_t, isoB_f, ixB_t, ixB_f, vOK_t, vOK_f, wOK_t, wOK_f, tn4, tI5, Int32.lt_iff_toInt_lt, Int32.le_iff_toInt_le, ← Int32.toInt_inj, tI0, tI1, tI2, tI3, tI4, tI6, tI14, tI59, tI60, tI127, tI1000, tI100000, tIm1, tIm2, tIm3, tIm4, tIbig] at c_1 c_2 c_3 c_4 c_5 c_6 ⊢; first | done | omega))) | exact sumW_n (ccC_f0 (by assumption)) | exact sumW_n (ccC_f1 (Int32.not_lt.mpr (by assumption))) | exact sumW_n (ccC_f2 (by (simp only [decide_eq_true_eq, decide_eq_false_iff_not, Bool.and_eq_true, Bool.and_eq_false_iff, Bool.or_eq_true, Bool.or_eq_false_iff, Bool.not_eq_true, Bool.not_eq_false, ne_eq, not_and, not_or, tog_t, tog_f, ahd_t, ahd_f, isoB_t, isoB_f, ixB_t, ixB_f, vOK_t, vOK_f, wOK_t, wOK_f, tn4, tI5, Int32.lt_iff_toInt_lt, Int32.le_iff_toInt_le, ← Int32.toInt_inj, tI0, tI1, tI2, tI3, tI4, tI6, tI14, tI59, tI60, tI127, tI1000, tI100000, tIm1, tIm2, tIm3, tIm4, tIbig] at c_1 c_2 c_3 c_4 c_5 c_6 ⊢; first | done | omega)))) (by rfl) (by omega) (by omega) (lv_sub hl [4, 5, 6, 1, 0] rfl)
            · skip
              have c_4 : k < v := gk_geF (a := k) (b := v) (by first | omega | exact Nat.lt_trans (ho _) (by decide) | exact Nat.lt_of_le_of_lt atN_le (by omega) | exact Nat.lt_of_le_of_lt szN_le (by omega) | exact Nat.lt_of_le_of_lt clM_le (by omega) | exact Nat.lt_of_le_of_lt rkN_le (by omega) | exact Nat.lt_of_le_of_lt (cnt_le _ _) (by omega)) (by first | omega | exact Nat.lt_trans (ho _) (by decide) | exact Nat.lt_of_le_of_lt atN_le (by omega) | exact Nat.lt_of_le_of_lt szN_le (by omega) | exact Nat.lt_of_le_of_lt clM_le (by omega) | exact Nat.lt_of_le_of_lt rkN_le (by omega) | exact Nat.lt_of_le_of_lt (cnt_le _ _) (by omega)) c_4
              refine lv_iload hx hb dX3_crossed_76 (lv_at hl 0 rfl) ?_
              refine lv_if_gt (tgt := 92) hx hb dX3_crossed_78 (by decide) (fun c_7 => ?_) (fun c_7 => ?_)
              · skip
                refine lv_iload_n hx hb dX3_crossed_92 rfl (lv_at hl 5 rfl) ?_
                refine lv_aload_n hx hb dX3_crossed_93 rfl (lv_at hl 2 rfl) ?_
                refine va_get (D := (dC, dI)) (ci := 3) (v := .ref (b 8)) (C := RX3) (T := TX3) (N := 3) hx hb hts i_X3 hown hK hP 0 rfl rfl 1 (by decide) k_5 (fun _ h9 => h9) rfl dX3_crossed_94 ?_
                refine lv_iconst (v := 2) hx hb dX3_crossed_97 (by decide) ?_
                refine gk_ld hx hb hK hP 1 0 rfl rfl 2 (by omega) (by omega) (v := Wt 2) (rfl) dX3_crossed_98 ?_
                refine lv_iadd hx hb dX3_crossed_99 ?_
                refine lv_istore_n (lv' := [(3, .int ((sumW (ccC F T P ln x v) (Wt 2) 0 k) + (Wt 2))), (6, .int ((P x) - (P (ln k - 1)))), (5, .int (oi (ln k))), (0, .ref (b 14)), (1, .int (nI x)), (2, .int (nI v)), (4, .int (nI k))]) hx hb dX3_crossed_100 rfl hl (by decide) rfl (fun ls hl => ?_)
                refine lv_iinc (v := nI (k + 1)) (lv' := [(4, .int (nI (k + 1))), (3, .int ((sumW (ccC F T P ln x v) (Wt 2) 0 k) + (Wt 2))), (6, .int ((P x) - (P (ln k - 1)))), (5, .int (oi (ln k))), (0, .ref (b 14)), (1, .int (nI x)), (2, .int (nI v))]) hx hb dX3_crossed_101 hl (k := 6) rfl (gk_inc1 _) (by decide) rfl (fun ls hl => ?_)
                refine lv_goto (tgt := 5) hx hb dX3_crossed_104 (by decide) ?_
                exact ih5 (k + 1) _ _ ls (by first | rfl | exact sumW_y (ccC_t (by assumption) (Int32.not_le.mp (by assumption)) (by (simp only [decide_eq_true_eq, decide_eq_false_iff_not, Bool.and_eq_true, Bool.and_eq_false_iff, Bool.or_eq_true, Bool.or_eq_false_iff, Bool.not_eq_true, Bool.not_eq_false, ne_eq, not_and, not_or, tog_t, tog_f, ahd_t, ahd_f, isoB_t, isoB_f, ixB_t, ixB_f, vOK_t, vOK_f, wOK_t, wOK_f, tn4, tI5, Int32.lt_iff_toInt_lt, Int32.le_iff_toInt_le, ← Int32.toInt_inj, tI0, tI1, tI2, tI3, tI4, tI6, tI14, tI59, tI60, tI127, tI1000, tI100000, tIm1, tIm2, tIm3, tIm4, tIbig] at c_1 c_2 c_3 c_4 c_7 ⊢; first | done | omega))) | exact sumW_n (ccC_f0 (by assumption)) | exact sumW_n (ccC_f1 (Int32.not_lt.mpr (by assumption))) | exact sumW_n (ccC_f2 (by (simp only [decide_eq_true_eq, decide_eq_false_iff_not, Bool.and_eq_true, Bool.and_eq_false_iff, Bool.or_eq_true, Bool.or_eq_false_iff, Bool.not_eq_true, Bool.not_eq_false, ne_eq, not_and, not_or, tog_t, tog_f, ahd_t, ahd_f, isoB_t, isoB_f, ixB_t, ixB_f, vOK_t, vOK_f, wOK_t, wOK_f, tn4, tI5, Int32.lt_iff_toInt_lt, Int32.le_iff_toInt_le, ← Int32.toInt_inj, tI0, tI1, tI2, tI3, tI4, tI6, tI14, tI59, tI60, tI127, tI1000, tI100000, tIm1, tIm2, tIm3, tIm4, tIbig] at c_1 c_2 c_3 c_4 c_7 ⊢; first | done | omega)))) (by rfl) (by omega) (by omega) (lv_sub hl [4, 5, 6, 1, 0] rfl)
              · skip
                refine lv_iload hx hb dX3_crossed_81 (lv_at hl 6 rfl) ?_
                refine lv_iload_n hx hb dX3_crossed_83 rfl (lv_at hl 4 rfl) ?_
                refine lv_icmp_le (tgt := 101) hx hb dX3_crossed_84 (by decide) (fun c_8 => ?_) (fun c_8 => ?_)
                · skip
                  have c_8 : k ≤ v := gk_leT (a := k) (b := v) (by first | omega | exact Nat.lt_trans (ho _) (by decide) | exact Nat.lt_of_le_of_lt atN_le (by omega) | exact Nat.lt_of_le_of_lt szN_le (by omega) | exact Nat.lt_of_le_of_lt clM_le (by omega) | exact Nat.lt_of_le_of_lt rkN_le (by omega) | exact Nat.lt_of_le_of_lt (cnt_le _ _) (by omega)) (by first | omega | exact Nat.lt_trans (ho _) (by decide) | exact Nat.lt_of_le_of_lt atN_le (by omega) | exact Nat.lt_of_le_of_lt szN_le (by omega) | exact Nat.lt_of_le_of_lt clM_le (by omega) | exact Nat.lt_of_le_of_lt rkN_le (by omega) | exact Nat.lt_of_le_of_lt (cnt_le _ _) (by omega)) c_8
                  refine lv_iinc (v := nI (k + 1)) (lv' := [(4, .int (nI (k + 1))), (6, .int ((P x) - (P (ln k - 1)))), (5, .int (oi (ln k))), (0, .ref (b 14)), (1, .int (nI x)), (2, .int (nI v)), (3, .int (sumW (ccC F T P ln x v) (Wt 2) 0 k))]) hx hb dX3_crossed_101 hl (k := 6) rfl (gk_inc1 _) (by decide) rfl (fun ls hl => ?_)
                  refine lv_goto (tgt := 5) hx hb dX3_crossed_104 (by decide) ?_
                  exact ih5 (k + 1) _ _ ls (by first | rfl | exact sumW_y (ccC_t (by assumption) (Int32.not_le.mp (by assumption)) (by (simp only [decide_eq_true_eq, decide_eq_false_iff_not, Bool.and_eq_true, Bool.and_eq_false_iff, Bool.or_eq_true, Bool.or_eq_false_iff, Bool.not_eq_true, Bool.not_eq_false, ne_eq, not_and, not_or, tog_t, tog_f, ahd_t, ahd_f, isoB_t, isoB_f, ixB_t, ixB_f, vOK_t, vOK_f, wOK_t, wOK_f, tn4, tI5, Int32.lt_iff_toInt_lt, Int32.le_iff_toInt_le, ← Int32.toInt_inj, tI0, tI1, tI2, tI3, tI4, tI6, tI14, tI59, tI60, tI127, tI1000, tI100000, tIm1, tIm2, tIm3, tIm4, tIbig] at c_1 c_2 c_3 c_4 c_7 c_8 ⊢; first | done | omega))) | exact sumW_n (ccC_f0 (by assumption)) | exact sumW_n (ccC_f1 (Int32.not_lt.mpr (by assumption))) | exact sumW_n (ccC_f2 (by (simp only [decide_eq_true_eq, decide_eq_false_iff_not, Bool.and_eq_true, Bool.and_eq_false_iff, Bool.or_eq_true, Bool.or_eq_false_iff, Bool.not_eq_true, Bool.not_eq_false, ne_eq, not_and, not_or, tog_t, tog_f, ahd_t, ahd_f, isoB_t, isoB_f, ixB_t, ixB_f, vOK_t, vOK_f, wOK_t, wOK_f, tn4, tI5, Int32.lt_iff_toInt_lt, Int32.le_iff_toInt_le, ← Int32.toInt_inj, tI0, tI1, tI2, tI3, tI4, tI6, tI14, tI59, tI60, tI127, tI1000, tI100000, tIm1, tIm2, tIm3, tIm4, tIbig] at c_1 c_2 c_3 c_4 c_7 c_8 ⊢; first | done | omega)))) (by rfl) (by omega) (by omega) (lv_sub hl [3, 4, 5, 6, 0] rfl)
                · skip
                  have c_8 : k > v := gk_leF (a := k) (b := v) (by first | omega | exact Nat.lt_trans (ho _) (by decide) | exact Nat.lt_of_le_of_lt atN_le (by omega) | exact Nat.lt_of_le_of_lt szN_le (by omega) | exact Nat.lt_of_le_of_lt clM_le (by omega) | exact Nat.lt_of_le_of_lt rkN_le (by omega) | exact Nat.lt_of_le_of_lt (cnt_le _ _) (by omega)) (by first | omega | exact Nat.lt_trans (ho _) (by decide) | exact Nat.lt_of_le_of_lt atN_le (by omega) | exact Nat.lt_of_le_of_lt szN_le (by omega) | exact Nat.lt_of_le_of_lt clM_le (by omega) | exact Nat.lt_of_le_of_lt rkN_le (by omega) | exact Nat.lt_of_le_of_lt (cnt_le _ _) (by omega)) c_8
                  refine lv_iload hx hb dX3_crossed_87 (lv_at hl 0 rfl) ?_
                  refine lv_if_ge (tgt := 101) hx hb dX3_crossed_89 (by decide) (fun c_9 => ?_) (fun c_9 => ?_)
                  · skip
                    refine lv_iinc (v := nI (k + 1)) (lv' := [(4, .int (nI (k + 1))), (6, .int ((P x) - (P (ln k - 1)))), (5, .int (oi (ln k))), (0, .ref (b 14)), (1, .int (nI x)), (2, .int (nI v)), (3, .int (sumW (ccC F T P ln x v) (Wt 2) 0 k))]) hx hb dX3_crossed_101 hl (k := 6) rfl (gk_inc1 _) (by decide) rfl (fun ls hl => ?_)
                    refine lv_goto (tgt := 5) hx hb dX3_crossed_104 (by decide) ?_
                    exact ih5 (k + 1) _ _ ls (by first | rfl | exact sumW_y (ccC_t (by assumption) (Int32.not_le.mp (by assumption)) (by (simp only [decide_eq_true_eq, decide_eq_false_iff_not, Bool.and_eq_true, Bool.and_eq_false_iff, Bool.or_eq_true, Bool.or_eq_false_iff, Bool.not_eq_true, Bool.not_eq_false, ne_eq, not_and, not_or, tog_t, tog_f, ahd_t, ahd_f, isoB_t, isoB_f, ixB_t, ixB_f, vOK_t, vOK_f, wOK_t, wOK_f, tn4, tI5, Int32.lt_iff_toInt_lt, Int32.le_iff_toInt_le, ← Int32.toInt_inj, tI0, tI1, tI2, tI3, tI4, tI6, tI14, tI59, tI60, tI127, tI1000, tI100000, tIm1, tIm2, tIm3, tIm4, tIbig] at c_1 c_2 c_3 c_4 c_7 c_8 c_9 ⊢; first | done | omega))) | exact sumW_n (ccC_f0 (by assumption)) | exact sumW_n (ccC_f1 (Int32.not_lt.mpr (by assumption))) | exact sumW_n (ccC_f2 (by (simp only [decide_eq_true_eq, decide_eq_false_iff_not, Bool.and_eq_true, Bool.and_eq_false_iff, Bool.or_eq_true, Bool.or_eq_false_iff, Bool.not_eq_true, Bool.not_eq_false, ne_eq, not_and, not_or, tog_t, tog_f, ahd_t, ahd_f, isoB_t, isoB_f, ixB_t, ixB_f, vOK_t, vOK_f, wOK_t, wOK_f, tn4, tI5, Int32.lt_iff_toInt_lt, Int32.le_iff_toInt_le, ← Int32.toInt_inj, tI0, tI1, tI2, tI3, tI4, tI6, tI14, tI59, tI60, tI127, tI1000, tI100000, tIm1, tIm2, tIm3, tIm4, tIbig] at c_1 c_2 c_3 c_4 c_7 c_8 c_9 ⊢; first | done | omega)))) (by rfl) (by omega) (by omega) (lv_sub hl [3, 4, 5, 6, 0] rfl)
                  · skip
                    refine lv_iload_n hx hb dX3_crossed_92 rfl (lv_at hl 5 rfl) ?_
                    refine lv_aload_n hx hb dX3_crossed_93 rfl (lv_at hl 2 rfl) ?_
                    refine va_get (D := (dC, dI)) (ci := 3) (v := .ref (b 8)) (C := RX3) (T := TX3) (N := 3) hx hb hts i_X3 hown hK hP 0 rfl rfl 1 (by decide) k_5 (fun _ h9 => h9) rfl dX3_crossed_94 ?_
                    refine lv_iconst (v := 2) hx hb dX3_crossed_97 (by decide) ?_
                    refine gk_ld hx hb hK hP 1 0 rfl rfl 2 (by omega) (by omega) (v := Wt 2) (rfl) dX3_crossed_98 ?_
                    refine lv_iadd hx hb dX3_crossed_99 ?_
                    refine lv_istore_n (lv' := [(3, .int ((sumW (ccC F T P ln x v) (Wt 2) 0 k) + (Wt 2))), (6, .int ((P x) - (P (ln k - 1)))), (5, .int (oi (ln k))), (0, .ref (b 14)), (1, .int (nI x)), (2, .int (nI v)), (4, .int (nI k))]) hx hb dX3_crossed_100 rfl hl (by decide) rfl (fun ls hl => ?_)
                    refine lv_iinc (v := nI (k + 1)) (lv' := [(4, .int (nI (k + 1))), (3, .int ((sumW (ccC F T P ln x v) (Wt 2) 0 k) + (Wt 2))), (6, .int ((P x) - (P (ln k - 1)))), (5, .int (oi (ln k))), (0, .ref (b 14)), (1, .int (nI x)), (2, .int (nI v))]) hx hb dX3_crossed_101 hl (k := 6) rfl (gk_inc1 _) (by decide) rfl (fun ls hl => ?_)
                    refine lv_goto (tgt := 5) hx hb dX3_crossed_104 (by decide) ?_
                    exact ih5 (k + 1) _ _ ls (by first | rfl | exact sumW_y (ccC_t (by assumption) (Int32.not_le.mp (by assumption)) (by (simp only [decide_eq_true_eq, decide_eq_false_iff_not, Bool.and_eq_true, Bool.and_eq_false_iff, Bool.or_eq_true, Bool.or_eq_false_iff, Bool.not_eq_true, Bool.not_eq_false, ne_eq, not_and, not_or, tog_t, tog_f, ahd_t, ahd_f, isoB_t, isoB_f, ixB_t, ixB_f, vOK_t, vOK_f, wOK_t, wOK_f, tn4, tI5, Int32.lt_iff_toInt_lt, Int32.le_iff_toInt_le, ← Int32.toInt_inj, tI0, tI1, tI2, tI3, tI4, tI6, tI14, tI59, tI60, tI127, tI1000, tI100000, tIm1, tIm2, tIm3, tIm4, tIbig] at c_1 c_2 c_3 c_4 c_7 c_8 c_9 ⊢; first | done | omega))) | exact sumW_n (ccC_f0 (by assumption)) | exact sumW_n (ccC_f1 (Int32.not_lt.mpr (by assumption))) | exact sumW_n (ccC_f2 (by (simp only [decide_eq_true_eq, decide_eq_false_iff_not, Bool.and_eq_true, Bool.and_eq_false_iff, Bool.or_eq_true, Bool.or_eq_false_iff, Bool.not_eq_true, Bool.not_eq_false, ne_eq, not_and, not_or, tog_t, tog_f, ahd_t, ahd_f, isoB_t, isoB_f, ixB_t, ixB_f, vOK_t, vOK_f, wOK_t, wOK_f, tn4, tI5, Int32.lt_iff_toInt_lt, Int32.le_iff_toInt_le, ← Int32.toInt_inj, tI0, tI1, tI2, tI3, tI4, tI6, tI14, tI59, tI60, tI127, tI1000, tI100000, tIm1, tIm2, tIm3, tIm4, tIbig] at c_1 c_2 c_3 c_4 c_7 c_8 c_9 ⊢; first | done | omega)))) (by rfl) (by omega) (by omega) (lv_sub hl [4, 5, 6, 1, 0] rfl)
  exact L5 ((4) + 1) 0 _ _ ls (by first | rfl | exact sumW_y (ccC_t (by assumption) (Int32.not_le.mp (by assumption)) (by (simp only [decide_eq_true_eq, decide_eq_false_iff_not, Bool.and_eq_true, Bool.and_eq_false_iff, Bool.or_eq_true, Bool.or_eq_false_iff, Bool.not_eq_true, Bool.not_eq_false, ne_eq, not_and, not_or, tog_t, tog_f, ahd_t, ahd_f, isoB_t, isoB_f, ixB_t, ixB_f, vOK_t, vOK_f, wOK_t, wOK_f, tn4, tI5, Int32.lt_iff_toInt_lt, Int32.le_iff_toInt_le, ← Int32.toInt_inj, tI0, tI1, tI2, tI3, tI4, tI6, tI14, tI59, tI60, tI127, tI1000, tI100000, tIm1, tIm2, tIm3, tIm4, tIbig] at  ⊢; first | done | omega))) | exact sumW_n (ccC_f0 (by assumption)) | exact sumW_n (ccC_f1 (Int32.not_lt.mpr (by assumption))) | exact sumW_n (ccC_f2 (by (simp only [decide_eq_true_eq, decide_eq_false_iff_not, Bool.and_eq_true, Bool.and_eq_false_iff, Bool.or_eq_true, Bool.or_eq_false_iff, Bool.not_eq_true, Bool.not_eq_false, ne_eq, not_and, not_or, tog_t, tog_f, ahd_t, ahd_f, isoB_t, isoB_f, ixB_t, ixB_f, vOK_t, vOK_f, wOK_t, wOK_f, tn4, tI5, Int32.lt_iff_toInt_lt, Int32.le_iff_toInt_le, ← Int32.toInt_inj, tI0, tI1, tI2, tI3, tI4, tI6, tI14, tI59, tI60, tI127, tI1000, tI100000, tIm1, tIm2, tIm3, tIm4, tIbig] at  ⊢; first | done | omega)))) (by rfl) (by omega) (by omega) (lv_sub hl [2, 3, 4, 1, 0] rfl)

set_option maxHeartbeats 1000000 in
set_option maxRecDepth 100000 in
theorem c_X3_added (l : Launch) (dC : Nat → ClassId) (dI : Nat → Nat → Nat) (cI : ClassId) (b : Nat → Nat) (n : Nat) (F T P V : Nat → Int32) (o kr : Nat → Nat) (hn : n ≤ 60) (ho : ∀ j, o j < 60) (Wt : Nat → Int32) (ln : Nat → Nat) (hln : ∀ j, ln j ≤ 60) (x v : Nat) (hx0 : x < 60) (hv0 : v < 4) : Met l yX3_added wsX3_added ({ frames := 1, cells := 0, slots := 0, locals := 26 } : Room) (va_Pc [.ref (b 14), .int (nI x), .int (nI v)] (fun U => va_P (dC, dI) vwCl [(b 14, .inr (3, [.ref (b 1), .ref (b 8), .ref (b 15)])), (b 8, .inl (cI, 4, .inl Wt)), (b 15, .inl (cI, 4, .inl (fun j => oi (ln j)))), (b 1, .inr (6, [.int (nI n), .ref (b 2), .ref (b 3), .ref (b 4), .ref (b 5), .ref (b 6), .ref (b 7)])), (b 2, .inl (cI, 60, .inl F)), (b 3, .inl (cI, 60, .inl T)), (b 4, .inl (cI, 60, .inl P)), (b 5, .inl (cI, 60, .inl V)), (b 6, .inl (cI, 60, .inl (fun j => nI (o j)))), (b 7, .inl (cI, 60, .inl (fun j => nI (kr j))))] U.heap ∧ va_K (dC, dI) vwCl [(cI, .int)] U)) (vp_Si (fun rr => rr = adC F T P Wt ln x v)) 0 0 (fun _ => False) := by
  refine Met.ofW (cc := cX3_added) (maxL := 6) (ret := (some .int)) (by decide) rfl ?_
  intro p e s m args below meth c s₁ B hml hv
  obtain ⟨rfl, hP, hK⟩ := hv
  have hx := B.exec
  have hb := B.bytes
  have hr := B.returns
  have hts := atoms_spec (ws := wsX3_added) B.pre
  have hown : s.vm.findClass RX3 = some m.cls := findClass_of_methodNamed B.named
  have hlocks := B.notSynchronized
  have i_X3 : ∀ w ∈ u_ws RX3 TX3 3, w ∈ wsX3_added := by decide +kernel
  have i_X6 : ∀ w ∈ u_ws RX6 TX6 7, w ∈ wsX3_added := by decide +kernel
  have k_0 := hts (.fieldLink RX3 9 "VoiceRows$Lines" "last" "[I") (by decide +kernel)
  have k_1 := hts (.fieldLink RX3 15 "VoiceRows$Lines" "score" "LVoiceRows$Score;") (by decide +kernel)
  have k_2 := hts (.fieldLink RX3 32 "VoiceRows$Score" "from" "[I") (by decide +kernel)
  have k_3 := hts (.fieldLink RX3 37 "VoiceRows$Score" "to" "[I") (by decide +kernel)
  have k_4 := hts (.fieldLink RX3 40 "VoiceRows$Score" "pitch" "[I") (by decide +kernel)
  have k_5 := hts (.methodLink RX3 43 Lib.Math.abs.name) (by decide +kernel)
  have k_6 := hts (.static Lib.Math.abs.name) (by decide +kernel)
  have k_7 := hts (.initialized "java/lang/Math") (by decide +kernel)
  have k_8 := hts (.code Lib.Math.abs.name Lib.Math.abs.code 1 (some .int)) (by decide +kernel)
  have k_9 := hts (.fieldLink RX3 19 "VoiceRows$Lines" "weights" "[I") (by decide +kernel)
  have hl := lv_entry ([.ref (b 14), .int (nI x), .int (nI v)]) (n := 6) (Nat.le_of_ble_eq_true rfl)
  rw [lg_entry_eq]
  generalize (lg_sl ([.ref (b 14), .int (nI x), .int (nI v)]) ++ List.replicate (6 - (lg_sl ([.ref (b 14), .int (nI x), .int (nI v)])).length) Slot.unset).toArray = ls at hl ⊢
  have hl : lv_has ls 6 [(0, .ref (b 14)), (1, .int (nI x)), (2, .int (nI v))] := hl
  have hlv := hln v
  refine lv_aload_n hx hb dX3_added_0 rfl (lv_at hl 0 rfl) ?_
  refine va_get (D := (dC, dI)) (ci := 3) (v := .ref (b 15)) (C := RX3) (T := TX3) (N := 3) hx hb hts i_X3 hown hK hP 0 rfl rfl 2 (by decide) k_0 (fun _ h9 => h9) rfl dX3_added_1 ?_
  refine lv_iload_n hx hb dX3_added_4 rfl (lv_at hl 2 rfl) ?_
  refine gk_ld hx hb hK hP 2 0 rfl rfl v (by omega) (by omega) (v := oi (ln v)) (rfl) dX3_added_5 ?_
  refine lv_istore_n (lv' := [(3, .int (oi (ln v))), (0, .ref (b 14)), (1, .int (nI x)), (2, .int (nI v))]) hx hb dX3_added_6 rfl hl (by decide) rfl (fun ls hl => ?_)
  refine lv_iload_n hx hb dX3_added_7 rfl (lv_at hl 0 rfl) ?_
  refine lv_iconst (v := (-1)) hx hb dX3_added_8 (by decide) ?_
  refine lv_icmp_ne (tgt := 26) hx hb dX3_added_9 (by decide) (fun c_1 => ?_) (fun c_1 => ?_)
  · skip
    have c_1 : (ln v) ≠ 0 := fun q => c_1 ((oi_m1 (by have := hln v; omega)).mpr q)
    refine lv_aload_n hx hb dX3_added_26 rfl (lv_at hl 1 rfl) ?_
    refine va_get (D := (dC, dI)) (ci := 3) (v := .ref (b 1)) (C := RX3) (T := TX3) (N := 3) hx hb hts i_X3 hown hK hP 0 rfl rfl 0 (by decide) k_1 (fun _ h9 => h9) rfl dX3_added_27 ?_
    refine va_get (D := (dC, dI)) (ci := 6) (v := .ref (b 2)) (C := RX6) (T := TX6) (N := 7) hx hb hts i_X6 hown hK hP 3 rfl rfl 1 (by decide) k_2 (fun _ h9 => h9) rfl dX3_added_30 ?_
    refine lv_iload_n hx hb dX3_added_33 rfl (lv_at hl 2 rfl) ?_
    refine gk_ld hx hb hK hP 4 0 rfl rfl x (by omega) (by omega) (v := F x) (rfl) dX3_added_34 ?_
    refine lv_aload_n hx hb dX3_added_35 rfl (lv_at hl 1 rfl) ?_
    refine va_get (D := (dC, dI)) (ci := 3) (v := .ref (b 1)) (C := RX3) (T := TX3) (N := 3) hx hb hts i_X3 hown hK hP 0 rfl rfl 0 (by decide) k_1 (fun _ h9 => h9) rfl dX3_added_36 ?_
    refine va_get (D := (dC, dI)) (ci := 6) (v := .ref (b 3)) (C := RX6) (T := TX6) (N := 7) hx hb hts i_X6 hown hK hP 3 rfl rfl 2 (by decide) k_3 (fun _ h9 => h9) rfl dX3_added_39 ?_
    refine lv_iload_n hx hb dX3_added_42 rfl (lv_at hl 0 rfl) ?_
    refine gk_top (y := nI (ln v - 1)) (oi_pos (by assumption)) ?_
    refine gk_ld hx hb hK hP 5 0 rfl rfl (ln v - 1) (by omega) (by omega) (v := T (ln v - 1)) (rfl) dX3_added_43 ?_
    refine lv_isub hx hb dX3_added_44 ?_
    refine lv_istore (lv' := [(4, .int ((F x) - (T (ln v - 1)))), (3, .int (oi (ln v))), (0, .ref (b 14)), (1, .int (nI x)), (2, .int (nI v))]) hx hb dX3_added_45 hl (by decide) rfl (fun ls hl => ?_)
    refine lv_iload hx hb dX3_added_47 (lv_at hl 0 rfl) ?_
    refine lv_if_ge (tgt := 54) hx hb dX3_added_49 (by decide) (fun c_2 => ?_) (fun c_2 => ?_)
    · skip
      refine lv_aload_n hx hb dX3_added_54 rfl (lv_at hl 2 rfl) ?_
      refine va_get (D := (dC, dI)) (ci := 3) (v := .ref (b 1)) (C := RX3) (T := TX3) (N := 3) hx hb hts i_X3 hown hK hP 0 rfl rfl 0 (by decide) k_1 (fun _ h9 => h9) rfl dX3_added_55 ?_
      refine va_get (D := (dC, dI)) (ci := 6) (v := .ref (b 4)) (C := RX6) (T := TX6) (N := 7) hx hb hts i_X6 hown hK hP 3 rfl rfl 3 (by decide) k_4 (fun _ h9 => h9) rfl dX3_added_58 ?_
      refine lv_iload_n hx hb dX3_added_61 rfl (lv_at hl 3 rfl) ?_
      refine gk_ld hx hb hK hP 6 0 rfl rfl x (by omega) (by omega) (v := P x) (rfl) dX3_added_62 ?_
      refine lv_aload_n hx hb dX3_added_63 rfl (lv_at hl 2 rfl) ?_
      refine va_get (D := (dC, dI)) (ci := 3) (v := .ref (b 1)) (C := RX3) (T := TX3) (N := 3) hx hb hts i_X3 hown hK hP 0 rfl rfl 0 (by decide) k_1 (fun _ h9 => h9) rfl dX3_added_64 ?_
      refine va_get (D := (dC, dI)) (ci := 6) (v := .ref (b 4)) (C := RX6) (T := TX6) (N := 7) hx hb hts i_X6 hown hK hP 3 rfl rfl 3 (by decide) k_4 (fun _ h9 => h9) rfl dX3_added_67 ?_
      refine lv_iload_n hx hb dX3_added_70 rfl (lv_at hl 1 rfl) ?_
      refine gk_top (y := nI (ln v - 1)) (oi_pos (by assumption)) ?_
      refine gk_ld hx hb hK hP 6 0 rfl rfl (ln v - 1) (by omega) (by omega) (v := P (ln v - 1)) (rfl) dX3_added_71 ?_
      refine lv_isub hx hb dX3_added_72 ?_
      refine va_mabs hx hb (hml.trans hl.1.symm) hown k_5 k_6 k_7 k_8 (Nat.le_of_ble_eq_true rfl) (Nat.le_of_ble_eq_true rfl) (Nat.zero_le _) (Nat.zero_le _) dX3_added_73 ?_
      refine gk_top (y := abI (P x - P (ln v - 1))) (rfl) ?_
      refine lv_istore (lv' := [(5, .int (abI (P x - P (ln v - 1)))), (4, .int ((F x) - (T (ln v - 1)))), (3, .int (oi (ln v))), (0, .ref (b 14)), (1, .int (nI x)), (2, .int (nI v))]) hx hb dX3_added_76 hl (by decide) rfl (fun ls hl => ?_)
      refine lv_iload hx hb dX3_added_78 (lv_at hl 0 rfl) ?_
      refine lv_aload_n hx hb dX3_added_80 rfl (lv_at hl 3 rfl) ?_
      refine va_get (D := (dC, dI)) (ci := 3) (v := .ref (b 8)) (C := RX3) (T := TX3) (N := 3) hx hb hts i_X3 hown hK hP 0 rfl rfl 1 (by decide) k_9 (fun _ h9 => h9) rfl dX3_added_81 ?_
      refine lv_iconst (v := 0) hx hb dX3_added_84 (by decide) ?_
      refine gk_ld hx hb hK hP 1 0 rfl rfl 0 (by omega) (by omega) (v := Wt 0) (rfl) dX3_added_85 ?_
      refine lv_imul hx hb dX3_added_86 ?_
      refine lv_iload hx hb dX3_added_87 (lv_at hl 1 rfl) ?_
      refine lv_aload_n hx hb dX3_added_89 rfl (lv_at hl 3 rfl) ?_
      refine va_get (D := (dC, dI)) (ci := 3) (v := .ref (b 8)) (C := RX3) (T := TX3) (N := 3) hx hb hts i_X3 hown hK hP 0 rfl rfl 1 (by decide) k_9 (fun _ h9 => h9) rfl dX3_added_90 ?_
      refine lv_iconst (v := 1) hx hb dX3_added_93 (by decide) ?_
      refine gk_ld hx hb hK hP 1 0 rfl rfl 1 (by omega) (by omega) (v := Wt 1) (rfl) dX3_added_94 ?_
      refine lv_imul hx hb dX3_added_95 ?_
      refine lv_iadd hx hb dX3_added_96 ?_
      refine lv_aload_n hx hb dX3_added_97 rfl (lv_at hl 3 rfl) ?_
      refine lv_iload_n hx hb dX3_added_98 rfl (lv_at hl 4 rfl) ?_
      refine lv_iload_n hx hb dX3_added_99 rfl (lv_at hl 5 rfl) ?_
      refine vp_callSi (gk_run (va_runV (As := [.int (nI x), .int (nI v)]) (rest := [.int (((abI (P x - P (ln v - 1))) * (Wt 0)) + (((F x) - (T (ln v - 1))) * (Wt 1)))]) ⟨hx, hb, hml, hown, hts⟩ (c_X3_crossed l dC dI cI b n F T P V o kr hn ho Wt ln hln x v hx0 hv0) (cwV 2 hts gX3_added_X3_crossed rfl rfl rfl (by decide +kernel) ⟨Nat.le_of_ble_eq_true rfl, Nat.le_of_ble_eq_true rfl⟩) ⟨gk_fb, va_recv hK hP (ci := 3) (q0 := 0) rfl rfl, fun U hU hW => ⟨rfl, by rw [hU]; exact hP, va_K.moved hW.alike hK⟩⟩ rfl rfl hl.1 rfl (lv_room (Nat.le_of_ble_eq_true rfl)) dX3_added_100 ⟨Nat.zero_le _, Nat.zero_le _⟩)) (fun r_3 er_3 => ?_)
      subst er_3
      refine lv_iadd hx hb dX3_added_103 ?_
      exact W.iret (v := (((abI (P x - P (ln v - 1))) * (Wt 0)) + (((F x) - (T (ln v - 1))) * (Wt 1))) + (crC F T P Wt ln x v)) hx hb hr (fun t ht _ => ⟨_, rfl, by exact adC_2 (by assumption) (Int32.not_lt.mpr (by assumption)), ht⟩) (fun q h => by cases h) dX3_added_104
    · skip
      refine lv_iconst (v := (-1)) hx hb dX3_added_52 (by decide) ?_
      exact W.iret (v := (-1)) hx hb hr (fun t ht _ => ⟨_, rfl, by exact adC_1 (by assumption) (Int32.not_le.mp (by assumption)), ht⟩) (fun q h => by cases h) dX3_added_53
  · skip
    have c_1 : (ln v) = 0 := (oi_m1 (by have := hln v; omega)).mp c_1
    refine lv_aload_n hx hb dX3_added_12 rfl (lv_at hl 1 rfl) ?_
    refine va_get (D := (dC, dI)) (ci := 3) (v := .ref (b 8)) (C := RX3) (T := TX3) (N := 3) hx hb hts i_X3 hown hK hP 0 rfl rfl 1 (by decide) k_9 (fun _ h9 => h9) rfl dX3_added_13 ?_
    refine lv_iconst (v := 3) hx hb dX3_added_16 (by decide) ?_
    refine gk_ld hx hb hK hP 1 0 rfl rfl 3 (by omega) (by omega) (v := Wt 3) (rfl) dX3_added_17 ?_
    refine lv_aload_n hx hb dX3_added_18 rfl (lv_at hl 1 rfl) ?_
    refine lv_iload_n hx hb dX3_added_19 rfl (lv_at hl 2 rfl) ?_
    refine lv_iload_n hx hb dX3_added_20 rfl (lv_at hl 3 rfl) ?_
    refine vp_callSi (gk_run (va_runV (As := [.int (nI x), .int (nI v)]) (rest := [.int (Wt 3)]) ⟨hx, hb, hml, hown, hts⟩ (c_X3_crossed l dC dI cI b n F T P V o kr hn ho Wt ln hln x v hx0 hv0) (cwV 2 hts gX3_added_X3_crossed rfl rfl rfl (by decide +kernel) ⟨Nat.le_of_ble_eq_true rfl, Nat.le_of_ble_eq_true rfl⟩) ⟨gk_fb, va_recv hK hP (ci := 3) (q0 := 0) rfl rfl, fun U hU hW => ⟨rfl, by rw [hU]; exact hP, va_K.moved hW.alike hK⟩⟩ rfl rfl hl.1 rfl (lv_room (Nat.le_of_ble_eq_true rfl)) dX3_added_21 ⟨Nat.zero_le _, Nat.zero_le _⟩)) (fun r_4 er_4 => ?_)
    subst er_4
    refine lv_iadd hx hb dX3_added_24 ?_
    exact W.iret (v := (Wt 3) + (crC F T P Wt ln x v)) hx hb hr (fun t ht _ => ⟨_, rfl, by exact adC_0 (by assumption), ht⟩) (fun q h => by cases h) dX3_added_25
