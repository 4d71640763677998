theorem prM_t {F T P V : Nat → Int32} {k : Int32} {a b : Nat} : prM F T P V k a b = true ↔ (0 ≤ V a ∧ 0 ≤ V b ∧ ¬ V a = V b ∧ tog F T a b = true ∧ ((k = 0 ∧ ((V a < V b ∧ P a < P b) ∨ (¬ V a < V b ∧ P b < P a))) ∨ (¬ k = 0 ∧ P a = P b ∧ (k = 1 ∨ (F a = F b ∧ T a = T b))))) := by
  unfold prM ssB
  by_cases h : k = 0
  · by_cases h2 : V a < V b
    · simp only [h, h2, if_true, Bool.and_eq_true, decide_eq_true_eq, not_true, false_and, or_false, true_and]
    · simp only [h, h2, if_true, if_false, Bool.and_eq_true, decide_eq_true_eq, not_true, not_false_eq_true, false_and, or_false, false_or, true_and]
  · simp only [h, if_false, Bool.and_eq_true, Bool.or_eq_true, decide_eq_true_eq, false_and, false_or, not_false_eq_true, true_and]
theorem prM_f {F T P V : Nat → Int32} {k : Int32} {a b : Nat} : prM F T P V k a b = false ↔ ¬ (0 ≤ V a ∧ 0 ≤ V b ∧ ¬ V a = V b ∧ tog F T a b = true ∧ ((k = 0 ∧ ((V a < V b ∧ P a < P b) ∨ (¬ V a < V b ∧ P b < P a))) ∨ (¬ k = 0 ∧ P a = P b ∧ (k = 1 ∨ (F a = F b ∧ T a = T b))))) := by
  rw [← prM_t]
  cases prM F T P V k a b <;> simp
set_option maxHeartbeats 4000000 in
set_option maxRecDepth 100000 in
theorem c_X8_isPair (l : Launch) (dC : Nat → ClassId) (dI : Nat → Nat → Nat) (cI : ClassId) (a : Nat → Nat) (n : Nat) (F T P V Wt O G L R : Nat → Int32) (hn : n ≤ 60) (x y : Nat) (hx0 : x < 60) (hy0 : y < 60) (kd : Int32) : Met l yX8_isPair wsX8_isPair ({ frames := 1, cells := 0, slots := 0, locals := 22 } : Room) (va_Pc [.ref (a 0), .int (nI x), .int (nI y), .int kd] (fun U => va_P (dC, dI) vwCl (mW cI a (nI n) F T P V Wt O G L R) U.heap ∧ va_K (dC, dI) vwCl [(cI, .int)] U)) (vp_Si (fun r => r = b2i (prM F T P V kd x y))) 0 0 (fun _ => False) := by
  refine Met.ofW (cc := cX8_isPair) (maxL := 4) (ret := (some .boolean)) (by decide) rfl ?_
  intro p e s m args below meth c s₁ B hml hv
  obtain ⟨rfl, hP, hK⟩ := hv
  have hx := B.exec
  have hb := B.bytes
  have hr := B.returns
  have hts := atoms_spec (ws := wsX8_isPair) B.pre
  have hown : s.vm.findClass RX8 = some m.cls := findClass_of_methodNamed B.named
  have hlocks := B.notSynchronized
  have i_X8 : ∀ w ∈ u_ws RX8 TX8 10, w ∈ wsX8_isPair := by decide +kernel
  have k_0 := hts (.fieldLink RX8 19 "VoiceRowsModel" "voice" "[I") (by decide +kernel)
  have k_1 := hts (.fieldLink RX8 16 "VoiceRowsModel" "pitch" "[I") (by decide +kernel)
  have k_2 := hts (.fieldLink RX8 7 "VoiceRowsModel" "from" "[I") (by decide +kernel)
  have k_3 := hts (.fieldLink RX8 13 "VoiceRowsModel" "to" "[I") (by decide +kernel)
  have hl := lv_entry ([.ref (a 0), .int (nI x), .int (nI y), .int kd]) (n := 4) (Nat.le_of_ble_eq_true rfl)
  rw [lg_entry_eq]
  generalize (lg_sl ([.ref (a 0), .int (nI x), .int (nI y), .int kd]) ++ List.replicate (4 - (lg_sl ([.ref (a 0), .int (nI x), .int (nI y), .int kd])).length) Slot.unset).toArray = ls at hl ⊢
  have hl : lv_has ls 4 [(0, .ref (a 0)), (1, .int (nI x)), (2, .int (nI y)), (3, .int kd)] := hl
  refine lv_aload_n hx hb dX8_isPair_0 rfl (lv_at hl 0 rfl) ?_
  refine va_get (D := (dC, dI)) (ci := 8) (v := .ref (a 4)) (C := RX8) (T := TX8) (N := 10) hx hb hts i_X8 hown hK hP 0 rfl rfl 3 (by decide) k_0 (fun _ h9 => h9) rfl dX8_isPair_1 ?_
  refine lv_iload_n hx hb dX8_isPair_4 rfl (lv_at hl 1 rfl) ?_
  refine gk_ld hx hb hK hP 4 0 rfl rfl x (by omega) (by omega) (v := V x) (rfl) dX8_isPair_5 ?_
  refine lv_if_lt (tgt := 42) hx hb dX8_isPair_6 (by decide) (fun c_1 => ?_) (fun c_1 => ?_)
  · skip
    refine lv_iconst (v := 0) hx hb dX8_isPair_42 (by decide) ?_
    exact W.zret (v := 0) hx hb hr (rfl) (fun t ht _ => ⟨_, rfl, by first | exact b2i_t (by (simp only [prM_t, prM_f, decide_eq_true_eq, decide_eq_false_iff_not, Bool.and_eq_true, Bool.and_eq_false_iff, Bool.or_eq_true, Bool.or_eq_false_iff, Bool.not_eq_true, Bool.not_eq_false, ne_eq, not_and, not_or, tog_t, tog_f, ahd_t, ahd_f, isoB_t, isoB_f, ixB_t, ixB_f, vOK_t, vOK_f, wOK_t, wOK_f, tn4, Int32.lt_iff_toInt_lt, Int32.le_iff_toInt_le, ← Int32.toInt_inj, tI0, tI1, tI2, tI3, tI4, tI6, tI14, tI59, tI60, tI127, tI1000, tI100000, tIm1, tIm2, tIm3, tIm4, tIbig] at c_1 ⊢ <;> omega)) | exact b2i_f (by (simp only [prM_t, prM_f, decide_eq_true_eq, decide_eq_false_iff_not, Bool.and_eq_true, Bool.and_eq_false_iff, Bool.or_eq_true, Bool.or_eq_false_iff, Bool.not_eq_true, Bool.not_eq_false, ne_eq, not_and, not_or, tog_t, tog_f, ahd_t, ahd_f, isoB_t, isoB_f, ixB_t, ixB_f, vOK_t, vOK_f, wOK_t, wOK_f, tn4, Int32.lt_iff_toInt_lt, Int32.le_iff_toInt_le, ← Int32.toInt_inj, tI0, tI1, tI2, tI3, tI4, tI6, tI14, tI59, tI60, tI127, tI1000, tI100000, tIm1, tIm2, tIm3, tIm4, tIbig] at c_1 ⊢ <;> omega)), ht⟩) (fun q h => by cases h) dX8_isPair_43
  · skip
    refine lv_aload_n hx hb dX8_isPair_9 rfl (lv_at hl 0 rfl) ?_
    refine va_get (D := (dC, dI)) (ci := 8) (v := .ref (a 4)) (C := RX8) (T := TX8) (N := 10) hx hb hts i_X8 hown hK hP 0 rfl rfl 3 (by decide) k_0 (fun _ h9 => h9) rfl dX8_isPair_10 ?_
    refine lv_iload_n hx hb dX8_isPair_13 rfl (lv_at hl 2 rfl) ?_
    refine gk_ld hx hb hK hP 4 0 rfl rfl y (by omega) (by omega) (v := V y) (rfl) dX8_isPair_14 ?_
    refine lv_if_lt (tgt := 42) hx hb dX8_isPair_15 (by decide) (fun c_2 => ?_) (fun c_2 => ?_)
    · skip
      refine lv_iconst (v := 0) hx hb dX8_isPair_42 (by decide) ?_
      exact W.zret (v := 0) hx hb hr (rfl) (fun t ht _ => ⟨_, rfl, by first | exact b2i_t (by (simp only [prM_t, prM_f, decide_eq_true_eq, decide_eq_false_iff_not, Bool.and_eq_true, Bool.and_eq_false_iff, Bool.or_eq_true, Bool.or_eq_false_iff, Bool.not_eq_true, Bool.not_eq_false, ne_eq, not_and, not_or, tog_t, tog_f, ahd_t, ahd_f, isoB_t, isoB_f, ixB_t, ixB_f, vOK_t, vOK_f, wOK_t, wOK_f, tn4, Int32.lt_iff_toInt_lt, Int32.le_iff_toInt_le, ← Int32.toInt_inj, tI0, tI1, tI2, tI3, tI4, tI6, tI14, tI59, tI60, tI127, tI1000, tI100000, tIm1, tIm2, tIm3, tIm4, tIbig] at c_1 c_2 ⊢ <;> omega)) | exact b2i_f (by (simp only [prM_t, prM_f, decide_eq_true_eq, decide_eq_false_iff_not, Bool.and_eq_true, Bool.and_eq_false_iff, Bool.or_eq_true, Bool.or_eq_false_iff, Bool.not_eq_true, Bool.not_eq_false, ne_eq, not_and, not_or, tog_t, tog_f, ahd_t, ahd_f, isoB_t, isoB_f, ixB_t, ixB_f, vOK_t, vOK_f, wOK_t, wOK_f, tn4, Int32.lt_iff_toInt_lt, Int32.le_iff_toInt_le, ← Int32.toInt_inj, tI0, tI1, tI2, tI3, tI4, tI6, tI14, tI59, tI60, tI127, tI1000, tI100000, tIm1, tIm2, tIm3, tIm4, tIbig] at c_1 c_2 ⊢ <;> omega)), ht⟩) (fun q h => by cases h) dX8_isPair_43
    · skip
      refine lv_aload_n hx hb dX8_isPair_18 rfl (lv_at hl 0 rfl) ?_
      refine va_get (D := (dC, dI)) (ci := 8) (v := .ref (a 4)) (C := RX8) (T := TX8) (N := 10) hx hb hts i_X8 hown hK hP 0 rfl rfl 3 (by decide) k_0 (fun _ h9 => h9) rfl dX8_isPair_19 ?_
      refine lv_iload_n hx hb dX8_isPair_22 rfl (lv_at hl 1 rfl) ?_
      refine gk_ld hx hb hK hP 4 0 rfl rfl x (by omega) (by omega) (v := V x) (rfl) dX8_isPair_23 ?_
      refine lv_aload_n hx hb dX8_isPair_24 rfl (lv_at hl 0 rfl) ?_
      refine va_get (D := (dC, dI)) (ci := 8) (v := .ref (a 4)) (C := RX8) (T := TX8) (N := 10) hx hb hts i_X8 hown hK hP 0 rfl rfl 3 (by decide) k_0 (fun _ h9 => h9) rfl dX8_isPair_25 ?_
      refine lv_iload_n hx hb dX8_isPair_28 rfl (lv_at hl 2 rfl) ?_
      refine gk_ld hx hb hK hP 4 0 rfl rfl y (by omega) (by omega) (v := V y) (rfl) dX8_isPair_29 ?_
      refine lv_icmp_eq (tgt := 42) hx hb dX8_isPair_30 (by decide) (fun c_3 => ?_) (fun c_3 => ?_)
      · skip
        refine lv_iconst (v := 0) hx hb dX8_isPair_42 (by decide) ?_
        exact W.zret (v := 0) hx hb hr (rfl) (fun t ht _ => ⟨_, rfl, by first | exact b2i_t (by (simp only [prM_t, prM_f, decide_eq_true_eq, decide_eq_false_iff_not, Bool.and_eq_true, Bool.and_eq_false_iff, Bool.or_eq_true, Bool.or_eq_false_iff, Bool.not_eq_true, Bool.not_eq_false, ne_eq, not_and, not_or, tog_t, tog_f, ahd_t, ahd_f, isoB_t, isoB_f, ixB_t, ixB_f, vOK_t, vOK_f, wOK_t, wOK_f, tn4, Int32.lt_iff_toInt_lt, Int32.le_iff_toInt_le, ← Int32.toInt_inj, tI0, tI1, tI2, tI3, tI4, tI6, tI14, tI59, tI60, tI127, tI1000, tI100000, tIm1, tIm2, tIm3, tIm4, tIbig] at c_1 c_2 c_3 ⊢ <;> omega)) | exact b2i_f (by (simp only [prM_t, prM_f, decide_eq_true_eq, decide_eq_false_iff_not, Bool.and_eq_true, Bool.and_eq_false_iff, Bool.or_eq_true, Bool.or_eq_false_iff, Bool.not_eq_true, Bool.not_eq_false, ne_eq, not_and, not_or, tog_t, tog_f, ahd_t, ahd_f, isoB_t, isoB_f, ixB_t, ixB_f, vOK_t, vOK_f, wOK_t, wOK_f, tn4, Int32.lt_iff_toInt_lt, Int32.le_iff_toInt_le, ← Int32.toInt_inj, tI0, tI1, tI2, tI3, tI4, tI6, tI14, tI59, tI60, tI127, tI1000, tI100000, tIm1, tIm2, tIm3, tIm4, tIbig] at c_1 c_2 c_3 ⊢ <;> omega)), ht⟩) (fun q h => by cases h) dX8_isPair_43
      · skip
        refine lv_aload_n hx hb dX8_isPair_33 rfl (lv_at hl 0 rfl) ?_
        refine lv_iload_n hx hb dX8_isPair_34 rfl (lv_at hl 1 rfl) ?_
        refine lv_iload_n hx hb dX8_isPair_35 rfl (lv_at hl 2 rfl) ?_
        refine vp_callSi (gk_run (va_runV (As := [.int (nI x), .int (nI y)]) (rest := []) ⟨hx, hb, hml, hown, hts⟩ (c_X8_together l dC dI cI a n F T P V Wt O G L R hn x y hx0 hy0) (cwV 2 hts gX8_isPair_X8_together rfl rfl rfl (by decide +kernel) ⟨Nat.le_of_ble_eq_true rfl, Nat.le_of_ble_eq_true rfl⟩) ⟨gk_fb, va_recv hK hP (ci := 8) (q0 := 0) rfl rfl, fun U hU hW => ⟨rfl, by rw [hU]; exact hP, va_K.moved hW.alike hK⟩⟩ rfl rfl hl.1 rfl (lv_room (Nat.le_of_ble_eq_true rfl)) dX8_isPair_36 ⟨Nat.zero_le _, Nat.zero_le _⟩)) (fun r_4 er_4 => ?_)
        subst er_4
        refine lv_if_ne (tgt := 44) hx hb dX8_isPair_39 (by decide) (fun c_5 => ?_) (fun c_5 => ?_)
        · skip
          have c_5 : (tog F T x y) = true := b2i_1.mp c_5
          refine lv_iload_n hx hb dX8_isPair_44 rfl (lv_at hl 3 rfl) ?_
          refine lv_if_ne (tgt := 107) hx hb dX8_isPair_45 (by decide) (fun c_6 => ?_) (fun c_6 => ?_)
          · skip
            refine lv_aload_n hx hb dX8_isPair_107 rfl (lv_at hl 0 rfl) ?_
            refine va_get (D := (dC, dI)) (ci := 8) (v := .ref (a 3)) (C := RX8) (T := TX8) (N := 10) hx hb hts i_X8 hown hK hP 0 rfl rfl 2 (by decide) k_1 (fun _ h9 => h9) rfl dX8_isPair_108 ?_
            refine lv_iload_n hx hb dX8_isPair_111 rfl (lv_at hl 1 rfl) ?_
            refine gk_ld hx hb hK hP 3 0 rfl rfl x (by omega) (by omega) (v := P x) (rfl) dX8_isPair_112 ?_
            refine lv_aload_n hx hb dX8_isPair_113 rfl (lv_at hl 0 rfl) ?_
            refine va_get (D := (dC, dI)) (ci := 8) (v := .ref (a 3)) (C := RX8) (T := TX8) (N := 10) hx hb hts i_X8 hown hK hP 0 rfl rfl 2 (by decide) k_1 (fun _ h9 => h9) rfl dX8_isPair_114 ?_
            refine lv_iload_n hx hb dX8_isPair_117 rfl (lv_at hl 2 rfl) ?_
            refine gk_ld hx hb hK hP 3 0 rfl rfl y (by omega) (by omega) (v := P y) (rfl) dX8_isPair_118 ?_
            refine lv_icmp_ne (tgt := 161) hx hb dX8_isPair_119 (by decide) (fun c_7 => ?_) (fun c_7 => ?_)
            · skip
              refine lv_iconst (v := 0) hx hb dX8_isPair_161 (by decide) ?_
              exact W.zret (v := 0) hx hb hr (rfl) (fun t ht _ => ⟨_, rfl, by first | exact b2i_t (by (simp only [prM_t, prM_f, decide_eq_true_eq, decide_eq_false_iff_not, Bool.and_eq_true, Bool.and_eq_false_iff, Bool.or_eq_true, Bool.or_eq_false_iff, Bool.not_eq_true, Bool.not_eq_false, ne_eq, not_and, not_or, tog_t, tog_f, ahd_t, ahd_f, isoB_t, isoB_f, ixB_t, ixB_f, vOK_t, vOK_f, wOK_t, wOK_f, tn4, Int32.lt_iff_toInt_lt, Int32.le_iff_toInt_le, ← Int32.toInt_inj, tI0, tI1, tI2, tI3, tI4, tI6, tI14, tI59, tI60, tI127, tI1000, tI100000, tIm1, tIm2, tIm3, tIm4, tIbig] at c_1 c_2 c_3 c_5 c_6 c_7 ⊢ <;> omega)) | exact b2i_f (by (simp only [prM_t, prM_f, decide_eq_true_eq, decide_eq_false_iff_not, Bool.and_eq_true, Bool.and_eq_false_iff, Bool.or_eq_true, Bool.or_eq_false_iff, Bool.not_eq_true, Bool.not_eq_false, ne_eq, not_and, not_or, tog_t, tog_f, ahd_t, ahd_f, isoB_t, isoB_f, ixB_t, ixB_f, vOK_t, vOK_f, wOK_t, wOK_f, tn4, Int32.lt_iff_toInt_lt, Int32.le_iff_toInt_le, ← Int32.toInt_inj, tI0, tI1, tI2, tI3, tI4, tI6, tI14, tI59, tI60, tI127, tI1000, tI100000, tIm1, tIm2, tIm3, tIm4, tIbig] at c_1 c_2 c_3 c_5 c_6 c_7 ⊢ <;> omega)), ht⟩) (fun q h => by cases h) dX8_isPair_162
            · skip
              refine lv_iload_n hx hb dX8_isPair_122 rfl (lv_at hl 3 rfl) ?_
              refine lv_iconst (v := 1) hx hb dX8_isPair_123 (by decide) ?_
              refine lv_icmp_eq (tgt := 157) hx hb dX8_isPair_124 (by decide) (fun c_8 => ?_) (fun c_8 => ?_)
              · skip
                refine lv_iconst (v := 1) hx hb dX8_isPair_157 (by decide) ?_
                refine lv_goto (tgt := 162) hx hb dX8_isPair_158 (by decide) ?_
                exact W.zret (v := 1) hx hb hr (rfl) (fun t ht _ => ⟨_, rfl, by first | exact b2i_t (by (simp only [prM_t, prM_f, decide_eq_true_eq, decide_eq_false_iff_not, Bool.and_eq_true, Bool.and_eq_false_iff, Bool.or_eq_true, Bool.or_eq_false_iff, Bool.not_eq_true, Bool.not_eq_false, ne_eq, not_and, not_or, tog_t, tog_f, ahd_t, ahd_f, isoB_t, isoB_f, ixB_t, ixB_f, vOK_t, vOK_f, wOK_t, wOK_f, tn4, Int32.lt_iff_toInt_lt, Int32.le_iff_toInt_le, ← Int32.toInt_inj, tI0, tI1, tI2, tI3, tI4, tI6, tI14, tI59, tI60, tI127, tI1000, tI100000, tIm1, tIm2, tIm3, tIm4, tIbig] at c_1 c_2 c_3 c_5 c_6 c_7 c_8 ⊢ <;> omega)) | exact b2i_f (by (simp only [prM_t, prM_f, decide_eq_true_eq, decide_eq_false_iff_not, Bool.and_eq_true, Bool.and_eq_false_iff, Bool.or_eq_true, Bool.or_eq_false_iff, Bool.not_eq_true, Bool.not_eq_false, ne_eq, not_and, not_or, tog_t, tog_f, ahd_t, ahd_f, isoB_t, isoB_f, ixB_t, ixB_f, vOK_t, vOK_f, wOK_t, wOK_f, tn4, Int32.lt_iff_toInt_lt, Int32.le_iff_toInt_le, ← Int32.toInt_inj, tI0, tI1, tI2, tI3, tI4, tI6, tI14, tI59, tI60, tI127, tI1000, tI100000, tIm1, tIm2, tIm3, tIm4, tIbig] at c_1 c_2 c_3 c_5 c_6 c_7 c_8 ⊢ <;> omega)), ht⟩) (fun q h => by cases h) dX8_isPair_162
              · skip
                refine lv_aload_n hx hb dX8_isPair_127 rfl (lv_at hl 0 rfl) ?_
                refine va_get (D := (dC, dI)) (ci := 8) (v := .ref (a 1)) (C := RX8) (T := TX8) (N := 10) hx hb hts i_X8 hown hK hP 0 rfl rfl 0 (by decide) k_2 (fun _ h9 => h9) rfl dX8_isPair_128 ?_
                refine lv_iload_n hx hb dX8_isPair_131 rfl (lv_at hl 1 rfl) ?_
                refine gk_ld hx hb hK hP 1 0 rfl rfl x (by omega) (by omega) (v := F x) (rfl) dX8_isPair_132 ?_
                refine lv_aload_n hx hb dX8_isPair_133 rfl (lv_at hl 0 rfl) ?_
                refine va_get (D := (dC, dI)) (ci := 8) (v := .ref (a 1)) (C := RX8) (T := TX8) (N := 10) hx hb hts i_X8 hown hK hP 0 rfl rfl 0 (by decide) k_2 (fun _ h9 => h9) rfl dX8_isPair_134 ?_
                refine lv_iload_n hx hb dX8_isPair_137 rfl (lv_at hl 2 rfl) ?_
                refine gk_ld hx hb hK hP 1 0 rfl rfl y (by omega) (by omega) (v := F y) (rfl) dX8_isPair_138 ?_
                refine lv_icmp_ne (tgt := 161) hx hb dX8_isPair_139 (by decide) (fun c_9 => ?_) (fun c_9 => ?_)
                · skip
                  refine lv_iconst (v := 0) hx hb dX8_isPair_161 (by decide) ?_
                  exact W.zret (v := 0) hx hb hr (rfl) (fun t ht _ => ⟨_, rfl, by first | exact b2i_t (by (simp only [prM_t, prM_f, decide_eq_true_eq, decide_eq_false_iff_not, Bool.and_eq_true, Bool.and_eq_false_iff, Bool.or_eq_true, Bool.or_eq_false_iff, Bool.not_eq_true, Bool.not_eq_false, ne_eq, not_and, not_or, tog_t, tog_f, ahd_t, ahd_f, isoB_t, isoB_f, ixB_t, ixB_f, vOK_t, vOK_f, wOK_t, wOK_f, tn4, Int32.lt_iff_toInt_lt, Int32.le_iff_toInt_le, ← Int32.toInt_inj, tI0, tI1, tI2, tI3, tI4, tI6, tI14, tI59, tI60, tI127, tI1000, tI100000, tIm1, tIm2, tIm3, tIm4, tIbig] at c_1 c_2 c_3 c_5 c_6 c_7 c_8 c_9 ⊢ <;> omega)) | exact b2i_f (by (simp only [prM_t, prM_f, decide_eq_true_eq, decide_eq_false_iff_not, Bool.and_eq_true, Bool.and_eq_false_iff, Bool.or_eq_true, Bool.or_eq_false_iff, Bool.not_eq_true, Bool.not_eq_false, ne_eq, not_and, not_or, tog_t, tog_f, ahd_t, ahd_f, isoB_t, isoB_f, ixB_t, ixB_f, vOK_t, vOK_f, wOK_t, wOK_f, tn4, Int32.lt_iff_toInt_lt, Int32.le_iff_toInt_le, ← Int32.toInt_inj, tI0, tI1, tI2, tI3, tI4, tI6, tI14, tI59, tI60, tI127, tI1000, tI100000, tIm1, tIm2, tIm3, tIm4, tIbig] at c_1 c_2 c_3 c_5 c_6 c_7 c_8 c_9 ⊢ <;> omega)), ht⟩) (fun q h => by cases h) dX8_isPair_162
                · skip
                  refine lv_aload_n hx hb dX8_isPair_142 rfl (lv_at hl 0 rfl) ?_
                  refine va_get (D := (dC, dI)) (ci := 8) (v := .ref (a 2)) (C := RX8) (T := TX8) (N := 10) hx hb hts i_X8 hown hK hP 0 rfl rfl 1 (by decide) k_3 (fun _ h9 => h9) rfl dX8_isPair_143 ?_
                  refine lv_iload_n hx hb dX8_isPair_146 rfl (lv_at hl 1 rfl) ?_
                  refine gk_ld hx hb hK hP 2 0 rfl rfl x (by omega) (by omega) (v := T x) (rfl) dX8_isPair_147 ?_
                  refine lv_aload_n hx hb dX8_isPair_148 rfl (lv_at hl 0 rfl) ?_
                  refine va_get (D := (dC, dI)) (ci := 8) (v := .ref (a 2)) (C := RX8) (T := TX8) (N := 10) hx hb hts i_X8 hown hK hP 0 rfl rfl 1 (by decide) k_3 (fun _ h9 => h9) rfl dX8_isPair_149 ?_
                  refine lv_iload_n hx hb dX8_isPair_152 rfl (lv_at hl 2 rfl) ?_
                  refine gk_ld hx hb hK hP 2 0 rfl rfl y (by omega) (by omega) (v := T y) (rfl) dX8_isPair_153 ?_
                  refine lv_icmp_ne (tgt := 161) hx hb dX8_isPair_154 (by decide) (fun c_10 => ?_) (fun c_10 => ?_)
                  · skip
                    refine lv_iconst (v := 0) hx hb dX8_isPair_161 (by decide) ?_
                    exact W.zret (v := 0) hx hb hr (rfl) (fun t ht _ => ⟨_, rfl, by first | exact b2i_t (by (simp only [prM_t, prM_f, decide_eq_true_eq, decide_eq_false_iff_not, Bool.and_eq_true, Bool.and_eq_false_iff, Bool.or_eq_true, Bool.or_eq_false_iff, Bool.not_eq_true, Bool.not_eq_false, ne_eq, not_and, not_or, tog_t, tog_f, ahd_t, ahd_f, isoB_t, isoB_f, ixB_t, ixB_f, vOK_t, vOK_f, wOK_t, wOK_f, tn4, Int32.lt_iff_toInt_lt, Int32.le_iff_toInt_le, ← Int32.toInt_inj, tI0, tI1, tI2, tI3, tI4, tI6, tI14, tI59, tI60, tI127, tI1000, tI100000, tIm1, tIm2, tIm3, tIm4, tIbig] at c_1 c_2 c_3 c_5 c_6 c_7 c_8 c_9 c_10 ⊢ <;> omega)) | exact b2i_f (by (simp only [prM_t, prM_f, decide_eq_true_eq, decide_eq_false_iff_not, Bool.and_eq_true, Bool.and_eq_false_iff, Bool.or_eq_true, Bool.or_eq_false_iff, Bool.not_eq_true, Bool.not_eq_false, ne_eq, not_and, not_or, tog_t, tog_f, ahd_t, ahd_f, isoB_t, isoB_f, ixB_t, ixB_f, vOK_t, vOK_f, wOK_t, wOK_f, tn4, Int32.lt_iff_toInt_lt, Int32.le_iff_toInt_le, ← Int32.toInt_inj, tI0, tI1, tI2, tI3, tI4, tI6, tI14, tI59, tI60, tI127, tI1000, tI100000, tIm1, tIm2, tIm3, tIm4, tIbig] at c_1 c_2 c_3 c_5 c_6 c_7 c_8 c_9 c_10 ⊢ <;> omega)), ht⟩) (fun q h => by cases h) dX8_isPair_162
                  · skip
                    refine lv_iconst (v := 1) hx hb dX8_isPair_157 (by decide) ?_
                    refine lv_goto (tgt := 162) hx hb dX8_isPair_158 (by decide) ?_
                    exact W.zret (v := 1) hx hb hr (rfl) (fun t ht _ => ⟨_, rfl, by first | exact b2i_t (by (simp only [prM_t, prM_f, decide_eq_true_eq, decide_eq_false_iff_not, Bool.and_eq_true, Bool.and_eq_false_iff, Bool.or_eq_true, Bool.or_eq_false_iff, Bool.not_eq_true, Bool.not_eq_false, ne_eq, not_and, not_or, tog_t, tog_f, ahd_t, ahd_f, isoB_t, isoB_f, ixB_t, ixB_f, vOK_t, vOK_f, wOK_t, wOK_f, tn4, Int32.lt_iff_toInt_lt, Int32.le_iff_toInt_le, ← Int32.toInt_inj, tI0, tI1, tI2, tI3, tI4, tI6, tI14, tI59, tI60, tI127, tI1000, tI100000, tIm1, tIm2, tIm3, tIm4, tIbig] at c_1 c_2 c_3 c_5 c_6 c_7 c_8 c_9 c_10 ⊢ <;> omega)) | exact b2i_f (by (simp only [prM_t, prM_f, decide_eq_true_eq, decide_eq_false_iff_not, Bool.and_eq_true, Bool.and_eq_false_iff, Bool.or_eq_true, Bool.or_eq_false_iff, Bool.not_eq_true, Bool.not_eq_false, ne_eq, not_and, not_or, tog_t, tog_f, ahd_t, ahd_f, isoB_t, isoB_f, ixB_t, ixB_f, vOK_t, vOK_f, wOK_t, wOK_f, tn4, Int32.lt_iff_toInt_lt, Int32.le_iff_toInt_le, ← Int32.toInt_inj, tI0, tI1, tI2, tI3, tI4, tI6, tI14, tI59, tI60, tI127, tI1000, tI100000, tIm1, tIm2, tIm3, tIm4, tIbig] at c_1 c_2 c_3 c_5 c_6 c_7 c_8 c_9 c_10 ⊢ <;> omega)), ht⟩) (fun q h => by cases h) dX8_isPair_162
          · skip
            refine lv_aload_n hx hb dX8_isPair_48 rfl (lv_at hl 0 rfl) ?_
            refine va_get (D := (dC, dI)) (ci := 8) (v := .ref (a 4)) (C := RX8) (T := TX8) (N := 10) hx hb hts i_X8 hown hK hP 0 rfl rfl 3 (by decide) k_0 (fun _ h9 => h9) rfl dX8_isPair_49 ?_
            refine lv_iload_n hx hb dX8_isPair_52 rfl (lv_at hl 1 rfl) ?_
            refine gk_ld hx hb hK hP 4 0 rfl rfl x (by omega) (by omega) (v := V x) (rfl) dX8_isPair_53 ?_
            refine lv_aload_n hx hb dX8_isPair_54 rfl (lv_at hl 0 rfl) ?_
            refine va_get (D := (dC, dI)) (ci := 8) (v := .ref (a 4)) (C := RX8) (T := TX8) (N := 10) hx hb hts i_X8 hown hK hP 0 rfl rfl 3 (by decide) k_0 (fun _ h9 => h9) rfl dX8_isPair_55 ?_
            refine lv_iload_n hx hb dX8_isPair_58 rfl (lv_at hl 2 rfl) ?_
            refine gk_ld hx hb hK hP 4 0 rfl rfl y (by omega) (by omega) (v := V y) (rfl) dX8_isPair_59 ?_
            refine lv_icmp_ge (tgt := 86) hx hb dX8_isPair_60 (by decide) (fun c_11 => ?_) (fun c_11 => ?_)
            · skip
              refine lv_aload_n hx hb dX8_isPair_86 rfl (lv_at hl 0 rfl) ?_
              refine va_get (D := (dC, dI)) (ci := 8) (v := .ref (a 3)) (C := RX8) (T := TX8) (N := 10) hx hb hts i_X8 hown hK hP 0 rfl rfl 2 (by decide) k_1 (fun _ h9 => h9) rfl dX8_isPair_87 ?_
              refine lv_iload_n hx hb dX8_isPair_90 rfl (lv_at hl 2 rfl) ?_
              refine gk_ld hx hb hK hP 3 0 rfl rfl y (by omega) (by omega) (v := P y) (rfl) dX8_isPair_91 ?_
              refine lv_aload_n hx hb dX8_isPair_92 rfl (lv_at hl 0 rfl) ?_
              refine va_get (D := (dC, dI)) (ci := 8) (v := .ref (a 3)) (C := RX8) (T := TX8) (N := 10) hx hb hts i_X8 hown hK hP 0 rfl rfl 2 (by decide) k_1 (fun _ h9 => h9) rfl dX8_isPair_93 ?_
              refine lv_iload_n hx hb dX8_isPair_96 rfl (lv_at hl 1 rfl) ?_
              refine gk_ld hx hb hK hP 3 0 rfl rfl x (by omega) (by omega) (v := P x) (rfl) dX8_isPair_97 ?_
              refine lv_icmp_ge (tgt := 105) hx hb dX8_isPair_98 (by decide) (fun c_12 => ?_) (fun c_12 => ?_)
              · skip
                refine lv_iconst (v := 0) hx hb dX8_isPair_105 (by decide) ?_
                exact W.zret (v := 0) hx hb hr (rfl) (fun t ht _ => ⟨_, rfl, by first | exact b2i_t (by (simp only [prM_t, prM_f, decide_eq_true_eq, decide_eq_false_iff_not, Bool.and_eq_true, Bool.and_eq_false_iff, Bool.or_eq_true, Bool.or_eq_false_iff, Bool.not_eq_true, Bool.not_eq_false, ne_eq, not_and, not_or, tog_t, tog_f, ahd_t, ahd_f, isoB_t, isoB_f, ixB_t, ixB_f, vOK_t, vOK_f, wOK_t, wOK_f, tn4, Int32.lt_iff_toInt_lt, Int32.le_iff_toInt_le, ← Int32.toInt_inj, tI0, tI1, tI2, tI3, tI4, tI6, tI14, tI59, tI60, tI127, tI1000, tI100000, tIm1, tIm2, tIm3, tIm4, tIbig] at c_1 c_2 c_3 c_5 c_6 c_11 c_12 ⊢ <;> omega)) | exact b2i_f (by (simp only [prM_t, prM_f, decide_eq_true_eq, decide_eq_false_iff_not, Bool.and_eq_true, Bool.and_eq_false_iff, Bool.or_eq_true, Bool.or_eq_false_iff, Bool.not_eq_true, Bool.not_eq_false, ne_eq, not_and, not_or, tog_t, tog_f, ahd_t, ahd_f, isoB_t, isoB_f, ixB_t, ixB_f, vOK_t, vOK_f, wOK_t, wOK_f, tn4, Int32.lt_iff_toInt_lt, Int32.le_iff_toInt_le, ← Int32.toInt_inj, tI0, tI1, tI2, tI3, tI4, tI6, tI14, tI59, tI60, tI127, tI1000, tI100000, tIm1, tIm2, tIm3, tIm4, tIbig] at c_1 c_2 c_3 c_5 c_6 c_11 c_12 ⊢ <;> omega)), ht⟩) (fun q h => by cases h) dX8_isPair_106
              · skip
                refine lv_iconst (v := 1) hx hb dX8_isPair_101 (by decide) ?_
                refine lv_goto (tgt := 106) hx hb dX8_isPair_102 (by decide) ?_
                exact W.zret (v := 1) hx hb hr (rfl) (fun t ht _ => ⟨_, rfl, by first | exact b2i_t (by (simp only [prM_t, prM_f, decide_eq_true_eq, decide_eq_false_iff_not, Bool.and_eq_true, Bool.and_eq_false_iff, Bool.or_eq_true, Bool.or_eq_false_iff, Bool.not_eq_true, Bool.not_eq_false, ne_eq, not_and, not_or, tog_t, tog_f, ahd_t, ahd_f, isoB_t, isoB_f, ixB_t, ixB_f, vOK_t, vOK_f, wOK_t, wOK_f, tn4, Int32.lt_iff_toInt_lt, Int32.le_iff_toInt_le, ← Int32.toInt_inj, tI0, tI1, tI2, tI3, tI4, tI6, tI14, tI59, tI60, tI127, tI1000, tI100000, tIm1, tIm2, tIm3, tIm4, tIbig] at c_1 c_2 c_3 c_5 c_6 c_11 c_12 ⊢ <;> omega)) | exact b2i_f (by (simp only [prM_t, prM_f, decide_eq_true_eq, decide_eq_false_iff_not, Bool.and_eq_true, Bool.and_eq_false_iff, Bool.or_eq_true, Bool.or_eq_false_iff, Bool.not_eq_true, Bool.not_eq_false, ne_eq, not_and, not_or, tog_t, tog_f, ahd_t, ahd_f, isoB_t, isoB_f, ixB_t, ixB_f, vOK_t, vOK_f, wOK_t, wOK_f, tn4, Int32.lt_iff_toInt_lt, Int32.le_iff_toInt_le, ← Int32.toInt_inj, tI0, tI1, tI2, tI3, tI4, tI6, tI14, tI59, tI60, tI127, tI1000, tI100000, tIm1, tIm2, tIm3, tIm4, tIbig] at c_1 c_2 c_3 c_5 c_6 c_11 c_12 ⊢ <;> omega)), ht⟩) (fun q h => by cases h) dX8_isPair_106
            · skip
              refine lv_aload_n hx hb dX8_isPair_63 rfl (lv_at hl 0 rfl) ?_
              refine va_get (D := (dC, dI)) (ci := 8) (v := .ref (a 3)) (C := RX8) (T := TX8) (N := 10) hx hb hts i_X8 hown hK hP 0 rfl rfl 2 (by decide) k_1 (fun _ h9 => h9) rfl dX8_isPair_64 ?_
              refine lv_iload_n hx hb dX8_isPair_67 rfl (lv_at hl 1 rfl) ?_
              refine gk_ld hx hb hK hP 3 0 rfl rfl x (by omega) (by omega) (v := P x) (rfl) dX8_isPair_68 ?_
              refine lv_aload_n hx hb dX8_isPair_69 rfl (lv_at hl 0 rfl) ?_
              refine va_get (D := (dC, dI)) (ci := 8) (v := .ref (a 3)) (C := RX8) (T := TX8) (N := 10) hx hb hts i_X8 hown hK hP 0 rfl rfl 2 (by decide) k_1 (fun _ h9 => h9) rfl dX8_isPair_70 ?_
              refine lv_iload_n hx hb dX8_isPair_73 rfl (lv_at hl 2 rfl) ?_
              refine gk_ld hx hb hK hP 3 0 rfl rfl y (by omega) (by omega) (v := P y) (rfl) dX8_isPair_74 ?_
              refine lv_icmp_ge (tgt := 82) hx hb dX8_isPair_75 (by decide) (fun c_13 => ?_) (fun c_13 => ?_)
              · skip
                refine lv_iconst (v := 0) hx hb dX8_isPair_82 (by decide) ?_
                refine lv_goto (tgt := 106) hx hb dX8_isPair_83 (by decide) ?_
                exact W.zret (v := 0) hx hb hr (rfl) (fun t ht _ => ⟨_, rfl, by first | exact b2i_t (by (simp only [prM_t, prM_f, decide_eq_true_eq, decide_eq_false_iff_not, Bool.and_eq_true, Bool.and_eq_false_iff, Bool.or_eq_true, Bool.or_eq_false_iff, Bool.not_eq_true, Bool.not_eq_false, ne_eq, not_and, not_or, tog_t, tog_f, ahd_t, ahd_f, isoB_t, isoB_f, ixB_t, ixB_f, vOK_t, vOK_f, wOK_t, wOK_f, tn4, Int32.lt_iff_toInt_lt, Int32.le_iff_toInt_le, ← Int32.toInt_inj, tI0, tI1, tI2, tI3, tI4, tI6, tI14, tI59, tI60, tI127, tI1000, tI100000, tIm1, tIm2, tIm3, tIm4, tIbig] at c_1 c_2 c_3 c_5 c_6 c_11 c_13 ⊢ <;> omega)) | exact b2i_f (by (simp only [prM_t, prM_f, decide_eq_true_eq, decide_eq_false_iff_not, Bool.and_eq_true, Bool.and_eq_false_iff, Bool.or_eq_true, Bool.or_eq_false_iff, Bool.not_eq_true, Bool.not_eq_false, ne_eq, not_and, not_or, tog_t, tog_f, ahd_t, ahd_f, isoB_t, isoB_f, ixB_t, ixB_f, vOK_t, vOK_f, wOK_t, wOK_f, tn4, Int32.lt_iff_toInt_lt, Int32.le_iff_toInt_le, ← Int32.toInt_inj, tI0, tI1, tI2, tI3, tI4, tI6, tI14, tI59, tI60, tI127, tI1000, tI100000, tIm1, tIm2, tIm3, tIm4, tIbig] at c_1 c_2 c_3 c_5 c_6 c_11 c_13 ⊢ <;> omega)), ht⟩) (fun q h => by cases h) dX8_isPair_106
              · skip
                refine lv_iconst (v := 1) hx hb dX8_isPair_78 (by decide) ?_
                refine lv_goto (tgt := 106) hx hb dX8_isPair_79 (by decide) ?_
                exact W.zret (v := 1) hx hb hr (rfl) (fun t ht _ => ⟨_, rfl, by first | exact b2i_t (by (simp only [prM_t, prM_f, decide_eq_true_eq, decide_eq_false_iff_not, Bool.and_eq_true, Bool.and_eq_false_iff, Bool.or_eq_true, Bool.or_eq_false_iff, Bool.not_eq_true, Bool.not_eq_false, ne_eq, not_and, not_or, tog_t, tog_f, ahd_t, ahd_f, isoB_t, isoB_f, ixB_t, ixB_f, vOK_t, vOK_f, wOK_t, wOK_f, tn4, Int32.lt_iff_toInt_lt, Int32.le_iff_toInt_le, ← Int32.toInt_inj, tI0, tI1, tI2, tI3, tI4, tI6, tI14, tI59, tI60, tI127, tI1000, tI100000, tIm1, tIm2, tIm3, tIm4, tIbig] at c_1 c_2 c_3 c_5 c_6 c_11 c_13 ⊢ <;> omega)) | exact b2i_f (by (simp only [prM_t, prM_f, decide_eq_true_eq, decide_eq_false_iff_not, Bool.and_eq_true, Bool.and_eq_false_iff, Bool.or_eq_true, Bool.or_eq_false_iff, Bool.not_eq_true, Bool.not_eq_false, ne_eq, not_and, not_or, tog_t, tog_f, ahd_t, ahd_f, isoB_t, isoB_f, ixB_t, ixB_f, vOK_t, vOK_f, wOK_t, wOK_f, tn4, Int32.lt_iff_toInt_lt, Int32.le_iff_toInt_le, ← Int32.toInt_inj, tI0, tI1, tI2, tI3, tI4, tI6, tI14, tI59, tI60, tI127, tI1000, tI100000, tIm1, tIm2, tIm3, tIm4, tIbig] at c_1 c_2 c_3 c_5 c_6 c_11 c_13 ⊢ <;> omega)), ht⟩) (fun q h => by cases h) dX8_isPair_106
        · skip
          have c_5 : (tog F T x y) = false := b2i_0.mp c_5
          refine lv_iconst (v := 0) hx hb dX8_isPair_42 (by decide) ?_
          exact W.zret (v := 0) hx hb hr (rfl) (fun t ht _ => ⟨_, rfl, by first | exact b2i_t (by (simp only [prM_t, prM_f, decide_eq_true_eq, decide_eq_false_iff_not, Bool.and_eq_true, Bool.and_eq_false_iff, Bool.or_eq_true, Bool.or_eq_false_iff, Bool.not_eq_true, Bool.not_eq_false, ne_eq, not_and, not_or, tog_t, tog_f, ahd_t, ahd_f, isoB_t, isoB_f, ixB_t, ixB_f, vOK_t, vOK_f, wOK_t, wOK_f, tn4, Int32.lt_iff_toInt_lt, Int32.le_iff_toInt_le, ← Int32.toInt_inj, tI0, tI1, tI2, tI3, tI4, tI6, tI14, tI59, tI60, tI127, tI1000, tI100000, tIm1, tIm2, tIm3, tIm4, tIbig] at c_1 c_2 c_3 c_5 ⊢ <;> omega)) | exact b2i_f (by (simp only [prM_t, prM_f, decide_eq_true_eq, decide_eq_false_iff_not, Bool.and_eq_true, Bool.and_eq_false_iff, Bool.or_eq_true, Bool.or_eq_false_iff, Bool.not_eq_true, Bool.not_eq_false, ne_eq, not_and, not_or, tog_t, tog_f, ahd_t, ahd_f, isoB_t, isoB_f, ixB_t, ixB_f, vOK_t, vOK_f, wOK_t, wOK_f, tn4, Int32.lt_iff_toInt_lt, Int32.le_iff_toInt_le, ← Int32.toInt_inj, tI0, tI1, tI2, tI3, tI4, tI6, tI14, tI59, tI60, tI127, tI1000, tI100000, tIm1, tIm2, tIm3, tIm4, tIbig] at c_1 c_2 c_3 c_5 ⊢ <;> omega)), ht⟩) (fun q h => by cases h) dX8_isPair_43
