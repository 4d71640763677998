theorem tI5 : (5 : Int32).toInt = 5 := rfl
def sw3 (w a0 a1 a2 : Int32) : Int32 := if w = 0 then a0 else if w = 1 then a1 else if w = 2 then a2 else -2
theorem sw3_0 {w a0 a1 a2 : Int32} (h : w = 0) : a0 = sw3 w a0 a1 a2 := by simp [sw3, h]
theorem sw3_1 {w a0 a1 a2 : Int32} (h : w = 1) : a1 = sw3 w a0 a1 a2 := by simp [sw3, h]
theorem sw3_2 {w a0 a1 a2 : Int32} (h : w = 2) : a2 = sw3 w a0 a1 a2 := by simp [sw3, h]
theorem sw3_o {w a0 a1 a2 : Int32} (h : w.toInt < 0 ∨ 2 < w.toInt) : -2 = sw3 w a0 a1 a2 := by
  unfold sw3
  rw [if_neg (fun e => by rw [e] at h; exact absurd h (by decide)), if_neg (fun e => by rw [e] at h; exact absurd h (by decide)), if_neg (fun e => by rw [e] at h; exact absurd h (by decide))]
def sw5 (w a0 a1 a2 a3 a4 : Int32) : Int32 := if w = 0 then a0 else if w = 1 then a1 else if w = 2 then a2 else if w = 3 then a3 else if w = 4 then a4 else -2
theorem sw5_0 {w a0 a1 a2 a3 a4 : Int32} (h : w = 0) : a0 = sw5 w a0 a1 a2 a3 a4 := by simp [sw5, h]
theorem sw5_1 {w a0 a1 a2 a3 a4 : Int32} (h : w = 1) : a1 = sw5 w a0 a1 a2 a3 a4 := by simp [sw5, h]
theorem sw5_2 {w a0 a1 a2 a3 a4 : Int32} (h : w = 2) : a2 = sw5 w a0 a1 a2 a3 a4 := by simp [sw5, h]
theorem sw5_3 {w a0 a1 a2 a3 a4 r : Int32} (h : w = 3) (e : r = a3) : r = sw5 w a0 a1 a2 a3 a4 := by simp [sw5, h, e]
theorem sw5_4 {w a0 a1 a2 a3 a4 : Int32} (h : w = 4) : a4 = sw5 w a0 a1 a2 a3 a4 := by simp [sw5, h]
theorem sw5_o {w a0 a1 a2 a3 a4 : Int32} (h : w.toInt < 0 ∨ 4 < w.toInt) : -2 = sw5 w a0 a1 a2 a3 a4 := by
  unfold sw5
  rw [if_neg (fun e => by rw [e] at h; exact absurd h (by decide)), if_neg (fun e => by rw [e] at h; exact absurd h (by decide)), if_neg (fun e => by rw [e] at h; exact absurd h (by decide)), if_neg (fun e => by rw [e] at h; exact absurd h (by decide)), if_neg (fun e => by rw [e] at h; exact absurd h (by decide))]
set_option maxHeartbeats 1000000 in
set_option maxRecDepth 100000 in
theorem c_X8_of (l : Launch) (dC : Nat → ClassId) (dI : Nat → Nat → Nat) (cI : ClassId) (a : Nat → Nat) (n : Nat) (F T P V Wt : Nat → Int32) (o : Nat → Nat) (G L R : Nat → Int32) (hn : n ≤ 60) (ho : ∀ j, o j < 60) (x w : Int32) : Met l yX8_of wsX8_of ({ frames := 3, cells := 0, slots := 0, locals := 68 } : Room) (va_Pc [.ref (a 0), .int x, .int w] (fun U => va_P (dC, dI) vwCl (mW cI a (nI n) F T P V Wt (fun j => nI (o j)) G L R) U.heap ∧ va_K (dC, dI) vwCl [(cI, .int)] U)) (vp_Si (fun r => (ixB x n = false → r = -2) ∧ (∀ j, j < n → x = nI j → r = sw7 w (F j) (T j) (P j) (V j) (nI (rkN F P n j)) (oi (flM F P V o n j)) (nI (clM F T V n j))))) 0 0 (fun _ => False) := by
  refine Met.ofW (cc := cX8_of) (maxL := 3) (ret := (some .int)) (by decide) rfl ?_
  intro p e s m args below meth c s₁ B hml hv
  obtain ⟨rfl, hP, hK⟩ := hv
  have hx := B.exec
  have hb := B.bytes
  have hr := B.returns
  have hts := atoms_spec (ws := wsX8_of) B.pre
  have hown : s.vm.findClass RX8 = some m.cls := findClass_of_methodNamed B.named
  have hlocks := B.notSynchronized
  have i_X8 : ∀ w ∈ u_ws RX8 TX8 10, w ∈ wsX8_of := by decide +kernel
  have k_0 := hts (.fieldLink RX8 38 "VoiceRowsModel" "notes" "I") (by decide +kernel)
  have k_1 := hts (.fieldLink RX8 7 "VoiceRowsModel" "from" "[I") (by decide +kernel)
  have k_2 := hts (.fieldLink RX8 13 "VoiceRowsModel" "to" "[I") (by decide +kernel)
  have k_3 := hts (.fieldLink RX8 16 "VoiceRowsModel" "pitch" "[I") (by decide +kernel)
  have k_4 := hts (.fieldLink RX8 19 "VoiceRowsModel" "voice" "[I") (by decide +kernel)
  have hl := lv_entry ([.ref (a 0), .int x, .int w]) (n := 3) (Nat.le_of_ble_eq_true rfl)
  rw [lg_entry_eq]
  generalize (lg_sl ([.ref (a 0), .int x, .int w]) ++ List.replicate (3 - (lg_sl ([.ref (a 0), .int x, .int w])).length) Slot.unset).toArray = ls at hl ⊢
  have hl : lv_has ls 3 [(0, .ref (a 0)), (1, .int x), (2, .int w)] := hl
  refine lv_iload_n hx hb dX8_of_0 rfl (lv_at hl 1 rfl) ?_
  refine lv_if_lt (tgt := 22) hx hb dX8_of_1 (by decide) (fun c_1 => ?_) (fun c_1 => ?_)
  · skip
    refine lv_bipush (v := (-2)) hx hb dX8_of_22 (by decide) ?_
    exact W.iret (v := (-2)) hx hb hr (fun t ht _ => ⟨_, rfl, by first | (refine ⟨fun _ => rfl, fun k hk ek => ?_⟩; exfalso; exact no_tf (ix_in hk (by omega) ek) (by assumption)) | (refine ⟨fun _ => rfl, fun k hk ek => ?_⟩; exact sw7_o (by (simp only [decide_eq_true_eq, decide_eq_false_iff_not, Bool.and_eq_true, Bool.and_eq_false_iff, Bool.or_eq_true, Bool.or_eq_false_iff, Bool.not_eq_true, Bool.not_eq_false, ne_eq, not_and, not_or, tog_t, tog_f, ahd_t, ahd_f, isoB_t, isoB_f, ixB_t, ixB_f, vOK_t, vOK_f, wOK_t, wOK_f, tn4, tI5, Int32.lt_iff_toInt_lt, Int32.le_iff_toInt_le, ← Int32.toInt_inj, tI0, tI1, tI2, tI3, tI4, tI6, tI14, tI59, tI60, tI127, tI1000, tI100000, tIm1, tIm2, tIm3, tIm4, tIbig] at c_1 ⊢; first | done | omega))) | (refine ⟨fun _ => rfl, fun k hk ek => ?_⟩; exfalso; have hi := ix_in hk (by omega) ek; (simp only [decide_eq_true_eq, decide_eq_false_iff_not, Bool.and_eq_true, Bool.and_eq_false_iff, Bool.or_eq_true, Bool.or_eq_false_iff, Bool.not_eq_true, Bool.not_eq_false, ne_eq, not_and, not_or, tog_t, tog_f, ahd_t, ahd_f, isoB_t, isoB_f, ixB_t, ixB_f, vOK_t, vOK_f, wOK_t, wOK_f, tn4, tI5, Int32.lt_iff_toInt_lt, Int32.le_iff_toInt_le, ← Int32.toInt_inj, tI0, tI1, tI2, tI3, tI4, tI6, tI14, tI59, tI60, tI127, tI1000, tI100000, tIm1, tIm2, tIm3, tIm4, tIbig] at hi c_1; first | done | omega)), ht⟩) (fun q h => by cases h) dX8_of_24
  · skip
    refine lv_iload_n hx hb dX8_of_4 rfl (lv_at hl 1 rfl) ?_
    refine lv_aload_n hx hb dX8_of_5 rfl (lv_at hl 0 rfl) ?_
    refine va_get (D := (dC, dI)) (ci := 8) (v := .int (nI n)) (C := RX8) (T := TX8) (N := 10) hx hb hts i_X8 hown hK hP 0 rfl rfl 4 (by decide) k_0 (fun _ h9 => h9) rfl dX8_of_6 ?_
    refine lv_icmp_ge (tgt := 22) hx hb dX8_of_9 (by decide) (fun c_2 => ?_) (fun c_2 => ?_)
    · skip
      refine lv_bipush (v := (-2)) hx hb dX8_of_22 (by decide) ?_
      exact W.iret (v := (-2)) hx hb hr (fun t ht _ => ⟨_, rfl, by first | (refine ⟨fun _ => rfl, fun k hk ek => ?_⟩; exfalso; exact no_tf (ix_in hk (by omega) ek) (by assumption)) | (refine ⟨fun _ => rfl, fun k hk ek => ?_⟩; exact sw7_o (by (simp only [decide_eq_true_eq, decide_eq_false_iff_not, Bool.and_eq_true, Bool.and_eq_false_iff, Bool.or_eq_true, Bool.or_eq_false_iff, Bool.not_eq_true, Bool.not_eq_false, ne_eq, not_and, not_or, tog_t, tog_f, ahd_t, ahd_f, isoB_t, isoB_f, ixB_t, ixB_f, vOK_t, vOK_f, wOK_t, wOK_f, tn4, tI5, Int32.lt_iff_toInt_lt, Int32.le_iff_toInt_le, ← Int32.toInt_inj, tI0, tI1, tI2, tI3, tI4, tI6, tI14, tI59, tI60, tI127, tI1000, tI100000, tIm1, tIm2, tIm3, tIm4, tIbig] at c_1 c_2 ⊢; first | done | omega))) | (refine ⟨fun _ => rfl, fun k hk ek => ?_⟩; exfalso; have hi := ix_in hk (by omega) ek; (simp only [decide_eq_true_eq, decide_eq_false_iff_not, Bool.and_eq_true, Bool.and_eq_false_iff, Bool.or_eq_true, Bool.or_eq_false_iff, Bool.not_eq_true, Bool.not_eq_false, ne_eq, not_and, not_or, tog_t, tog_f, ahd_t, ahd_f, isoB_t, isoB_f, ixB_t, ixB_f, vOK_t, vOK_f, wOK_t, wOK_f, tn4, tI5, Int32.lt_iff_toInt_lt, Int32.le_iff_toInt_le, ← Int32.toInt_inj, tI0, tI1, tI2, tI3, tI4, tI6, tI14, tI59, tI60, tI127, tI1000, tI100000, tIm1, tIm2, tIm3, tIm4, tIbig] at hi c_1 c_2; first | done | omega)), ht⟩) (fun q h => by cases h) dX8_of_24
    · skip
      obtain ⟨j, hj, ej⟩ : ∃ j, j < n ∧ x = nI j := ix_of (by omega) (by (simp only [decide_eq_true_eq, decide_eq_false_iff_not, Bool.and_eq_true, Bool.and_eq_false_iff, Bool.or_eq_true, Bool.or_eq_false_iff, Bool.not_eq_true, Bool.not_eq_false, ne_eq, not_and, not_or, tog_t, tog_f, ahd_t, ahd_f, isoB_t, isoB_f, ixB_t, ixB_f, vOK_t, vOK_f, wOK_t, wOK_f, tn4, tI5, Int32.lt_iff_toInt_lt, Int32.le_iff_toInt_le, ← Int32.toInt_inj, tI0, tI1, tI2, tI3, tI4, tI6, tI14, tI59, tI60, tI127, tI1000, tI100000, tIm1, tIm2, tIm3, tIm4, tIbig] at c_1 c_2 ⊢; first | done | omega))
      refine lv_iload_n hx hb dX8_of_12 rfl (lv_at hl 2 rfl) ?_
      refine lv_if_lt (tgt := 22) hx hb dX8_of_13 (by decide) (fun c_3 => ?_) (fun c_3 => ?_)
      · skip
        refine lv_bipush (v := (-2)) hx hb dX8_of_22 (by decide) ?_
        exact W.iret (v := (-2)) hx hb hr (fun t ht _ => ⟨_, rfl, by first | (refine ⟨fun _ => rfl, fun k hk ek => ?_⟩; exfalso; exact no_tf (ix_in hk (by omega) ek) (by assumption)) | (refine ⟨fun _ => rfl, fun k hk ek => ?_⟩; exact sw7_o (by (simp only [decide_eq_true_eq, decide_eq_false_iff_not, Bool.and_eq_true, Bool.and_eq_false_iff, Bool.or_eq_true, Bool.or_eq_false_iff, Bool.not_eq_true, Bool.not_eq_false, ne_eq, not_and, not_or, tog_t, tog_f, ahd_t, ahd_f, isoB_t, isoB_f, ixB_t, ixB_f, vOK_t, vOK_f, wOK_t, wOK_f, tn4, tI5, Int32.lt_iff_toInt_lt, Int32.le_iff_toInt_le, ← Int32.toInt_inj, tI0, tI1, tI2, tI3, tI4, tI6, tI14, tI59, tI60, tI127, tI1000, tI100000, tIm1, tIm2, tIm3, tIm4, tIbig] at c_1 c_2 c_3 ⊢; first | done | omega))) | (refine ⟨fun _ => rfl, fun k hk ek => ?_⟩; exfalso; have hi := ix_in hk (by omega) ek; (simp only [decide_eq_true_eq, decide_eq_false_iff_not, Bool.and_eq_true, Bool.and_eq_false_iff, Bool.or_eq_true, Bool.or_eq_false_iff, Bool.not_eq_true, Bool.not_eq_false, ne_eq, not_and, not_or, tog_t, tog_f, ahd_t, ahd_f, isoB_t, isoB_f, ixB_t, ixB_f, vOK_t, vOK_f, wOK_t, wOK_f, tn4, tI5, Int32.lt_iff_toInt_lt, Int32.le_iff_toInt_le, ← Int32.toInt_inj, tI0, tI1, tI2, tI3, tI4, tI6, tI14, tI59, tI60, tI127, tI1000, tI100000, tIm1, tIm2, tIm3, tIm4, tIbig] at hi c_1 c_2 c_3; first | done | omega)), ht⟩) (fun q h => by cases h) dX8_of_24
      · skip
        refine lv_iload_n hx hb dX8_of_16 rfl (lv_at hl 2 rfl) ?_
        refine lv_bipush (v := 6) hx hb dX8_of_17 (by decide) ?_
        refine lv_icmp_le (tgt := 25) hx hb dX8_of_19 (by decide) (fun c_4 => ?_) (fun c_4 => ?_)
        · skip
          refine lv_iload_n hx hb dX8_of_25 rfl (lv_at hl 2 rfl) ?_
          by_cases c_5 : w = 0
          · skip
            refine lv_tableIn (tgt := 64) hx hb dX8_of_26 (by rw [c_5]; decide) (by rw [c_5]; decide) (by rw [c_5]; rfl) (by decide) ?_
            refine lv_aload_n hx hb dX8_of_64 rfl (lv_at hl 0 rfl) ?_
            refine va_get (D := (dC, dI)) (ci := 8) (v := .ref (a 1)) (C := RX8) (T := TX8) (N := 10) hx hb hts i_X8 hown hK hP 0 rfl rfl 0 (by decide) k_1 (fun _ h9 => h9) rfl dX8_of_65 ?_
            refine lv_iload_n hx hb dX8_of_68 rfl (lv_at hl 1 rfl) ?_
            refine gk_top (y := nI j) (ej) ?_
            refine gk_ld hx hb hK hP 1 0 rfl rfl j (by omega) (by omega) (v := F j) (rfl) dX8_of_69 ?_
            exact W.iret (v := F j) hx hb hr (fun t ht _ => ⟨_, rfl, by refine ⟨fun h => no_tf (ix_in hj (by omega) ej) h, fun k hk ek => ?_⟩; obtain rfl := nI_j hj hk (by omega) ej ek; exact sw7_0 (by first | assumption | ((simp only [decide_eq_true_eq, decide_eq_false_iff_not, Bool.and_eq_true, Bool.and_eq_false_iff, Bool.or_eq_true, Bool.or_eq_false_iff, Bool.not_eq_true, Bool.not_eq_false, ne_eq, not_and, not_or, tog_t, tog_f, ahd_t, ahd_f, isoB_t, isoB_f, ixB_t, ixB_f, vOK_t, vOK_f, wOK_t, wOK_f, tn4, tI5, Int32.lt_iff_toInt_lt, Int32.le_iff_toInt_le, ← Int32.toInt_inj, tI0, tI1, tI2, tI3, tI4, tI6, tI14, tI59, tI60, tI127, tI1000, tI100000, tIm1, tIm2, tIm3, tIm4, tIbig] at c_1 c_2 c_3 c_4 c_5 ⊢; first | done | omega))), ht⟩) (fun q h => by cases h) dX8_of_70
          have n_6 := c_5
          by_cases c_7 : w = 1
          · skip
            refine lv_tableIn (tgt := 71) hx hb dX8_of_26 (by rw [c_7]; decide) (by rw [c_7]; decide) (by rw [c_7]; rfl) (by decide) ?_
            refine lv_aload_n hx hb dX8_of_71 rfl (lv_at hl 0 rfl) ?_
            refine va_get (D := (dC, dI)) (ci := 8) (v := .ref (a 2)) (C := RX8) (T := TX8) (N := 10) hx hb hts i_X8 hown hK hP 0 rfl rfl 1 (by decide) k_2 (fun _ h9 => h9) rfl dX8_of_72 ?_
            refine lv_iload_n hx hb dX8_of_75 rfl (lv_at hl 1 rfl) ?_
            refine gk_top (y := nI j) (ej) ?_
            refine gk_ld hx hb hK hP 2 0 rfl rfl j (by omega) (by omega) (v := T j) (rfl) dX8_of_76 ?_
            exact W.iret (v := T j) hx hb hr (fun t ht _ => ⟨_, rfl, by refine ⟨fun h => no_tf (ix_in hj (by omega) ej) h, fun k hk ek => ?_⟩; obtain rfl := nI_j hj hk (by omega) ej ek; exact sw7_1 (by first | assumption | ((simp only [decide_eq_true_eq, decide_eq_false_iff_not, Bool.and_eq_true, Bool.and_eq_false_iff, Bool.or_eq_true, Bool.or_eq_false_iff, Bool.not_eq_true, Bool.not_eq_false, ne_eq, not_and, not_or, tog_t, tog_f, ahd_t, ahd_f, isoB_t, isoB_f, ixB_t, ixB_f, vOK_t, vOK_f, wOK_t, wOK_f, tn4, tI5, Int32.lt_iff_toInt_lt, Int32.le_iff_toInt_le, ← Int32.toInt_inj, tI0, tI1, tI2, tI3, tI4, tI6, tI14, tI59, tI60, tI127, tI1000, tI100000, tIm1, tIm2, tIm3, tIm4, tIbig] at c_1 c_2 c_3 c_4 n_6 c_7 ⊢; first | done | omega))), ht⟩) (fun q h => by cases h) dX8_of_77
          have n_8 := c_7
          by_cases c_9 : w = 2
          · skip
            refine lv_tableIn (tgt := 78) hx hb dX8_of_26 (by rw [c_9]; decide) (by rw [c_9]; decide) (by rw [c_9]; rfl) (by decide) ?_
            refine lv_aload_n hx hb dX8_of_78 rfl (lv_at hl 0 rfl) ?_
            refine va_get (D := (dC, dI)) (ci := 8) (v := .ref (a 3)) (C := RX8) (T := TX8) (N := 10) hx hb hts i_X8 hown hK hP 0 rfl rfl 2 (by decide) k_3 (fun _ h9 => h9) rfl dX8_of_79 ?_
            refine lv_iload_n hx hb dX8_of_82 rfl (lv_at hl 1 rfl) ?_
            refine gk_top (y := nI j) (ej) ?_
            refine gk_ld hx hb hK hP 3 0 rfl rfl j (by omega) (by omega) (v := P j) (rfl) dX8_of_83 ?_
            exact W.iret (v := P j) hx hb hr (fun t ht _ => ⟨_, rfl, by refine ⟨fun h => no_tf (ix_in hj (by omega) ej) h, fun k hk ek => ?_⟩; obtain rfl := nI_j hj hk (by omega) ej ek; exact sw7_2 (by first | assumption | ((simp only [decide_eq_true_eq, decide_eq_false_iff_not, Bool.and_eq_true, Bool.and_eq_false_iff, Bool.or_eq_true, Bool.or_eq_false_iff, Bool.not_eq_true, Bool.not_eq_false, ne_eq, not_and, not_or, tog_t, tog_f, ahd_t, ahd_f, isoB_t, isoB_f, ixB_t, ixB_f, vOK_t, vOK_f, wOK_t, wOK_f, tn4, tI5, Int32.lt_iff_toInt_lt, Int32.le_iff_toInt_le, ← Int32.toInt_inj, tI0, tI1, tI2, tI3, tI4, tI6, tI14, tI59, tI60, tI127, tI1000, tI100000, tIm1, tIm2, tIm3, tIm4, tIbig] at c_1 c_2 c_3 c_4 n_6 n_8 c_9 ⊢; first | done | omega))), ht⟩) (fun q h => by cases h) dX8_of_84
          have n_10 := c_9
          by_cases c_11 : w = 3
          · skip
            refine lv_tableIn (tgt := 85) hx hb dX8_of_26 (by rw [c_11]; decide) (by rw [c_11]; decide) (by rw [c_11]; rfl) (by decide) ?_
            refine lv_aload_n hx hb dX8_of_85 rfl (lv_at hl 0 rfl) ?_
            refine va_get (D := (dC, dI)) (ci := 8) (v := .ref (a 4)) (C := RX8) (T := TX8) (N := 10) hx hb hts i_X8 hown hK hP 0 rfl rfl 3 (by decide) k_4 (fun _ h9 => h9) rfl dX8_of_86 ?_
            refine lv_iload_n hx hb dX8_of_89 rfl (lv_at hl 1 rfl) ?_
            refine gk_top (y := nI j) (ej) ?_
            refine gk_ld hx hb hK hP 4 0 rfl rfl j (by omega) (by omega) (v := V j) (rfl) dX8_of_90 ?_
            exact W.iret (v := V j) hx hb hr (fun t ht _ => ⟨_, rfl, by refine ⟨fun h => no_tf (ix_in hj (by omega) ej) h, fun k hk ek => ?_⟩; obtain rfl := nI_j hj hk (by omega) ej ek; exact sw7_3 (by first | assumption | ((simp only [decide_eq_true_eq, decide_eq_false_iff_not, Bool.and_eq_true, Bool.and_eq_false_iff, Bool.or_eq_true, Bool.or_eq_false_iff, Bool.not_eq_true, Bool.not_eq_false, ne_eq, not_and, not_or, tog_t, tog_f, ahd_t, ahd_f, isoB_t, isoB_f, ixB_t, ixB_f, vOK_t, vOK_f, wOK_t, wOK_f, tn4, tI5, Int32.lt_iff_toInt_lt, Int32.le_iff_toInt_le, ← Int32.toInt_inj, tI0, tI1, tI2, tI3, tI4, tI6, tI14, tI59, tI60, tI127, tI1000, tI100000, tIm1, tIm2, tIm3, tIm4, tIbig] at c_1 c_2 c_3 c_4 n_6 n_8 n_10 c_11 ⊢; first | done | omega))), ht⟩) (fun q h => by cases h) dX8_of_91
          have n_12 := c_11
          by_cases c_13 : w = 4
          · skip
            refine lv_tableIn (tgt := 92) hx hb dX8_of_26 (by rw [c_13]; decide) (by rw [c_13]; decide) (by rw [c_13]; rfl) (by decide) ?_
            refine lv_aload_n hx hb dX8_of_92 rfl (lv_at hl 0 rfl) ?_
            refine lv_iload_n hx hb dX8_of_93 rfl (lv_at hl 1 rfl) ?_
            refine gk_top (y := nI j) (ej) ?_
            refine vp_callSi (gk_run (va_runV (As := [.int (nI j)]) (rest := []) ⟨hx, hb, hml, hown, hts⟩ (c_X8_rank l dC dI cI a n F T P V Wt (fun j => nI (o j)) G L R hn j (by omega)) (cwV 1 hts gX8_of_X8_rank rfl rfl rfl (by decide +kernel) ⟨Nat.le_of_ble_eq_true rfl, Nat.le_of_ble_eq_true rfl⟩) ⟨gk_fb, va_recv hK hP (ci := 8) (q0 := 0) rfl rfl, fun U hU hW => ⟨rfl, by rw [hU]; exact hP, va_K.moved hW.alike hK⟩⟩ rfl rfl hl.1 rfl (lv_room (Nat.le_of_ble_eq_true rfl)) dX8_of_94 ⟨Nat.zero_le _, Nat.zero_le _⟩)) (fun r_14 er_14 => ?_)
            subst er_14
            exact W.iret (v := nI (rkN F P n j)) hx hb hr (fun t ht _ => ⟨_, rfl, by refine ⟨fun h => no_tf (ix_in hj (by omega) ej) h, fun k hk ek => ?_⟩; obtain rfl := nI_j hj hk (by omega) ej ek; exact sw7_4 (by first | assumption | ((simp only [decide_eq_true_eq, decide_eq_false_iff_not, Bool.and_eq_true, Bool.and_eq_false_iff, Bool.or_eq_true, Bool.or_eq_false_iff, Bool.not_eq_true, Bool.not_eq_false, ne_eq, not_and, not_or, tog_t, tog_f, ahd_t, ahd_f, isoB_t, isoB_f, ixB_t, ixB_f, vOK_t, vOK_f, wOK_t, wOK_f, tn4, tI5, Int32.lt_iff_toInt_lt, Int32.le_iff_toInt_le, ← Int32.toInt_inj, tI0, tI1, tI2, tI3, tI4, tI6, tI14, tI59, tI60, tI127, tI1000, tI100000, tIm1, tIm2, tIm3, tIm4, tIbig] at c_1 c_2 c_3 c_4 n_6 n_8 n_10 n_12 c_13 ⊢; first | done | omega))), ht⟩) (fun q h => by cases h) dX8_of_97
          have n_15 := c_13
          by_cases c_16 : w = 5
          · skip
            refine lv_tableIn (tgt := 98) hx hb dX8_of_26 (by rw [c_16]; decide) (by rw [c_16]; decide) (by rw [c_16]; rfl) (by decide) ?_
            refine lv_aload_n hx hb dX8_of_98 rfl (lv_at hl 0 rfl) ?_
            refine lv_iload_n hx hb dX8_of_99 rfl (lv_at hl 1 rfl) ?_
            refine gk_top (y := nI j) (ej) ?_
            refine vp_callSi (gk_run (va_runV (As := [.int (nI j)]) (rest := []) ⟨hx, hb, hml, hown, hts⟩ (c_X8_nextOf l dC dI cI a n F T P V Wt o G L R hn ho j (by omega)) (cwV 1 hts gX8_of_X8_nextOf rfl rfl rfl (by decide +kernel) ⟨Nat.le_of_ble_eq_true rfl, Nat.le_of_ble_eq_true rfl⟩) ⟨gk_fb, va_recv hK hP (ci := 8) (q0 := 0) rfl rfl, fun U hU hW => ⟨rfl, by rw [hU]; exact hP, va_K.moved hW.alike hK⟩⟩ rfl rfl hl.1 rfl (lv_room (Nat.le_of_ble_eq_true rfl)) dX8_of_100 ⟨Nat.zero_le _, Nat.zero_le _⟩)) (fun r_17 er_17 => ?_)
            subst er_17
            exact W.iret (v := oi (flM F P V o n j)) hx hb hr (fun t ht _ => ⟨_, rfl, by refine ⟨fun h => no_tf (ix_in hj (by omega) ej) h, fun k hk ek => ?_⟩; obtain rfl := nI_j hj hk (by omega) ej ek; exact sw7_5 (by first | assumption | ((simp only [decide_eq_true_eq, decide_eq_false_iff_not, Bool.and_eq_true, Bool.and_eq_false_iff, Bool.or_eq_true, Bool.or_eq_false_iff, Bool.not_eq_true, Bool.not_eq_false, ne_eq, not_and, not_or, tog_t, tog_f, ahd_t, ahd_f, isoB_t, isoB_f, ixB_t, ixB_f, vOK_t, vOK_f, wOK_t, wOK_f, tn4, tI5, Int32.lt_iff_toInt_lt, Int32.le_iff_toInt_le, ← Int32.toInt_inj, tI0, tI1, tI2, tI3, tI4, tI6, tI14, tI59, tI60, tI127, tI1000, tI100000, tIm1, tIm2, tIm3, tIm4, tIbig] at c_1 c_2 c_3 c_4 n_6 n_8 n_10 n_12 n_15 c_16 ⊢; first | done | omega))), ht⟩) (fun q h => by cases h) dX8_of_103
          have n_18 := c_16
          refine lv_tableOut (tgt := 104) hx hb dX8_of_26 (gk_out6 n_6 n_8 n_10 n_12 n_15 n_18) (by decide) ?_
          refine lv_aload_n hx hb dX8_of_104 rfl (lv_at hl 0 rfl) ?_
          refine lv_iload_n hx hb dX8_of_105 rfl (lv_at hl 1 rfl) ?_
          refine gk_top (y := nI j) (ej) ?_
          refine vp_callSi (gk_run (va_runV (As := [.int (nI j)]) (rest := []) ⟨hx, hb, hml, hown, hts⟩ (c_X8_clashes l dC dI cI a n F T P V Wt (fun j => nI (o j)) G L R hn j (by omega)) (cwV 1 hts gX8_of_X8_clashes rfl rfl rfl (by decide +kernel) ⟨Nat.le_of_ble_eq_true rfl, Nat.le_of_ble_eq_true rfl⟩) ⟨gk_fb, va_recv hK hP (ci := 8) (q0 := 0) rfl rfl, fun U hU hW => ⟨rfl, by rw [hU]; exact hP, va_K.moved hW.alike hK⟩⟩ rfl rfl hl.1 rfl (lv_room (Nat.le_of_ble_eq_true rfl)) dX8_of_106 ⟨Nat.zero_le _, Nat.zero_le _⟩)) (fun r_20 er_20 => ?_)
          subst er_20
          exact W.iret (v := nI (clM F T V n j)) hx hb hr (fun t ht _ => ⟨_, rfl, by refine ⟨fun h => no_tf (ix_in hj (by omega) ej) h, fun k hk ek => ?_⟩; obtain rfl := nI_j hj hk (by omega) ej ek; exact sw7_6 (by first | assumption | ((simp only [decide_eq_true_eq, decide_eq_false_iff_not, Bool.and_eq_true, Bool.and_eq_false_iff, Bool.or_eq_true, Bool.or_eq_false_iff, Bool.not_eq_true, Bool.not_eq_false, ne_eq, not_and, not_or, tog_t, tog_f, ahd_t, ahd_f, isoB_t, isoB_f, ixB_t, ixB_f, vOK_t, vOK_f, wOK_t, wOK_f, tn4, tI5, Int32.lt_iff_toInt_lt, Int32.le_iff_toInt_le, ← Int32.toInt_inj, tI0, tI1, tI2, tI3, tI4, tI6, tI14, tI59, tI60, tI127, tI1000, tI100000, tIm1, tIm2, tIm3, tIm4, tIbig] at c_1 c_2 c_3 c_4 n_6 n_8 n_10 n_12 n_15 n_18 ⊢; first | done | omega))), ht⟩) (fun q h => by cases h) dX8_of_109
        · skip
          refine lv_bipush (v := (-2)) hx hb dX8_of_22 (by decide) ?_
          exact W.iret (v := (-2)) hx hb hr (fun t ht _ => ⟨_, rfl, by first | (refine ⟨fun _ => rfl, fun k hk ek => ?_⟩; exfalso; exact no_tf (ix_in hk (by omega) ek) (by assumption)) | (refine ⟨fun _ => rfl, fun k hk ek => ?_⟩; exact sw7_o (by (simp only [decide_eq_true_eq, decide_eq_false_iff_not, Bool.and_eq_true, Bool.and_eq_false_iff, Bool.or_eq_true, Bool.or_eq_false_iff, Bool.not_eq_true, Bool.not_eq_false, ne_eq, not_and, not_or, tog_t, tog_f, ahd_t, ahd_f, isoB_t, isoB_f, ixB_t, ixB_f, vOK_t, vOK_f, wOK_t, wOK_f, tn4, tI5, Int32.lt_iff_toInt_lt, Int32.le_iff_toInt_le, ← Int32.toInt_inj, tI0, tI1, tI2, tI3, tI4, tI6, tI14, tI59, tI60, tI127, tI1000, tI100000, tIm1, tIm2, tIm3, tIm4, tIbig] at c_1 c_2 c_3 c_4 ⊢; first | done | omega))) | (refine ⟨fun _ => rfl, fun k hk ek => ?_⟩; exfalso; have hi := ix_in hk (by omega) ek; (simp only [decide_eq_true_eq, decide_eq_false_iff_not, Bool.and_eq_true, Bool.and_eq_false_iff, Bool.or_eq_true, Bool.or_eq_false_iff, Bool.not_eq_true, Bool.not_eq_false, ne_eq, not_and, not_or, tog_t, tog_f, ahd_t, ahd_f, isoB_t, isoB_f, ixB_t, ixB_f, vOK_t, vOK_f, wOK_t, wOK_f, tn4, tI5, Int32.lt_iff_toInt_lt, Int32.le_iff_toInt_le, ← Int32.toInt_inj, tI0, tI1, tI2, tI3, tI4, tI6, tI14, tI59, tI60, tI127, tI1000, tI100000, tIm1, tIm2, tIm3, tIm4, tIbig] at hi c_1 c_2 c_3 c_4; first | done | omega)), ht⟩) (fun q h => by cases h) dX8_of_24

set_option maxHeartbeats 1000000 in
set_option maxRecDepth 100000 in
theorem c_X7_of (l : Launch) (dC : Nat → ClassId) (dI : Nat → Nat → Nat) (cI : ClassId) (b : Nat → Nat) (n : Nat) (F T P V : Nat → Int32) (o kr : Nat → Nat) (Wt : Nat → Int32) (rc : Int32) (RB RE : Nat → Int32) (p1 p2 : Int32) (LA : Nat → Int32) (vs : Int32) (PL : Nat → Int32) (kn kl : Nat) (KN CH : Nat → Int32) (hn : n ≤ 60) (ho : ∀ j, o j < 60) (hkr : ∀ j, j < n → kr j < n) (x w : Int32) : Met l yX7_of wsX7_of ({ frames := 2, cells := 0, slots := 0, locals := 45 } : Room) (va_Pc [.ref (b 0), .int x, .int w] (fun U => va_P (dC, dI) vwCl (xW cI b (nI n) F T P V (fun j => nI (o j)) (fun j => nI (kr j)) Wt rc RB RE p1 p2 LA vs PL kn kl KN CH) U.heap ∧ va_K (dC, dI) vwCl [(cI, .int)] U ∧ va_Nw (.methodLinkNest RX6 34 yX7_within RX7) U)) (vp_Si (fun r => (ixB x n = false → r = -2) ∧ (∀ j, j < n → x = nI j → r = sw7 w (F j) (T j) (P j) (V j) (nI (kr j)) (oi (flC V o kr n j)) (nI (clC F T V n j))))) 0 0 (fun _ => False) := by
  refine Met.ofW (cc := cX7_of) (maxL := 3) (ret := (some .int)) (by decide) rfl ?_
  intro p e s m args below meth c s₁ B hml hv
  obtain ⟨rfl, hP, hK, hN0⟩ := hv
  have hx := B.exec
  have hb := B.bytes
  have hr := B.returns
  have hts := atoms_spec (ws := wsX7_of) B.pre
  have hown : s.vm.findClass RX7 = some m.cls := findClass_of_methodNamed B.named
  have hlocks := B.notSynchronized
  have i_X7 : ∀ w ∈ u_ws RX7 TX7 7, w ∈ wsX7_of := by decide +kernel
  have i_X6 : ∀ w ∈ u_ws RX6 TX6 7, w ∈ wsX7_of := by decide +kernel
  have k_0 := hts (.fieldLink RX7 10 "VoiceRows" "score" "LVoiceRows$Score;") (by decide +kernel)
  have k_1 := hts (.fieldLink RX7 126 "VoiceRows$Score" "from" "[I") (by decide +kernel)
  have k_2 := hts (.fieldLink RX7 129 "VoiceRows$Score" "to" "[I") (by decide +kernel)
  have k_3 := hts (.fieldLink RX7 132 "VoiceRows$Score" "pitch" "[I") (by decide +kernel)
  have k_4 := hts (.fieldLink RX7 103 "VoiceRows$Score" "voice" "[I") (by decide +kernel)
  have k_5 := hts (.fieldLink RX7 135 "VoiceRows$Score" "rank" "[I") (by decide +kernel)
  have hl := lv_entry ([.ref (b 0), .int x, .int w]) (n := 3) (Nat.le_of_ble_eq_true rfl)
  rw [lg_entry_eq]
  generalize (lg_sl ([.ref (b 0), .int x, .int w]) ++ List.replicate (3 - (lg_sl ([.ref (b 0), .int x, .int w])).length) Slot.unset).toArray = ls at hl ⊢
  have hl : lv_has ls 3 [(0, .ref (b 0)), (1, .int x), (2, .int w)] := hl
  refine lv_aload_n hx hb dX7_of_0 rfl (lv_at hl 0 rfl) ?_
  refine va_get (D := (dC, dI)) (ci := 7) (v := .ref (b 1)) (C := RX7) (T := TX7) (N := 7) hx hb hts i_X7 hown hK hP 0 rfl rfl 0 (by decide) k_0 (fun _ h9 => h9) rfl dX7_of_1 ?_
  refine lv_iload_n hx hb dX7_of_4 rfl (lv_at hl 1 rfl) ?_
  have hPc_1 := hP.sub (ws' := (sW cI b (nI n) F T P V (fun j => nI (o j)) (fun j => nI (kr j)))) [1, 2, 3, 4, 5, 6, 7] rfl
  refine vp_callSi (gk_run (va_runV (As := [.int x]) (rest := []) ⟨hx, hb, hml, hown, hts⟩ (c_X6_has l dC dI cI b n F T P V o kr hn ho x) (cwV 1 hts gX7_of_X6_has rfl rfl rfl (by decide +kernel) ⟨Nat.le_of_ble_eq_true rfl, Nat.le_of_ble_eq_true rfl⟩) ⟨gk_fb1 (by decide), va_recv hK hPc_1 (ci := 6) (q0 := 0) rfl rfl, fun U hU hW => ⟨rfl, by rw [hU]; exact hPc_1, va_K.moved hW.alike hK, va_Nw.warmM hW hN0⟩⟩ rfl rfl hl.1 rfl (lv_room (Nat.le_of_ble_eq_true rfl)) dX7_of_5 ⟨Nat.zero_le _, Nat.zero_le _⟩)) (fun r_2 er_2 => ?_)
  subst er_2
  refine lv_if_ne (tgt := 14) hx hb dX7_of_8 (by decide) (fun c_3 => ?_) (fun c_3 => ?_)
  · skip
    have c_3 : (ixB x n) = true := b2i_1.mp c_3
    obtain ⟨j, hj, ej⟩ : ∃ j, j < n ∧ x = nI j := ix_of (by omega) (by (simp only [decide_eq_true_eq, decide_eq_false_iff_not, Bool.and_eq_true, Bool.and_eq_false_iff, Bool.or_eq_true, Bool.or_eq_false_iff, Bool.not_eq_true, Bool.not_eq_false, ne_eq, not_and, not_or, tog_t, tog_f, ahd_t, ahd_f, isoB_t, isoB_f, ixB_t, ixB_f, vOK_t, vOK_f, wOK_t, wOK_f, tn4, tI5, Int32.lt_iff_toInt_lt, Int32.le_iff_toInt_le, ← Int32.toInt_inj, tI0, tI1, tI2, tI3, tI4, tI6, tI14, tI59, tI60, tI127, tI1000, tI100000, tIm1, tIm2, tIm3, tIm4, tIbig] at c_3 ⊢; first | done | omega))
    refine lv_iload_n hx hb dX7_of_14 rfl (lv_at hl 2 rfl) ?_
    by_cases c_4 : w = 0
    · skip
      refine lv_tableIn (tgt := 56) hx hb dX7_of_15 (by rw [c_4]; decide) (by rw [c_4]; decide) (by rw [c_4]; rfl) (by decide) ?_
      refine lv_aload_n hx hb dX7_of_56 rfl (lv_at hl 0 rfl) ?_
      refine va_get (D := (dC, dI)) (ci := 7) (v := .ref (b 1)) (C := RX7) (T := TX7) (N := 7) hx hb hts i_X7 hown hK hP 0 rfl rfl 0 (by decide) k_0 (fun _ h9 => h9) rfl dX7_of_57 ?_
      refine va_get (D := (dC, dI)) (ci := 6) (v := .ref (b 2)) (C := RX6) (T := TX6) (N := 7) hx hb hts i_X6 hown hK hP 1 rfl rfl 1 (by decide) k_1 (fun _ h9 => h9) rfl dX7_of_60 ?_
      refine lv_iload_n hx hb dX7_of_63 rfl (lv_at hl 1 rfl) ?_
      refine gk_top (y := nI j) (ej) ?_
      refine gk_ld hx hb hK hP 2 0 rfl rfl j (by omega) (by omega) (v := F j) (rfl) dX7_of_64 ?_
      exact W.iret (v := F j) hx hb hr (fun t ht _ => ⟨_, rfl, by refine ⟨fun h => no_tf (ix_in hj (by omega) ej) h, fun k hk ek => ?_⟩; obtain rfl := nI_j hj hk (by omega) ej ek; exact sw7_0 (by first | assumption | ((simp only [decide_eq_true_eq, decide_eq_false_iff_not, Bool.and_eq_true, Bool.and_eq_false_iff, Bool.or_eq_true, Bool.or_eq_false_iff, Bool.not_eq_true, Bool.not_eq_false, ne_eq, not_and, not_or, tog_t, tog_f, ahd_t, ahd_f, isoB_t, isoB_f, ixB_t, ixB_f, vOK_t, vOK_f, wOK_t, wOK_f, tn4, tI5, Int32.lt_iff_toInt_lt, Int32.le_iff_toInt_le, ← Int32.toInt_inj, tI0, tI1, tI2, tI3, tI4, tI6, tI14, tI59, tI60, tI127, tI1000, tI100000, tIm1, tIm2, tIm3, tIm4, tIbig] at c_3 c_4 ⊢; first | done | omega))), ht⟩) (fun q h => by cases h) dX7_of_65
    have n_5 := c_4
    by_cases c_6 : w = 1
    · skip
      refine lv_tableIn (tgt := 66) hx hb dX7_of_15 (by rw [c_6]; decide) (by rw [c_6]; decide) (by rw [c_6]; rfl) (by decide) ?_
      refine lv_aload_n hx hb dX7_of_66 rfl (lv_at hl 0 rfl) ?_
      refine va_get (D := (dC, dI)) (ci := 7) (v := .ref (b 1)) (C := RX7) (T := TX7) (N := 7) hx hb hts i_X7 hown hK hP 0 rfl rfl 0 (by decide) k_0 (fun _ h9 => h9) rfl dX7_of_67 ?_
      refine va_get (D := (dC, dI)) (ci := 6) (v := .ref (b 3)) (C := RX6) (T := TX6) (N := 7) hx hb hts i_X6 hown hK hP 1 rfl rfl 2 (by decide) k_2 (fun _ h9 => h9) rfl dX7_of_70 ?_
      refine lv_iload_n hx hb dX7_of_73 rfl (lv_at hl 1 rfl) ?_
      refine gk_top (y := nI j) (ej) ?_
      refine gk_ld hx hb hK hP 3 0 rfl rfl j (by omega) (by omega) (v := T j) (rfl) dX7_of_74 ?_
      exact W.iret (v := T j) hx hb hr (fun t ht _ => ⟨_, rfl, by refine ⟨fun h => no_tf (ix_in hj (by omega) ej) h, fun k hk ek => ?_⟩; obtain rfl := nI_j hj hk (by omega) ej ek; exact sw7_1 (by first | assumption | ((simp only [decide_eq_true_eq, decide_eq_false_iff_not, Bool.and_eq_true, Bool.and_eq_false_iff, Bool.or_eq_true, Bool.or_eq_false_iff, Bool.not_eq_true, Bool.not_eq_false, ne_eq, not_and, not_or, tog_t, tog_f, ahd_t, ahd_f, isoB_t, isoB_f, ixB_t, ixB_f, vOK_t, vOK_f, wOK_t, wOK_f, tn4, tI5, Int32.lt_iff_toInt_lt, Int32.le_iff_toInt_le, ← Int32.toInt_inj, tI0, tI1, tI2, tI3, tI4, tI6, tI14, tI59, tI60, tI127, tI1000, tI100000, tIm1, tIm2, tIm3, tIm4, tIbig] at c_3 n_5 c_6 ⊢; first | done | omega))), ht⟩) (fun q h => by cases h) dX7_of_75
    have n_7 := c_6
    by_cases c_8 : w = 2
    · skip
      refine lv_tableIn (tgt := 76) hx hb dX7_of_15 (by rw [c_8]; decide) (by rw [c_8]; decide) (by rw [c_8]; rfl) (by decide) ?_
      refine lv_aload_n hx hb dX7_of_76 rfl (lv_at hl 0 rfl) ?_
      refine va_get (D := (dC, dI)) (ci := 7) (v := .ref (b 1)) (C := RX7) (T := TX7) (N := 7) hx hb hts i_X7 hown hK hP 0 rfl rfl 0 (by decide) k_0 (fun _ h9 => h9) rfl dX7_of_77 ?_
      refine va_get (D := (dC, dI)) (ci := 6) (v := .ref (b 4)) (C := RX6) (T := TX6) (N := 7) hx hb hts i_X6 hown hK hP 1 rfl rfl 3 (by decide) k_3 (fun _ h9 => h9) rfl dX7_of_80 ?_
      refine lv_iload_n hx hb dX7_of_83 rfl (lv_at hl 1 rfl) ?_
      refine gk_top (y := nI j) (ej) ?_
      refine gk_ld hx hb hK hP 4 0 rfl rfl j (by omega) (by omega) (v := P j) (rfl) dX7_of_84 ?_
      exact W.iret (v := P j) hx hb hr (fun t ht _ => ⟨_, rfl, by refine ⟨fun h => no_tf (ix_in hj (by omega) ej) h, fun k hk ek => ?_⟩; obtain rfl := nI_j hj hk (by omega) ej ek; exact sw7_2 (by first | assumption | ((simp only [decide_eq_true_eq, decide_eq_false_iff_not, Bool.and_eq_true, Bool.and_eq_false_iff, Bool.or_eq_true, Bool.or_eq_false_iff, Bool.not_eq_true, Bool.not_eq_false, ne_eq, not_and, not_or, tog_t, tog_f, ahd_t, ahd_f, isoB_t, isoB_f, ixB_t, ixB_f, vOK_t, vOK_f, wOK_t, wOK_f, tn4, tI5, Int32.lt_iff_toInt_lt, Int32.le_iff_toInt_le, ← Int32.toInt_inj, tI0, tI1, tI2, tI3, tI4, tI6, tI14, tI59, tI60, tI127, tI1000, tI100000, tIm1, tIm2, tIm3, tIm4, tIbig] at c_3 n_5 n_7 c_8 ⊢; first | done | omega))), ht⟩) (fun q h => by cases h) dX7_of_85
    have n_9 := c_8
    by_cases c_10 : w = 3
    · skip
      refine lv_tableIn (tgt := 86) hx hb dX7_of_15 (by rw [c_10]; decide) (by rw [c_10]; decide) (by rw [c_10]; rfl) (by decide) ?_
      refine lv_aload_n hx hb dX7_of_86 rfl (lv_at hl 0 rfl) ?_
      refine va_get (D := (dC, dI)) (ci := 7) (v := .ref (b 1)) (C := RX7) (T := TX7) (N := 7) hx hb hts i_X7 hown hK hP 0 rfl rfl 0 (by decide) k_0 (fun _ h9 => h9) rfl dX7_of_87 ?_
      refine va_get (D := (dC, dI)) (ci := 6) (v := .ref (b 5)) (C := RX6) (T := TX6) (N := 7) hx hb hts i_X6 hown hK hP 1 rfl rfl 4 (by decide) k_4 (fun _ h9 => h9) rfl dX7_of_90 ?_
      refine lv_iload_n hx hb dX7_of_93 rfl (lv_at hl 1 rfl) ?_
      refine gk_top (y := nI j) (ej) ?_
      refine gk_ld hx hb hK hP 5 0 rfl rfl j (by omega) (by omega) (v := V j) (rfl) dX7_of_94 ?_
      exact W.iret (v := V j) hx hb hr (fun t ht _ => ⟨_, rfl, by refine ⟨fun h => no_tf (ix_in hj (by omega) ej) h, fun k hk ek => ?_⟩; obtain rfl := nI_j hj hk (by omega) ej ek; exact sw7_3 (by first | assumption | ((simp only [decide_eq_true_eq, decide_eq_false_iff_not, Bool.and_eq_true, Bool.and_eq_false_iff, Bool.or_eq_true, Bool.or_eq_false_iff, Bool.not_eq_true, Bool.not_eq_false, ne_eq, not_and, not_or, tog_t, tog_f, ahd_t, ahd_f, isoB_t, isoB_f, ixB_t, ixB_f, vOK_t, vOK_f, wOK_t, wOK_f, tn4, tI5, Int32.lt_iff_toInt_lt, Int32.le_iff_toInt_le, ← Int32.toInt_inj, tI0, tI1, tI2, tI3, tI4, tI6, tI14, tI59, tI60, tI127, tI1000, tI100000, tIm1, tIm2, tIm3, tIm4, tIbig] at c_3 n_5 n_7 n_9 c_10 ⊢; first | done | omega))), ht⟩) (fun q h => by cases h) dX7_of_95
    have n_11 := c_10
    by_cases c_12 : w = 4
    · skip
      refine lv_tableIn (tgt := 96) hx hb dX7_of_15 (by rw [c_12]; decide) (by rw [c_12]; decide) (by rw [c_12]; rfl) (by decide) ?_
      refine lv_aload_n hx hb dX7_of_96 rfl (lv_at hl 0 rfl) ?_
      refine va_get (D := (dC, dI)) (ci := 7) (v := .ref (b 1)) (C := RX7) (T := TX7) (N := 7) hx hb hts i_X7 hown hK hP 0 rfl rfl 0 (by decide) k_0 (fun _ h9 => h9) rfl dX7_of_97 ?_
      refine va_get (D := (dC, dI)) (ci := 6) (v := .ref (b 7)) (C := RX6) (T := TX6) (N := 7) hx hb hts i_X6 hown hK hP 1 rfl rfl 6 (by decide) k_5 (fun _ h9 => h9) rfl dX7_of_100 ?_
      refine lv_iload_n hx hb dX7_of_103 rfl (lv_at hl 1 rfl) ?_
      refine gk_top (y := nI j) (ej) ?_
      refine gk_ld hx hb hK hP 7 0 rfl rfl j (by omega) (by omega) (v := nI (kr j)) (rfl) dX7_of_104 ?_
      exact W.iret (v := nI (kr j)) hx hb hr (fun t ht _ => ⟨_, rfl, by refine ⟨fun h => no_tf (ix_in hj (by omega) ej) h, fun k hk ek => ?_⟩; obtain rfl := nI_j hj hk (by omega) ej ek; exact sw7_4 (by first | assumption | ((simp only [decide_eq_true_eq, decide_eq_false_iff_not, Bool.and_eq_true, Bool.and_eq_false_iff, Bool.or_eq_true, Bool.or_eq_false_iff, Bool.not_eq_true, Bool.not_eq_false, ne_eq, not_and, not_or, tog_t, tog_f, ahd_t, ahd_f, isoB_t, isoB_f, ixB_t, ixB_f, vOK_t, vOK_f, wOK_t, wOK_f, tn4, tI5, Int32.lt_iff_toInt_lt, Int32.le_iff_toInt_le, ← Int32.toInt_inj, tI0, tI1, tI2, tI3, tI4, tI6, tI14, tI59, tI60, tI127, tI1000, tI100000, tIm1, tIm2, tIm3, tIm4, tIbig] at c_3 n_5 n_7 n_9 n_11 c_12 ⊢; first | done | omega))), ht⟩) (fun q h => by cases h) dX7_of_105
    have n_13 := c_12
    by_cases c_14 : w = 5
    · skip
      refine lv_tableIn (tgt := 106) hx hb dX7_of_15 (by rw [c_14]; decide) (by rw [c_14]; decide) (by rw [c_14]; rfl) (by decide) ?_
      refine lv_aload_n hx hb dX7_of_106 rfl (lv_at hl 0 rfl) ?_
      refine va_get (D := (dC, dI)) (ci := 7) (v := .ref (b 1)) (C := RX7) (T := TX7) (N := 7) hx hb hts i_X7 hown hK hP 0 rfl rfl 0 (by decide) k_0 (fun _ h9 => h9) rfl dX7_of_107 ?_
      refine lv_iload_n hx hb dX7_of_110 rfl (lv_at hl 1 rfl) ?_
      refine gk_top (y := nI j) (ej) ?_
      have hPc_15 := hP.sub (ws' := (sW cI b (nI n) F T P V (fun j => nI (o j)) (fun j => nI (kr j)))) [1, 2, 3, 4, 5, 6, 7] rfl
      refine vp_callSi (gk_run (va_runV (As := [.int (nI j)]) (rest := []) ⟨hx, hb, hml, hown, hts⟩ (c_X6_following l dC dI cI b n F T P V o kr hn ho hkr j (by omega)) (cwV 1 hts gX7_of_X6_following rfl rfl rfl (by decide +kernel) ⟨Nat.le_of_ble_eq_true rfl, Nat.le_of_ble_eq_true rfl⟩) ⟨gk_fb, va_recv hK hPc_15 (ci := 6) (q0 := 0) rfl rfl, fun U hU hW => ⟨rfl, by rw [hU]; exact hPc_15, va_K.moved hW.alike hK⟩⟩ rfl rfl hl.1 rfl (lv_room (Nat.le_of_ble_eq_true rfl)) dX7_of_111 ⟨Nat.zero_le _, Nat.zero_le _⟩)) (fun r_16 er_16 => ?_)
      subst er_16
      exact W.iret (v := oi (flC V o kr n j)) hx hb hr (fun t ht _ => ⟨_, rfl, by refine ⟨fun h => no_tf (ix_in hj (by omega) ej) h, fun k hk ek => ?_⟩; obtain rfl := nI_j hj hk (by omega) ej ek; exact sw7_5 (by first | assumption | ((simp only [decide_eq_true_eq, decide_eq_false_iff_not, Bool.and_eq_true, Bool.and_eq_false_iff, Bool.or_eq_true, Bool.or_eq_false_iff, Bool.not_eq_true, Bool.not_eq_false, ne_eq, not_and, not_or, tog_t, tog_f, ahd_t, ahd_f, isoB_t, isoB_f, ixB_t, ixB_f, vOK_t, vOK_f, wOK_t, wOK_f, tn4, tI5, Int32.lt_iff_toInt_lt, Int32.le_iff_toInt_le, ← Int32.toInt_inj, tI0, tI1, tI2, tI3, tI4, tI6, tI14, tI59, tI60, tI127, tI1000, tI100000, tIm1, tIm2, tIm3, tIm4, tIbig] at c_3 n_5 n_7 n_9 n_11 n_13 c_14 ⊢; first | done | omega))), ht⟩) (fun q h => by cases h) dX7_of_114
    have n_17 := c_14
    by_cases c_18 : w = 6
    · skip
      refine lv_tableIn (tgt := 115) hx hb dX7_of_15 (by rw [c_18]; decide) (by rw [c_18]; decide) (by rw [c_18]; rfl) (by decide) ?_
      refine lv_aload_n hx hb dX7_of_115 rfl (lv_at hl 0 rfl) ?_
      refine va_get (D := (dC, dI)) (ci := 7) (v := .ref (b 1)) (C := RX7) (T := TX7) (N := 7) hx hb hts i_X7 hown hK hP 0 rfl rfl 0 (by decide) k_0 (fun _ h9 => h9) rfl dX7_of_116 ?_
      refine lv_iload_n hx hb dX7_of_119 rfl (lv_at hl 1 rfl) ?_
      refine gk_top (y := nI j) (ej) ?_
      have hPc_19 := hP.sub (ws' := (sW cI b (nI n) F T P V (fun j => nI (o j)) (fun j => nI (kr j)))) [1, 2, 3, 4, 5, 6, 7] rfl
      refine vp_callSi (gk_run (va_runV (As := [.int (nI j)]) (rest := []) ⟨hx, hb, hml, hown, hts⟩ (c_X6_clashes l dC dI cI b n F T P V o kr hn ho j (by omega)) (cwV 1 hts gX7_of_X6_clashes rfl rfl rfl (by decide +kernel) ⟨Nat.le_of_ble_eq_true rfl, Nat.le_of_ble_eq_true rfl⟩) ⟨gk_fb, va_recv hK hPc_19 (ci := 6) (q0 := 0) rfl rfl, fun U hU hW => ⟨rfl, by rw [hU]; exact hPc_19, va_K.moved hW.alike hK⟩⟩ rfl rfl hl.1 rfl (lv_room (Nat.le_of_ble_eq_true rfl)) dX7_of_120 ⟨Nat.zero_le _, Nat.zero_le _⟩)) (fun r_20 er_20 => ?_)
      subst er_20
      exact W.iret (v := nI (clC F T V n j)) hx hb hr (fun t ht _ => ⟨_, rfl, by refine ⟨fun h => no_tf (ix_in hj (by omega) ej) h, fun k hk ek => ?_⟩; obtain rfl := nI_j hj hk (by omega) ej ek; exact sw7_6 (by first | assumption | ((simp only [decide_eq_true_eq, decide_eq_false_iff_not, Bool.and_eq_true, Bool.and_eq_false_iff, Bool.or_eq_true, Bool.or_eq_false_iff, Bool.not_eq_true, Bool.not_eq_false, ne_eq, not_and, not_or, tog_t, tog_f, ahd_t, ahd_f, isoB_t, isoB_f, ixB_t, ixB_f, vOK_t, vOK_f, wOK_t, wOK_f, tn4, tI5, Int32.lt_iff_toInt_lt, Int32.le_iff_toInt_le, ← Int32.toInt_inj, tI0, tI1, tI2, tI3, tI4, tI6, tI14, tI59, tI60, tI127, tI1000, tI100000, tIm1, tIm2, tIm3, tIm4, tIbig] at c_3 n_5 n_7 n_9 n_11 n_13 n_17 c_18 ⊢; first | done | omega))), ht⟩) (fun q h => by cases h) dX7_of_123
    have n_21 := c_18
    refine lv_tableOut (tgt := 124) hx hb dX7_of_15 (gk_out7 n_5 n_7 n_9 n_11 n_13 n_17 n_21) (by decide) ?_
    refine lv_bipush (v := (-2)) hx hb dX7_of_124 (by decide) ?_
    exact W.iret (v := (-2)) hx hb hr (fun t ht _ => ⟨_, rfl, by first | (refine ⟨fun _ => rfl, fun k hk ek => ?_⟩; exfalso; exact no_tf (ix_in hk (by omega) ek) (by assumption)) | (refine ⟨fun _ => rfl, fun k hk ek => ?_⟩; exact sw7_o (by (simp only [decide_eq_true_eq, decide_eq_false_iff_not, Bool.and_eq_true, Bool.and_eq_false_iff, Bool.or_eq_true, Bool.or_eq_false_iff, Bool.not_eq_true, Bool.not_eq_false, ne_eq, not_and, not_or, tog_t, tog_f, ahd_t, ahd_f, isoB_t, isoB_f, ixB_t, ixB_f, vOK_t, vOK_f, wOK_t, wOK_f, tn4, tI5, Int32.lt_iff_toInt_lt, Int32.le_iff_toInt_le, ← Int32.toInt_inj, tI0, tI1, tI2, tI3, tI4, tI6, tI14, tI59, tI60, tI127, tI1000, tI100000, tIm1, tIm2, tIm3, tIm4, tIbig] at c_3 n_5 n_7 n_9 n_11 n_13 n_17 n_21 ⊢; first | done | omega))) | (refine ⟨fun _ => rfl, fun k hk ek => ?_⟩; exfalso; have hi := ix_in hk (by omega) ek; (simp only [decide_eq_true_eq, decide_eq_false_iff_not, Bool.and_eq_true, Bool.and_eq_false_iff, Bool.or_eq_true, Bool.or_eq_false_iff, Bool.not_eq_true, Bool.not_eq_false, ne_eq, not_and, not_or, tog_t, tog_f, ahd_t, ahd_f, isoB_t, isoB_f, ixB_t, ixB_f, vOK_t, vOK_f, wOK_t, wOK_f, tn4, tI5, Int32.lt_iff_toInt_lt, Int32.le_iff_toInt_le, ← Int32.toInt_inj, tI0, tI1, tI2, tI3, tI4, tI6, tI14, tI59, tI60, tI127, tI1000, tI100000, tIm1, tIm2, tIm3, tIm4, tIbig] at hi c_3 n_5 n_7 n_9 n_11 n_13 n_17 n_21; first | done | omega)), ht⟩) (fun q h => by cases h) dX7_of_126
  · skip
    have c_3 : (ixB x n) = false := b2i_0.mp c_3
    refine lv_bipush (v := (-2)) hx hb dX7_of_11 (by decide) ?_
    exact W.iret (v := (-2)) hx hb hr (fun t ht _ => ⟨_, rfl, by first | (refine ⟨fun _ => rfl, fun k hk ek => ?_⟩; exfalso; exact no_tf (ix_in hk (by omega) ek) (by assumption)) | (refine ⟨fun _ => rfl, fun k hk ek => ?_⟩; exact sw7_o (by (simp only [decide_eq_true_eq, decide_eq_false_iff_not, Bool.and_eq_true, Bool.and_eq_false_iff, Bool.or_eq_true, Bool.or_eq_false_iff, Bool.not_eq_true, Bool.not_eq_false, ne_eq, not_and, not_or, tog_t, tog_f, ahd_t, ahd_f, isoB_t, isoB_f, ixB_t, ixB_f, vOK_t, vOK_f, wOK_t, wOK_f, tn4, tI5, Int32.lt_iff_toInt_lt, Int32.le_iff_toInt_le, ← Int32.toInt_inj, tI0, tI1, tI2, tI3, tI4, tI6, tI14, tI59, tI60, tI127, tI1000, tI100000, tIm1, tIm2, tIm3, tIm4, tIbig] at c_3 ⊢; first | done | omega))) | (refine ⟨fun _ => rfl, fun k hk ek => ?_⟩; exfalso; have hi := ix_in hk (by omega) ek; (simp only [decide_eq_true_eq, decide_eq_false_iff_not, Bool.and_eq_true, Bool.and_eq_false_iff, Bool.or_eq_true, Bool.or_eq_false_iff, Bool.not_eq_true, Bool.not_eq_false, ne_eq, not_and, not_or, tog_t, tog_f, ahd_t, ahd_f, isoB_t, isoB_f, ixB_t, ixB_f, vOK_t, vOK_f, wOK_t, wOK_f, tn4, tI5, Int32.lt_iff_toInt_lt, Int32.le_iff_toInt_le, ← Int32.toInt_inj, tI0, tI1, tI2, tI3, tI4, tI6, tI14, tI59, tI60, tI127, tI1000, tI100000, tIm1, tIm2, tIm3, tIm4, tIbig] at hi c_3; first | done | omega)), ht⟩) (fun q h => by cases h) dX7_of_13

set_option maxHeartbeats 1000000 in
set_option maxRecDepth 100000 in
theorem c_X7_ranked (l : Launch) (dC : Nat → ClassId) (dI : Nat → Nat → Nat) (cI : ClassId) (b : Nat → Nat) (n : Nat) (F T P V : Nat → Int32) (o kr : Nat → Nat) (Wt : Nat → Int32) (rc : Int32) (RB RE : Nat → Int32) (p1 p2 : Int32) (LA : Nat → Int32) (vs : Int32) (PL : Nat → Int32) (kn kl : Nat) (KN CH : Nat → Int32) (hn : n ≤ 60) (ho : ∀ j, o j < 60) (x : Int32) : Met l yX7_ranked wsX7_ranked ({ frames := 1, cells := 0, slots := 0, locals := 22 } : Room) (va_Pc [.ref (b 0), .int x] (fun U => va_P (dC, dI) vwCl (xW cI b (nI n) F T P V (fun j => nI (o j)) (fun j => nI (kr j)) Wt rc RB RE p1 p2 LA vs PL kn kl KN CH) U.heap ∧ va_K (dC, dI) vwCl [(cI, .int)] U)) (vp_Si (fun r => (ixB x n = false → r = -2) ∧ (∀ j, j < n → x = nI j → r = nI (o j)))) 0 0 (fun _ => False) := by
  refine Met.ofW (cc := cX7_ranked) (maxL := 2) (ret := (some .int)) (by decide) rfl ?_
  intro p e s m args below meth c s₁ B hml hv
  obtain ⟨rfl, hP, hK⟩ := hv
  have hx := B.exec
  have hb := B.bytes
  have hr := B.returns
  have hts := atoms_spec (ws := wsX7_ranked) B.pre
  have hown : s.vm.findClass RX7 = some m.cls := findClass_of_methodNamed B.named
  have hlocks := B.notSynchronized
  have i_X7 : ∀ w ∈ u_ws RX7 TX7 7, w ∈ wsX7_ranked := by decide +kernel
  have i_X6 : ∀ w ∈ u_ws RX6 TX6 7, w ∈ wsX7_ranked := by decide +kernel
  have k_0 := hts (.fieldLink RX7 10 "VoiceRows" "score" "LVoiceRows$Score;") (by decide +kernel)
  have k_1 := hts (.fieldLink RX7 74 "VoiceRows$Score" "count" "I") (by decide +kernel)
  have k_2 := hts (.fieldLink RX7 144 "VoiceRows$Score" "order" "[I") (by decide +kernel)
  have hl := lv_entry ([.ref (b 0), .int x]) (n := 2) (Nat.le_of_ble_eq_true rfl)
  rw [lg_entry_eq]
  generalize (lg_sl ([.ref (b 0), .int x]) ++ List.replicate (2 - (lg_sl ([.ref (b 0), .int x])).length) Slot.unset).toArray = ls at hl ⊢
  have hl : lv_has ls 2 [(0, .ref (b 0)), (1, .int x)] := hl
  refine lv_iload_n hx hb dX7_ranked_0 rfl (lv_at hl 1 rfl) ?_
  refine lv_iconst (v := 0) hx hb dX7_ranked_1 (by decide) ?_
  refine lv_aload_n hx hb dX7_ranked_2 rfl (lv_at hl 0 rfl) ?_
  refine va_get (D := (dC, dI)) (ci := 7) (v := .ref (b 1)) (C := RX7) (T := TX7) (N := 7) hx hb hts i_X7 hown hK hP 0 rfl rfl 0 (by decide) k_0 (fun _ h9 => h9) rfl dX7_ranked_3 ?_
  refine va_get (D := (dC, dI)) (ci := 6) (v := .int (nI n)) (C := RX6) (T := TX6) (N := 7) hx hb hts i_X6 hown hK hP 1 rfl rfl 0 (by decide) k_1 (fun _ h9 => h9) rfl dX7_ranked_6 ?_
  refine lv_iconst (v := 1) hx hb dX7_ranked_9 (by decide) ?_
  refine lv_isub hx hb dX7_ranked_10 ?_
  refine vp_callSi (gk_run (va_runS (As := [.int x, .int 0, .int ((nI n) - 1)]) (rest := []) ⟨hx, hb, hml, hown, hts⟩ (c_X7_within l x 0 (nI n - 1)) (gk_cwS 3 hts gX7_ranked_X7_within rfl rfl rfl (by decide +kernel) ⟨Nat.le_of_ble_eq_true rfl, Nat.le_of_ble_eq_true rfl⟩) ⟨gk_fbT, fun U hU hW => ⟨rfl, trivial⟩⟩ rfl rfl hl.1 rfl (lv_room (Nat.le_of_ble_eq_true rfl)) dX7_ranked_11 ⟨Nat.zero_le _, Nat.zero_le _⟩)) (fun r_1 er_1 => ?_)
  subst er_1
  refine gk_top (y := b2i (ixB x n)) (has_b (by omega)) ?_
  refine lv_if_eq (tgt := 29) hx hb dX7_ranked_14 (by decide) (fun c_2 => ?_) (fun c_2 => ?_)
  · skip
    have c_2 : (ixB x n) = false := b2i_0.mp c_2
    refine lv_bipush (v := (-2)) hx hb dX7_ranked_29 (by decide) ?_
    exact W.iret (v := (-2)) hx hb hr (fun t ht _ => ⟨_, rfl, by refine ⟨fun _ => rfl, fun k hk ek => ?_⟩; exfalso; have hi := ix_in hk (by omega) ek; first | exact no_tf hi (by assumption) | (simp only [decide_eq_true_eq, decide_eq_false_iff_not, Bool.and_eq_true, Bool.and_eq_false_iff, Bool.or_eq_true, Bool.or_eq_false_iff, Bool.not_eq_true, Bool.not_eq_false, ne_eq, not_and, not_or, tog_t, tog_f, ahd_t, ahd_f, isoB_t, isoB_f, ixB_t, ixB_f, vOK_t, vOK_f, wOK_t, wOK_f, tn4, tI5, Int32.lt_iff_toInt_lt, Int32.le_iff_toInt_le, ← Int32.toInt_inj, tI0, tI1, tI2, tI3, tI4, tI6, tI14, tI59, tI60, tI127, tI1000, tI100000, tIm1, tIm2, tIm3, tIm4, tIbig] at hi c_2; first | done | omega), ht⟩) (fun q h => by cases h) dX7_ranked_31
  · skip
    have c_2 : (ixB x n) = true := b2i_1.mp c_2
    obtain ⟨j, hj, ej⟩ : ∃ j, j < n ∧ x = nI j := ix_of (by omega) (by (simp only [decide_eq_true_eq, decide_eq_false_iff_not, Bool.and_eq_true, Bool.and_eq_false_iff, Bool.or_eq_true, Bool.or_eq_false_iff, Bool.not_eq_true, Bool.not_eq_false, ne_eq, not_and, not_or, tog_t, tog_f, ahd_t, ahd_f, isoB_t, isoB_f, ixB_t, ixB_f, vOK_t, vOK_f, wOK_t, wOK_f, tn4, tI5, Int32.lt_iff_toInt_lt, Int32.le_iff_toInt_le, ← Int32.toInt_inj, tI0, tI1, tI2, tI3, tI4, tI6, tI14, tI59, tI60, tI127, tI1000, tI100000, tIm1, tIm2, tIm3, tIm4, tIbig] at c_2 ⊢; first | done | omega))
    refine lv_aload_n hx hb dX7_ranked_17 rfl (lv_at hl 0 rfl) ?_
    refine va_get (D := (dC, dI)) (ci := 7) (v := .ref (b 1)) (C := RX7) (T := TX7) (N := 7) hx hb hts i_X7 hown hK hP 0 rfl rfl 0 (by decide) k_0 (fun _ h9 => h9) rfl dX7_ranked_18 ?_
    refine va_get (D := (dC, dI)) (ci := 6) (v := .ref (b 6)) (C := RX6) (T := TX6) (N := 7) hx hb hts i_X6 hown hK hP 1 rfl rfl 5 (by decide) k_2 (fun _ h9 => h9) rfl dX7_ranked_21 ?_
    refine lv_iload_n hx hb dX7_ranked_24 rfl (lv_at hl 1 rfl) ?_
    refine gk_top (y := nI j) (ej) ?_
    refine gk_ld hx hb hK hP 6 0 rfl rfl j (by omega) (by omega) (v := nI (o j)) (rfl) dX7_ranked_25 ?_
    refine lv_goto (tgt := 31) hx hb dX7_ranked_26 (by decide) ?_
    exact W.iret (v := nI (o j)) hx hb hr (fun t ht _ => ⟨_, rfl, by refine ⟨fun h => no_tf (ix_in hj (by omega) ej) h, fun k hk ek => ?_⟩; obtain rfl := nI_j hj hk (by omega) ej ek; rfl, ht⟩) (fun q h => by cases h) dX7_ranked_31

set_option maxHeartbeats 1000000 in
set_option maxRecDepth 100000 in
theorem c_X8_ranked (l : Launch) (dC : Nat → ClassId) (dI : Nat → Nat → Nat) (cI : ClassId) (a : Nat → Nat) (n : Nat) (F T P V Wt : Nat → Int32) (o : Nat → Nat) (G L R : Nat → Int32) (hn : n ≤ 60) (ho : ∀ j, o j < 60) (x : Int32) : Met l yX8_ranked wsX8_ranked ({ frames := 0, cells := 0, slots := 0, locals := 0 } : Room) (va_Pc [.ref (a 0), .int x] (fun U => va_P (dC, dI) vwCl (mW cI a (nI n) F T P V Wt (fun j => nI (o j)) G L R) U.heap ∧ va_K (dC, dI) vwCl [(cI, .int)] U)) (vp_Si (fun r => (ixB x n = false → r = -2) ∧ (∀ j, j < n → x = nI j → r = nI (o j)))) 0 0 (fun _ => False) := by
  refine Met.ofW (cc := cX8_ranked) (maxL := 2) (ret := (some .int)) (by decide) rfl ?_
  intro p e s m args below meth c s₁ B hml hv
  obtain ⟨rfl, hP, hK⟩ := hv
  have hx := B.exec
  have hb := B.bytes
  have hr := B.returns
  have hts := atoms_spec (ws := wsX8_ranked) B.pre
  have hown : s.vm.findClass RX8 = some m.cls := findClass_of_methodNamed B.named
  have hlocks := B.notSynchronized
  have i_X8 : ∀ w ∈ u_ws RX8 TX8 10, w ∈ wsX8_ranked := by decide +kernel
  have k_0 := hts (.fieldLink RX8 38 "VoiceRowsModel" "notes" "I") (by decide +kernel)
  have k_1 := hts (.fieldLink RX8 25 "VoiceRowsModel" "order" "[I") (by decide +kernel)
  have hl := lv_entry ([.ref (a 0), .int x]) (n := 2) (Nat.le_of_ble_eq_true rfl)
  rw [lg_entry_eq]
  generalize (lg_sl ([.ref (a 0), .int x]) ++ List.replicate (2 - (lg_sl ([.ref (a 0), .int x])).length) Slot.unset).toArray = ls at hl ⊢
  have hl : lv_has ls 2 [(0, .ref (a 0)), (1, .int x)] := hl
  refine lv_iload_n hx hb dX8_ranked_0 rfl (lv_at hl 1 rfl) ?_
  refine lv_if_lt (tgt := 12) hx hb dX8_ranked_1 (by decide) (fun c_1 => ?_) (fun c_1 => ?_)
  · skip
    refine lv_bipush (v := (-2)) hx hb dX8_ranked_12 (by decide) ?_
    refine lv_goto (tgt := 23) hx hb dX8_ranked_14 (by decide) ?_
    exact W.iret (v := (-2)) hx hb hr (fun t ht _ => ⟨_, rfl, by refine ⟨fun _ => rfl, fun k hk ek => ?_⟩; exfalso; have hi := ix_in hk (by omega) ek; first | exact no_tf hi (by assumption) | (simp only [decide_eq_true_eq, decide_eq_false_iff_not, Bool.and_eq_true, Bool.and_eq_false_iff, Bool.or_eq_true, Bool.or_eq_false_iff, Bool.not_eq_true, Bool.not_eq_false, ne_eq, not_and, not_or, tog_t, tog_f, ahd_t, ahd_f, isoB_t, isoB_f, ixB_t, ixB_f, vOK_t, vOK_f, wOK_t, wOK_f, tn4, tI5, Int32.lt_iff_toInt_lt, Int32.le_iff_toInt_le, ← Int32.toInt_inj, tI0, tI1, tI2, tI3, tI4, tI6, tI14, tI59, tI60, tI127, tI1000, tI100000, tIm1, tIm2, tIm3, tIm4, tIbig] at hi c_1; first | done | omega), ht⟩) (fun q h => by cases h) dX8_ranked_23
  · skip
    refine lv_iload_n hx hb dX8_ranked_4 rfl (lv_at hl 1 rfl) ?_
    refine lv_aload_n hx hb dX8_ranked_5 rfl (lv_at hl 0 rfl) ?_
    refine va_get (D := (dC, dI)) (ci := 8) (v := .int (nI n)) (C := RX8) (T := TX8) (N := 10) hx hb hts i_X8 hown hK hP 0 rfl rfl 4 (by decide) k_0 (fun _ h9 => h9) rfl dX8_ranked_6 ?_
    refine lv_icmp_lt (tgt := 17) hx hb dX8_ranked_9 (by decide) (fun c_2 => ?_) (fun c_2 => ?_)
    · skip
      obtain ⟨j, hj, ej⟩ : ∃ j, j < n ∧ x = nI j := ix_of (by omega) (by (simp only [decide_eq_true_eq, decide_eq_false_iff_not, Bool.and_eq_true, Bool.and_eq_false_iff, Bool.or_eq_true, Bool.or_eq_false_iff, Bool.not_eq_true, Bool.not_eq_false, ne_eq, not_and, not_or, tog_t, tog_f, ahd_t, ahd_f, isoB_t, isoB_f, ixB_t, ixB_f, vOK_t, vOK_f, wOK_t, wOK_f, tn4, tI5, Int32.lt_iff_toInt_lt, Int32.le_iff_toInt_le, ← Int32.toInt_inj, tI0, tI1, tI2, tI3, tI4, tI6, tI14, tI59, tI60, tI127, tI1000, tI100000, tIm1, tIm2, tIm3, tIm4, tIbig] at c_1 c_2 ⊢; first | done | omega))
      refine lv_aload_n hx hb dX8_ranked_17 rfl (lv_at hl 0 rfl) ?_
      refine va_get (D := (dC, dI)) (ci := 8) (v := .ref (a 6)) (C := RX8) (T := TX8) (N := 10) hx hb hts i_X8 hown hK hP 0 rfl rfl 6 (by decide) k_1 (fun _ h9 => h9) rfl dX8_ranked_18 ?_
      refine lv_iload_n hx hb dX8_ranked_21 rfl (lv_at hl 1 rfl) ?_
      refine gk_top (y := nI j) (ej) ?_
      refine gk_ld hx hb hK hP 6 0 rfl rfl j (by omega) (by omega) (v := nI (o j)) (rfl) dX8_ranked_22 ?_
      exact W.iret (v := nI (o j)) hx hb hr (fun t ht _ => ⟨_, rfl, by refine ⟨fun h => no_tf (ix_in hj (by omega) ej) h, fun k hk ek => ?_⟩; obtain rfl := nI_j hj hk (by omega) ej ek; rfl, ht⟩) (fun q h => by cases h) dX8_ranked_23
    · skip
      refine lv_bipush (v := (-2)) hx hb dX8_ranked_12 (by decide) ?_
      refine lv_goto (tgt := 23) hx hb dX8_ranked_14 (by decide) ?_
      exact W.iret (v := (-2)) hx hb hr (fun t ht _ => ⟨_, rfl, by refine ⟨fun _ => rfl, fun k hk ek => ?_⟩; exfalso; have hi := ix_in hk (by omega) ek; first | exact no_tf hi (by assumption) | (simp only [decide_eq_true_eq, decide_eq_false_iff_not, Bool.and_eq_true, Bool.and_eq_false_iff, Bool.or_eq_true, Bool.or_eq_false_iff, Bool.not_eq_true, Bool.not_eq_false, ne_eq, not_and, not_or, tog_t, tog_f, ahd_t, ahd_f, isoB_t, isoB_f, ixB_t, ixB_f, vOK_t, vOK_f, wOK_t, wOK_f, tn4, tI5, Int32.lt_iff_toInt_lt, Int32.le_iff_toInt_le, ← Int32.toInt_inj, tI0, tI1, tI2, tI3, tI4, tI6, tI14, tI59, tI60, tI127, tI1000, tI100000, tIm1, tIm2, tIm3, tIm4, tIbig] at hi c_1 c_2; first | done | omega), ht⟩) (fun q h => by cases h) dX8_ranked_23

set_option maxHeartbeats 1000000 in
set_option maxRecDepth 100000 in
theorem c_X7_sounding (l : Launch) (dC : Nat → ClassId) (dI : Nat → Nat → Nat) (cI : ClassId) (b : Nat → Nat) (n : Nat) (F T P V : Nat → Int32) (o kr : Nat → Nat) (Wt : Nat → Int32) (rc : Int32) (RB RE : Nat → Int32) (p1 p2 : Int32) (LA : Nat → Int32) (vs : Int32) (PL : Nat → Int32) (kn kl : Nat) (KN CH : Nat → Int32) (hn : n ≤ 60) (ho : ∀ j, o j < 60) (tm : Int32) : Met l yX7_sounding wsX7_sounding ({ frames := 1, cells := 0, slots := 0, locals := 23 } : Room) (va_Pc [.ref (b 0), .int tm] (fun U => va_P (dC, dI) vwCl (xW cI b (nI n) F T P V (fun j => nI (o j)) (fun j => nI (kr j)) Wt rc RB RE p1 p2 LA vs PL kn kl KN CH) U.heap ∧ va_K (dC, dI) vwCl [(cI, .int)] U)) (vp_Si (fun r => r = if 0 ≤ tm ∧ tm ≤ 100000 then nI (atN F T n tm) else -2)) 0 0 (fun _ => False) := by
  refine Met.ofW (cc := cX7_sounding) (maxL := 2) (ret := (some .int)) (by decide) rfl ?_
  intro p e s m args below meth c s₁ B hml hv
  obtain ⟨rfl, hP, hK⟩ := hv
  have hx := B.exec
  have hb := B.bytes
  have hr := B.returns
  have hts := atoms_spec (ws := wsX7_sounding) B.pre
  have hown : s.vm.findClass RX7 = some m.cls := findClass_of_methodNamed B.named
  have hlocks := B.notSynchronized
  have i_X7 : ∀ w ∈ u_ws RX7 TX7 7, w ∈ wsX7_sounding := by decide +kernel
  have k_0 := hts (.constant RX7 147 (100000)) (by decide +kernel)
  have k_1 := hts (.fieldLink RX7 10 "VoiceRows" "score" "LVoiceRows$Score;") (by decide +kernel)
  have hl := lv_entry ([.ref (b 0), .int tm]) (n := 2) (Nat.le_of_ble_eq_true rfl)
  rw [lg_entry_eq]
  generalize (lg_sl ([.ref (b 0), .int tm]) ++ List.replicate (2 - (lg_sl ([.ref (b 0), .int tm])).length) Slot.unset).toArray = ls at hl ⊢
  have hl : lv_has ls 2 [(0, .ref (b 0)), (1, .int tm)] := hl
  refine lv_iload_n hx hb dX7_sounding_0 rfl (lv_at hl 1 rfl) ?_
  refine lv_iconst (v := 0) hx hb dX7_sounding_1 (by decide) ?_
  refine lv_ldc (v := 100000) hx hb hown k_0 dX7_sounding_2 ?_
  refine vp_callSi (gk_run (va_runS (As := [.int tm, .int 0, .int 100000]) (rest := []) ⟨hx, hb, hml, hown, hts⟩ (c_X7_within l tm 0 100000) (gk_cwS 3 hts gX7_sounding_X7_within rfl rfl rfl (by decide +kernel) ⟨Nat.le_of_ble_eq_true rfl, Nat.le_of_ble_eq_true rfl⟩) ⟨gk_fbT, fun U hU hW => ⟨rfl, trivial⟩⟩ rfl rfl hl.1 rfl (lv_room (Nat.le_of_ble_eq_true rfl)) dX7_sounding_4 ⟨Nat.zero_le _, Nat.zero_le _⟩)) (fun r_1 er_1 => ?_)
  subst er_1
  refine lv_if_eq (tgt := 21) hx hb dX7_sounding_7 (by decide) (fun c_2 => ?_) (fun c_2 => ?_)
  · skip
    have c_2 : (decide (0 ≤ tm) && decide (tm ≤ 100000)) = false := b2i_0.mp c_2
    refine lv_bipush (v := (-2)) hx hb dX7_sounding_21 (by decide) ?_
    exact W.iret (v := (-2)) hx hb hr (fun t ht _ => ⟨_, rfl, by first | exact ite_t (by (simp only [decide_eq_true_eq, decide_eq_false_iff_not, Bool.and_eq_true, Bool.and_eq_false_iff, Bool.or_eq_true, Bool.or_eq_false_iff, Bool.not_eq_true, Bool.not_eq_false, ne_eq, not_and, not_or, tog_t, tog_f, ahd_t, ahd_f, isoB_t, isoB_f, ixB_t, ixB_f, vOK_t, vOK_f, wOK_t, wOK_f, tn4, tI5, Int32.lt_iff_toInt_lt, Int32.le_iff_toInt_le, ← Int32.toInt_inj, tI0, tI1, tI2, tI3, tI4, tI6, tI14, tI59, tI60, tI127, tI1000, tI100000, tIm1, tIm2, tIm3, tIm4, tIbig] at c_2 ⊢; first | done | omega)) rfl | exact ite_f (by (simp only [decide_eq_true_eq, decide_eq_false_iff_not, Bool.and_eq_true, Bool.and_eq_false_iff, Bool.or_eq_true, Bool.or_eq_false_iff, Bool.not_eq_true, Bool.not_eq_false, ne_eq, not_and, not_or, tog_t, tog_f, ahd_t, ahd_f, isoB_t, isoB_f, ixB_t, ixB_f, vOK_t, vOK_f, wOK_t, wOK_f, tn4, tI5, Int32.lt_iff_toInt_lt, Int32.le_iff_toInt_le, ← Int32.toInt_inj, tI0, tI1, tI2, tI3, tI4, tI6, tI14, tI59, tI60, tI127, tI1000, tI100000, tIm1, tIm2, tIm3, tIm4, tIbig] at c_2 ⊢; first | done | omega)) rfl, ht⟩) (fun q h => by cases h) dX7_sounding_23
  · skip
    have c_2 : (decide (0 ≤ tm) && decide (tm ≤ 100000)) = true := b2i_1.mp c_2
    refine lv_aload_n hx hb dX7_sounding_10 rfl (lv_at hl 0 rfl) ?_
    refine va_get (D := (dC, dI)) (ci := 7) (v := .ref (b 1)) (C := RX7) (T := TX7) (N := 7) hx hb hts i_X7 hown hK hP 0 rfl rfl 0 (by decide) k_1 (fun _ h9 => h9) rfl dX7_sounding_11 ?_
    refine lv_iload_n hx hb dX7_sounding_14 rfl (lv_at hl 1 rfl) ?_
    have hPc_3 := hP.sub (ws' := (sW cI b (nI n) F T P V (fun j => nI (o j)) (fun j => nI (kr j)))) [1, 2, 3, 4, 5, 6, 7] rfl
    refine vp_callSi (gk_run (va_runV (As := [.int tm]) (rest := []) ⟨hx, hb, hml, hown, hts⟩ (c_X6_soundingAt l dC dI cI b n F T P V (fun j => nI (o j)) (fun j => nI (kr j)) hn tm) (cwV 1 hts gX7_sounding_X6_soundingAt rfl rfl rfl (by decide +kernel) ⟨Nat.le_of_ble_eq_true rfl, Nat.le_of_ble_eq_true rfl⟩) ⟨gk_fb, va_recv hK hPc_3 (ci := 6) (q0 := 0) rfl rfl, fun U hU hW => ⟨rfl, by rw [hU]; exact hPc_3, va_K.moved hW.alike hK⟩⟩ rfl rfl hl.1 rfl (lv_room (Nat.le_of_ble_eq_true rfl)) dX7_sounding_15 ⟨Nat.zero_le _, Nat.zero_le _⟩)) (fun r_4 er_4 => ?_)
    subst er_4
    refine lv_goto (tgt := 23) hx hb dX7_sounding_18 (by decide) ?_
    exact W.iret (v := nI (atN F T n tm)) hx hb hr (fun t ht _ => ⟨_, rfl, by first | exact ite_t (by (simp only [decide_eq_true_eq, decide_eq_false_iff_not, Bool.and_eq_true, Bool.and_eq_false_iff, Bool.or_eq_true, Bool.or_eq_false_iff, Bool.not_eq_true, Bool.not_eq_false, ne_eq, not_and, not_or, tog_t, tog_f, ahd_t, ahd_f, isoB_t, isoB_f, ixB_t, ixB_f, vOK_t, vOK_f, wOK_t, wOK_f, tn4, tI5, Int32.lt_iff_toInt_lt, Int32.le_iff_toInt_le, ← Int32.toInt_inj, tI0, tI1, tI2, tI3, tI4, tI6, tI14, tI59, tI60, tI127, tI1000, tI100000, tIm1, tIm2, tIm3, tIm4, tIbig] at c_2 ⊢; first | done | omega)) rfl | exact ite_f (by (simp only [decide_eq_true_eq, decide_eq_false_iff_not, Bool.and_eq_true, Bool.and_eq_false_iff, Bool.or_eq_true, Bool.or_eq_false_iff, Bool.not_eq_true, Bool.not_eq_false, ne_eq, not_and, not_or, tog_t, tog_f, ahd_t, ahd_f, isoB_t, isoB_f, ixB_t, ixB_f, vOK_t, vOK_f, wOK_t, wOK_f, tn4, tI5, Int32.lt_iff_toInt_lt, Int32.le_iff_toInt_le, ← Int32.toInt_inj, tI0, tI1, tI2, tI3, tI4, tI6, tI14, tI59, tI60, tI127, tI1000, tI100000, tIm1, tIm2, tIm3, tIm4, tIbig] at c_2 ⊢; first | done | omega)) rfl, ht⟩) (fun q h => by cases h) dX7_sounding_23

set_option maxHeartbeats 1000000 in
set_option maxRecDepth 100000 in
theorem c_X8_sounding (l : Launch) (dC : Nat → ClassId) (dI : Nat → Nat → Nat) (cI : ClassId) (a : Nat → Nat) (n : Nat) (F T P V Wt : Nat → Int32) (o : Nat → Nat) (G L R : Nat → Int32) (hn : n ≤ 60) (ho : ∀ j, o j < 60) (tm : Int32) : Met l yX8_sounding wsX8_sounding ({ frames := 1, cells := 0, slots := 0, locals := 23 } : Room) (va_Pc [.ref (a 0), .int tm] (fun U => va_P (dC, dI) vwCl (mW cI a (nI n) F T P V Wt (fun j => nI (o j)) G L R) U.heap ∧ va_K (dC, dI) vwCl [(cI, .int)] U)) (vp_Si (fun r => r = if 0 ≤ tm ∧ tm ≤ 100000 then nI (atN F T n tm) else -2)) 0 0 (fun _ => False) := by
  refine Met.ofW (cc := cX8_sounding) (maxL := 2) (ret := (some .int)) (by decide) rfl ?_
  intro p e s m args below meth c s₁ B hml hv
  obtain ⟨rfl, hP, hK⟩ := hv
  have hx := B.exec
  have hb := B.bytes
  have hr := B.returns
  have hts := atoms_spec (ws := wsX8_sounding) B.pre
  have hown : s.vm.findClass RX8 = some m.cls := findClass_of_methodNamed B.named
  have hlocks := B.notSynchronized
  have k_0 := hts (.constant RX8 42 (100000)) (by decide +kernel)
  have hl := lv_entry ([.ref (a 0), .int tm]) (n := 2) (Nat.le_of_ble_eq_true rfl)
  rw [lg_entry_eq]
  generalize (lg_sl ([.ref (a 0), .int tm]) ++ List.replicate (2 - (lg_sl ([.ref (a 0), .int tm])).length) Slot.unset).toArray = ls at hl ⊢
  have hl : lv_has ls 2 [(0, .ref (a 0)), (1, .int tm)] := hl
  refine lv_iload_n hx hb dX8_sounding_0 rfl (lv_at hl 1 rfl) ?_
  refine lv_if_lt (tgt := 10) hx hb dX8_sounding_1 (by decide) (fun c_1 => ?_) (fun c_1 => ?_)
  · skip
    refine lv_bipush (v := (-2)) hx hb dX8_sounding_10 (by decide) ?_
    refine lv_goto (tgt := 20) hx hb dX8_sounding_12 (by decide) ?_
    exact W.iret (v := (-2)) hx hb hr (fun t ht _ => ⟨_, rfl, by first | exact ite_t (by (simp only [decide_eq_true_eq, decide_eq_false_iff_not, Bool.and_eq_true, Bool.and_eq_false_iff, Bool.or_eq_true, Bool.or_eq_false_iff, Bool.not_eq_true, Bool.not_eq_false, ne_eq, not_and, not_or, tog_t, tog_f, ahd_t, ahd_f, isoB_t, isoB_f, ixB_t, ixB_f, vOK_t, vOK_f, wOK_t, wOK_f, tn4, tI5, Int32.lt_iff_toInt_lt, Int32.le_iff_toInt_le, ← Int32.toInt_inj, tI0, tI1, tI2, tI3, tI4, tI6, tI14, tI59, tI60, tI127, tI1000, tI100000, tIm1, tIm2, tIm3, tIm4, tIbig] at c_1 ⊢; first | done | omega)) rfl | exact ite_f (by (simp only [decide_eq_true_eq, decide_eq_false_iff_not, Bool.and_eq_true, Bool.and_eq_false_iff, Bool.or_eq_true, Bool.or_eq_false_iff, Bool.not_eq_true, Bool.not_eq_false, ne_eq, not_and, not_or, tog_t, tog_f, ahd_t, ahd_f, isoB_t, isoB_f, ixB_t, ixB_f, vOK_t, vOK_f, wOK_t, wOK_f, tn4, tI5, Int32.lt_iff_toInt_lt, Int32.le_iff_toInt_le, ← Int32.toInt_inj, tI0, tI1, tI2, tI3, tI4, tI6, tI14, tI59, tI60, tI127, tI1000, tI100000, tIm1, tIm2, tIm3, tIm4, tIbig] at c_1 ⊢; first | done | omega)) rfl, ht⟩) (fun q h => by cases h) dX8_sounding_20
  · skip
    refine lv_iload_n hx hb dX8_sounding_4 rfl (lv_at hl 1 rfl) ?_
    refine lv_ldc (v := 100000) hx hb hown k_0 dX8_sounding_5 ?_
    refine lv_icmp_le (tgt := 15) hx hb dX8_sounding_7 (by decide) (fun c_2 => ?_) (fun c_2 => ?_)
    · skip
      refine lv_aload_n hx hb dX8_sounding_15 rfl (lv_at hl 0 rfl) ?_
      refine lv_iload_n hx hb dX8_sounding_16 rfl (lv_at hl 1 rfl) ?_
      refine vp_callSi (gk_run (va_runV (As := [.int tm]) (rest := []) ⟨hx, hb, hml, hown, hts⟩ (c_X8_at l dC dI cI a n F T P V Wt (fun j => nI (o j)) G L R hn tm) (cwV 1 hts gX8_sounding_X8_at rfl rfl rfl (by decide +kernel) ⟨Nat.le_of_ble_eq_true rfl, Nat.le_of_ble_eq_true rfl⟩) ⟨gk_fb, va_recv hK hP (ci := 8) (q0 := 0) rfl rfl, fun U hU hW => ⟨rfl, by rw [hU]; exact hP, va_K.moved hW.alike hK⟩⟩ rfl rfl hl.1 rfl (lv_room (Nat.le_of_ble_eq_true rfl)) dX8_sounding_17 ⟨Nat.zero_le _, Nat.zero_le _⟩)) (fun r_3 er_3 => ?_)
      subst er_3
      exact W.iret (v := nI (atN F T n tm)) hx hb hr (fun t ht _ => ⟨_, rfl, by first | exact ite_t (by (simp only [decide_eq_true_eq, decide_eq_false_iff_not, Bool.and_eq_true, Bool.and_eq_false_iff, Bool.or_eq_true, Bool.or_eq_false_iff, Bool.not_eq_true, Bool.not_eq_false, ne_eq, not_and, not_or, tog_t, tog_f, ahd_t, ahd_f, isoB_t, isoB_f, ixB_t, ixB_f, vOK_t, vOK_f, wOK_t, wOK_f, tn4, tI5, Int32.lt_iff_toInt_lt, Int32.le_iff_toInt_le, ← Int32.toInt_inj, tI0, tI1, tI2, tI3, tI4, tI6, tI14, tI59, tI60, tI127, tI1000, tI100000, tIm1, tIm2, tIm3, tIm4, tIbig] at c_1 c_2 ⊢; first | done | omega)) rfl | exact ite_f (by (simp only [decide_eq_true_eq, decide_eq_false_iff_not, Bool.and_eq_true, Bool.and_eq_false_iff, Bool.or_eq_true, Bool.or_eq_false_iff, Bool.not_eq_true, Bool.not_eq_false, ne_eq, not_and, not_or, tog_t, tog_f, ahd_t, ahd_f, isoB_t, isoB_f, ixB_t, ixB_f, vOK_t, vOK_f, wOK_t, wOK_f, tn4, tI5, Int32.lt_iff_toInt_lt, Int32.le_iff_toInt_le, ← Int32.toInt_inj, tI0, tI1, tI2, tI3, tI4, tI6, tI14, tI59, tI60, tI127, tI1000, tI100000, tIm1, tIm2, tIm3, tIm4, tIbig] at c_1 c_2 ⊢; first | done | omega)) rfl, ht⟩) (fun q h => by cases h) dX8_sounding_20
    · skip
      refine lv_bipush (v := (-2)) hx hb dX8_sounding_10 (by decide) ?_
      refine lv_goto (tgt := 20) hx hb dX8_sounding_12 (by decide) ?_
      exact W.iret (v := (-2)) hx hb hr (fun t ht _ => ⟨_, rfl, by first | exact ite_t (by (simp only [decide_eq_true_eq, decide_eq_false_iff_not, Bool.and_eq_true, Bool.and_eq_false_iff, Bool.or_eq_true, Bool.or_eq_false_iff, Bool.not_eq_true, Bool.not_eq_false, ne_eq, not_and, not_or, tog_t, tog_f, ahd_t, ahd_f, isoB_t, isoB_f, ixB_t, ixB_f, vOK_t, vOK_f, wOK_t, wOK_f, tn4, tI5, Int32.lt_iff_toInt_lt, Int32.le_iff_toInt_le, ← Int32.toInt_inj, tI0, tI1, tI2, tI3, tI4, tI6, tI14, tI59, tI60, tI127, tI1000, tI100000, tIm1, tIm2, tIm3, tIm4, tIbig] at c_1 c_2 ⊢; first | done | omega)) rfl | exact ite_f (by (simp only [decide_eq_true_eq, decide_eq_false_iff_not, Bool.and_eq_true, Bool.and_eq_false_iff, Bool.or_eq_true, Bool.or_eq_false_iff, Bool.not_eq_true, Bool.not_eq_false, ne_eq, not_and, not_or, tog_t, tog_f, ahd_t, ahd_f, isoB_t, isoB_f, ixB_t, ixB_f, vOK_t, vOK_f, wOK_t, wOK_f, tn4, tI5, Int32.lt_iff_toInt_lt, Int32.le_iff_toInt_le, ← Int32.toInt_inj, tI0, tI1, tI2, tI3, tI4, tI6, tI14, tI59, tI60, tI127, tI1000, tI100000, tIm1, tIm2, tIm3, tIm4, tIbig] at c_1 c_2 ⊢; first | done | omega)) rfl, ht⟩) (fun q h => by cases h) dX8_sounding_20

set_option maxHeartbeats 1000000 in
set_option maxRecDepth 100000 in
theorem c_X7_needed (l : Launch) (dC : Nat → ClassId) (dI : Nat → Nat → Nat) (cI : ClassId) (b : Nat → Nat) (n : Nat) (F T P V : Nat → Int32) (o kr : Nat → Nat) (Wt : Nat → Int32) (rc : Int32) (RB RE : Nat → Int32) (p1 p2 : Int32) (LA : Nat → Int32) (vs : Int32) (PL : Nat → Int32) (kn kl : Nat) (KN CH : Nat → Int32) (hn : n ≤ 60) (ho : ∀ j, o j < 60)  : Met l yX7_needed wsX7_needed ({ frames := 2, cells := 0, slots := 0, locals := 45 } : Room) (va_Pc [.ref (b 0)] (fun U => va_P (dC, dI) vwCl (xW cI b (nI n) F T P V (fun j => nI (o j)) (fun j => nI (kr j)) Wt rc RB RE p1 p2 LA vs PL kn kl KN CH) U.heap ∧ va_K (dC, dI) vwCl [(cI, .int)] U)) (vp_Si (fun r => r = nI (ndN F T n))) 0 0 (fun _ => False) := by
  refine Met.ofW (cc := cX7_needed) (maxL := 1) (ret := (some .int)) (by decide) rfl ?_
  intro p e s m args below meth c s₁ B hml hv
  obtain ⟨rfl, hP, hK⟩ := hv
  have hx := B.exec
  have hb := B.bytes
  have hr := B.returns
  have hts := atoms_spec (ws := wsX7_needed) B.pre
  have hown : s.vm.findClass RX7 = some m.cls := findClass_of_methodNamed B.named
  have hlocks := B.notSynchronized
  have i_X7 : ∀ w ∈ u_ws RX7 TX7 7, w ∈ wsX7_needed := by decide +kernel
  have k_0 := hts (.fieldLink RX7 10 "VoiceRows" "score" "LVoiceRows$Score;") (by decide +kernel)
  have hl := lv_entry ([.ref (b 0)]) (n := 1) (Nat.le_of_ble_eq_true rfl)
  rw [lg_entry_eq]
  generalize (lg_sl ([.ref (b 0)]) ++ List.replicate (1 - (lg_sl ([.ref (b 0)])).length) Slot.unset).toArray = ls at hl ⊢
  have hl : lv_has ls 1 [(0, .ref (b 0))] := hl
  refine lv_aload_n hx hb dX7_needed_0 rfl (lv_at hl 0 rfl) ?_
  refine va_get (D := (dC, dI)) (ci := 7) (v := .ref (b 1)) (C := RX7) (T := TX7) (N := 7) hx hb hts i_X7 hown hK hP 0 rfl rfl 0 (by decide) k_0 (fun _ h9 => h9) rfl dX7_needed_1 ?_
  have hPc_1 := hP.sub (ws' := (sW cI b (nI n) F T P V (fun j => nI (o j)) (fun j => nI (kr j)))) [1, 2, 3, 4, 5, 6, 7] rfl
  refine vp_callSi (gk_run (va_runV (As := []) (rest := []) ⟨hx, hb, hml, hown, hts⟩ (c_X6_thickest l dC dI cI b n F T P V (fun j => nI (o j)) (fun j => nI (kr j)) hn) (cwV 0 hts gX7_needed_X6_thickest rfl rfl rfl (by decide +kernel) ⟨Nat.le_of_ble_eq_true rfl, Nat.le_of_ble_eq_true rfl⟩) ⟨gk_fb, va_recv hK hPc_1 (ci := 6) (q0 := 0) rfl rfl, fun U hU hW => ⟨rfl, by rw [hU]; exact hPc_1, va_K.moved hW.alike hK⟩⟩ rfl rfl hl.1 rfl (lv_room (Nat.le_of_ble_eq_true rfl)) dX7_needed_4 ⟨Nat.zero_le _, Nat.zero_le _⟩)) (fun r_2 er_2 => ?_)
  subst er_2
  exact W.iret (v := nI (ndN F T n)) hx hb hr (fun t ht _ => ⟨_, rfl, by rfl, ht⟩) (fun q h => by cases h) dX7_needed_7

set_option maxHeartbeats 1000000 in
set_option maxRecDepth 100000 in
theorem c_X7_voice (l : Launch) (dC : Nat → ClassId) (dI : Nat → Nat → Nat) (cI : ClassId) (b : Nat → Nat) (n : Nat) (F T P V : Nat → Int32) (o kr : Nat → Nat) (Wt : Nat → Int32) (rc : Int32) (RB RE : Nat → Int32) (p1 p2 : Int32) (LA : Nat → Int32) (vs : Int32) (PL : Nat → Int32) (kn kl : Nat) (KN CH : Nat → Int32) (hn : n ≤ 60) (ho : ∀ j, o j < 60) (v w : Int32) : Met l yX7_voice wsX7_voice ({ frames := 2, cells := 0, slots := 0, locals := 44 } : Room) (va_Pc [.ref (b 0), .int v, .int w] (fun U => va_P (dC, dI) vwCl (xW cI b (nI n) F T P V (fun j => nI (o j)) (fun j => nI (kr j)) Wt rc RB RE p1 p2 LA vs PL kn kl KN CH) U.heap ∧ va_K (dC, dI) vwCl [(cI, .int)] U)) (vp_Si (fun r => r = if 0 ≤ v ∧ v ≤ 3 then sw3 w (lowC V P v n) (hiV V P v n) (nI (szN V n v)) else -2)) 0 0 (fun _ => False) := by
  refine Met.ofW (cc := cX7_voice) (maxL := 3) (ret := (some .int)) (by decide) rfl ?_
  intro p e s m args below meth c s₁ B hml hv
  obtain ⟨rfl, hP, hK⟩ := hv
  have hx := B.exec
  have hb := B.bytes
  have hr := B.returns
  have hts := atoms_spec (ws := wsX7_voice) B.pre
  have hown : s.vm.findClass RX7 = some m.cls := findClass_of_methodNamed B.named
  have hlocks := B.notSynchronized
  have i_X7 : ∀ w ∈ u_ws RX7 TX7 7, w ∈ wsX7_voice := by decide +kernel
  have k_0 := hts (.fieldLink RX7 10 "VoiceRows" "score" "LVoiceRows$Score;") (by decide +kernel)
  have hl := lv_entry ([.ref (b 0), .int v, .int w]) (n := 3) (Nat.le_of_ble_eq_true rfl)
  rw [lg_entry_eq]
  generalize (lg_sl ([.ref (b 0), .int v, .int w]) ++ List.replicate (3 - (lg_sl ([.ref (b 0), .int v, .int w])).length) Slot.unset).toArray = ls at hl ⊢
  have hl : lv_has ls 3 [(0, .ref (b 0)), (1, .int v), (2, .int w)] := hl
  refine lv_iload_n hx hb dX7_voice_0 rfl (lv_at hl 1 rfl) ?_
  refine lv_iconst (v := 0) hx hb dX7_voice_1 (by decide) ?_
  refine lv_iconst (v := 3) hx hb dX7_voice_2 (by decide) ?_
  refine vp_callSi (gk_run (va_runS (As := [.int v, .int 0, .int 3]) (rest := []) ⟨hx, hb, hml, hown, hts⟩ (c_X7_within l v 0 3) (gk_cwS 3 hts gX7_voice_X7_within rfl rfl rfl (by decide +kernel) ⟨Nat.le_of_ble_eq_true rfl, Nat.le_of_ble_eq_true rfl⟩) ⟨gk_fbT, fun U hU hW => ⟨rfl, trivial⟩⟩ rfl rfl hl.1 rfl (lv_room (Nat.le_of_ble_eq_true rfl)) dX7_voice_3 ⟨Nat.zero_le _, Nat.zero_le _⟩)) (fun r_1 er_1 => ?_)
  subst er_1
  refine lv_if_ne (tgt := 12) hx hb dX7_voice_6 (by decide) (fun c_2 => ?_) (fun c_2 => ?_)
  · skip
    have c_2 : (decide (0 ≤ v) && decide (v ≤ 3)) = true := b2i_1.mp c_2
    refine lv_iload_n hx hb dX7_voice_12 rfl (lv_at hl 2 rfl) ?_
    by_cases c_3 : w = 0
    · skip
      refine lv_tableIn (tgt := 40) hx hb dX7_voice_13 (by rw [c_3]; decide) (by rw [c_3]; decide) (by rw [c_3]; rfl) (by decide) ?_
      refine lv_aload_n hx hb dX7_voice_40 rfl (lv_at hl 0 rfl) ?_
      refine va_get (D := (dC, dI)) (ci := 7) (v := .ref (b 1)) (C := RX7) (T := TX7) (N := 7) hx hb hts i_X7 hown hK hP 0 rfl rfl 0 (by decide) k_0 (fun _ h9 => h9) rfl dX7_voice_41 ?_
      refine lv_iload_n hx hb dX7_voice_44 rfl (lv_at hl 1 rfl) ?_
      have hPc_4 := hP.sub (ws' := (sW cI b (nI n) F T P V (fun j => nI (o j)) (fun j => nI (kr j)))) [1, 2, 3, 4, 5, 6, 7] rfl
      refine vp_callSi (gk_run (va_runV (As := [.int v]) (rest := []) ⟨hx, hb, hml, hown, hts⟩ (c_X6_lowestIn l dC dI cI b n F T P V (fun j => nI (o j)) (fun j => nI (kr j)) hn v) (cwV 1 hts gX7_voice_X6_lowestIn rfl rfl rfl (by decide +kernel) ⟨Nat.le_of_ble_eq_true rfl, Nat.le_of_ble_eq_true rfl⟩) ⟨gk_fb, va_recv hK hPc_4 (ci := 6) (q0 := 0) rfl rfl, fun U hU hW => ⟨rfl, by rw [hU]; exact hPc_4, va_K.moved hW.alike hK⟩⟩ rfl rfl hl.1 rfl (lv_room (Nat.le_of_ble_eq_true rfl)) dX7_voice_45 ⟨Nat.zero_le _, Nat.zero_le _⟩)) (fun r_5 er_5 => ?_)
      subst er_5
      exact W.iret (v := lowC V P v n) hx hb hr (fun t ht _ => ⟨_, rfl, by exact ite_t (by (simp only [decide_eq_true_eq, decide_eq_false_iff_not, Bool.and_eq_true, Bool.and_eq_false_iff, Bool.or_eq_true, Bool.or_eq_false_iff, Bool.not_eq_true, Bool.not_eq_false, ne_eq, not_and, not_or, tog_t, tog_f, ahd_t, ahd_f, isoB_t, isoB_f, ixB_t, ixB_f, vOK_t, vOK_f, wOK_t, wOK_f, tn4, tI5, Int32.lt_iff_toInt_lt, Int32.le_iff_toInt_le, ← Int32.toInt_inj, tI0, tI1, tI2, tI3, tI4, tI6, tI14, tI59, tI60, tI127, tI1000, tI100000, tIm1, tIm2, tIm3, tIm4, tIbig] at c_2 c_3 ⊢; first | done | omega)) (sw3_0 (by first | assumption | ((simp only [decide_eq_true_eq, decide_eq_false_iff_not, Bool.and_eq_true, Bool.and_eq_false_iff, Bool.or_eq_true, Bool.or_eq_false_iff, Bool.not_eq_true, Bool.not_eq_false, ne_eq, not_and, not_or, tog_t, tog_f, ahd_t, ahd_f, isoB_t, isoB_f, ixB_t, ixB_f, vOK_t, vOK_f, wOK_t, wOK_f, tn4, tI5, Int32.lt_iff_toInt_lt, Int32.le_iff_toInt_le, ← Int32.toInt_inj, tI0, tI1, tI2, tI3, tI4, tI6, tI14, tI59, tI60, tI127, tI1000, tI100000, tIm1, tIm2, tIm3, tIm4, tIbig] at c_2 c_3 ⊢; first | done | omega)))), ht⟩) (fun q h => by cases h) dX7_voice_48
    have n_6 := c_3
    by_cases c_7 : w = 1
    · skip
      refine lv_tableIn (tgt := 49) hx hb dX7_voice_13 (by rw [c_7]; decide) (by rw [c_7]; decide) (by rw [c_7]; rfl) (by decide) ?_
      refine lv_aload_n hx hb dX7_voice_49 rfl (lv_at hl 0 rfl) ?_
      refine va_get (D := (dC, dI)) (ci := 7) (v := .ref (b 1)) (C := RX7) (T := TX7) (N := 7) hx hb hts i_X7 hown hK hP 0 rfl rfl 0 (by decide) k_0 (fun _ h9 => h9) rfl dX7_voice_50 ?_
      refine lv_iload_n hx hb dX7_voice_53 rfl (lv_at hl 1 rfl) ?_
      have hPc_8 := hP.sub (ws' := (sW cI b (nI n) F T P V (fun j => nI (o j)) (fun j => nI (kr j)))) [1, 2, 3, 4, 5, 6, 7] rfl
      refine vp_callSi (gk_run (va_runV (As := [.int v]) (rest := []) ⟨hx, hb, hml, hown, hts⟩ (c_X6_highestIn l dC dI cI b n F T P V (fun j => nI (o j)) (fun j => nI (kr j)) hn v) (cwV 1 hts gX7_voice_X6_highestIn rfl rfl rfl (by decide +kernel) ⟨Nat.le_of_ble_eq_true rfl, Nat.le_of_ble_eq_true rfl⟩) ⟨gk_fb, va_recv hK hPc_8 (ci := 6) (q0 := 0) rfl rfl, fun U hU hW => ⟨rfl, by rw [hU]; exact hPc_8, va_K.moved hW.alike hK⟩⟩ rfl rfl hl.1 rfl (lv_room (Nat.le_of_ble_eq_true rfl)) dX7_voice_54 ⟨Nat.zero_le _, Nat.zero_le _⟩)) (fun r_9 er_9 => ?_)
      subst er_9
      exact W.iret (v := hiV V P v n) hx hb hr (fun t ht _ => ⟨_, rfl, by exact ite_t (by (simp only [decide_eq_true_eq, decide_eq_false_iff_not, Bool.and_eq_true, Bool.and_eq_false_iff, Bool.or_eq_true, Bool.or_eq_false_iff, Bool.not_eq_true, Bool.not_eq_false, ne_eq, not_and, not_or, tog_t, tog_f, ahd_t, ahd_f, isoB_t, isoB_f, ixB_t, ixB_f, vOK_t, vOK_f, wOK_t, wOK_f, tn4, tI5, Int32.lt_iff_toInt_lt, Int32.le_iff_toInt_le, ← Int32.toInt_inj, tI0, tI1, tI2, tI3, tI4, tI6, tI14, tI59, tI60, tI127, tI1000, tI100000, tIm1, tIm2, tIm3, tIm4, tIbig] at c_2 n_6 c_7 ⊢; first | done | omega)) (sw3_1 (by first | assumption | ((simp only [decide_eq_true_eq, decide_eq_false_iff_not, Bool.and_eq_true, Bool.and_eq_false_iff, Bool.or_eq_true, Bool.or_eq_false_iff, Bool.not_eq_true, Bool.not_eq_false, ne_eq, not_and, not_or, tog_t, tog_f, ahd_t, ahd_f, isoB_t, isoB_f, ixB_t, ixB_f, vOK_t, vOK_f, wOK_t, wOK_f, tn4, tI5, Int32.lt_iff_toInt_lt, Int32.le_iff_toInt_le, ← Int32.toInt_inj, tI0, tI1, tI2, tI3, tI4, tI6, tI14, tI59, tI60, tI127, tI1000, tI100000, tIm1, tIm2, tIm3, tIm4, tIbig] at c_2 n_6 c_7 ⊢; first | done | omega)))), ht⟩) (fun q h => by cases h) dX7_voice_57
    have n_10 := c_7
    by_cases c_11 : w = 2
    · skip
      refine lv_tableIn (tgt := 58) hx hb dX7_voice_13 (by rw [c_11]; decide) (by rw [c_11]; decide) (by rw [c_11]; rfl) (by decide) ?_
      refine lv_aload_n hx hb dX7_voice_58 rfl (lv_at hl 0 rfl) ?_
      refine va_get (D := (dC, dI)) (ci := 7) (v := .ref (b 1)) (C := RX7) (T := TX7) (N := 7) hx hb hts i_X7 hown hK hP 0 rfl rfl 0 (by decide) k_0 (fun _ h9 => h9) rfl dX7_voice_59 ?_
      refine lv_iload_n hx hb dX7_voice_62 rfl (lv_at hl 1 rfl) ?_
      have hPc_12 := hP.sub (ws' := (sW cI b (nI n) F T P V (fun j => nI (o j)) (fun j => nI (kr j)))) [1, 2, 3, 4, 5, 6, 7] rfl
      refine vp_callSi (gk_run (va_runV (As := [.int v]) (rest := []) ⟨hx, hb, hml, hown, hts⟩ (c_X6_notesIn l dC dI cI b n F T P V (fun j => nI (o j)) (fun j => nI (kr j)) hn v) (cwV 1 hts gX7_voice_X6_notesIn rfl rfl rfl (by decide +kernel) ⟨Nat.le_of_ble_eq_true rfl, Nat.le_of_ble_eq_true rfl⟩) ⟨gk_fb, va_recv hK hPc_12 (ci := 6) (q0 := 0) rfl rfl, fun U hU hW => ⟨rfl, by rw [hU]; exact hPc_12, va_K.moved hW.alike hK⟩⟩ rfl rfl hl.1 rfl (lv_room (Nat.le_of_ble_eq_true rfl)) dX7_voice_63 ⟨Nat.zero_le _, Nat.zero_le _⟩)) (fun r_13 er_13 => ?_)
      subst er_13
      exact W.iret (v := nI (szN V n v)) hx hb hr (fun t ht _ => ⟨_, rfl, by exact ite_t (by (simp only [decide_eq_true_eq, decide_eq_false_iff_not, Bool.and_eq_true, Bool.and_eq_false_iff, Bool.or_eq_true, Bool.or_eq_false_iff, Bool.not_eq_true, Bool.not_eq_false, ne_eq, not_and, not_or, tog_t, tog_f, ahd_t, ahd_f, isoB_t, isoB_f, ixB_t, ixB_f, vOK_t, vOK_f, wOK_t, wOK_f, tn4, tI5, Int32.lt_iff_toInt_lt, Int32.le_iff_toInt_le, ← Int32.toInt_inj, tI0, tI1, tI2, tI3, tI4, tI6, tI14, tI59, tI60, tI127, tI1000, tI100000, tIm1, tIm2, tIm3, tIm4, tIbig] at c_2 n_6 n_10 c_11 ⊢; first | done | omega)) (sw3_2 (by first | assumption | ((simp only [decide_eq_true_eq, decide_eq_false_iff_not, Bool.and_eq_true, Bool.and_eq_false_iff, Bool.or_eq_true, Bool.or_eq_false_iff, Bool.not_eq_true, Bool.not_eq_false, ne_eq, not_and, not_or, tog_t, tog_f, ahd_t, ahd_f, isoB_t, isoB_f, ixB_t, ixB_f, vOK_t, vOK_f, wOK_t, wOK_f, tn4, tI5, Int32.lt_iff_toInt_lt, Int32.le_iff_toInt_le, ← Int32.toInt_inj, tI0, tI1, tI2, tI3, tI4, tI6, tI14, tI59, tI60, tI127, tI1000, tI100000, tIm1, tIm2, tIm3, tIm4, tIbig] at c_2 n_6 n_10 c_11 ⊢; first | done | omega)))), ht⟩) (fun q h => by cases h) dX7_voice_66
    have n_14 := c_11
    refine lv_tableOut (tgt := 67) hx hb dX7_voice_13 (gk_out3 n_6 n_10 n_14) (by decide) ?_
    refine lv_bipush (v := (-2)) hx hb dX7_voice_67 (by decide) ?_
    exact W.iret (v := (-2)) hx hb hr (fun t ht _ => ⟨_, rfl, by first | exact ite_f (by (simp only [decide_eq_true_eq, decide_eq_false_iff_not, Bool.and_eq_true, Bool.and_eq_false_iff, Bool.or_eq_true, Bool.or_eq_false_iff, Bool.not_eq_true, Bool.not_eq_false, ne_eq, not_and, not_or, tog_t, tog_f, ahd_t, ahd_f, isoB_t, isoB_f, ixB_t, ixB_f, vOK_t, vOK_f, wOK_t, wOK_f, tn4, tI5, Int32.lt_iff_toInt_lt, Int32.le_iff_toInt_le, ← Int32.toInt_inj, tI0, tI1, tI2, tI3, tI4, tI6, tI14, tI59, tI60, tI127, tI1000, tI100000, tIm1, tIm2, tIm3, tIm4, tIbig] at c_2 n_6 n_10 n_14 ⊢; first | done | omega)) rfl | exact ite_t (by (simp only [decide_eq_true_eq, decide_eq_false_iff_not, Bool.and_eq_true, Bool.and_eq_false_iff, Bool.or_eq_true, Bool.or_eq_false_iff, Bool.not_eq_true, Bool.not_eq_false, ne_eq, not_and, not_or, tog_t, tog_f, ahd_t, ahd_f, isoB_t, isoB_f, ixB_t, ixB_f, vOK_t, vOK_f, wOK_t, wOK_f, tn4, tI5, Int32.lt_iff_toInt_lt, Int32.le_iff_toInt_le, ← Int32.toInt_inj, tI0, tI1, tI2, tI3, tI4, tI6, tI14, tI59, tI60, tI127, tI1000, tI100000, tIm1, tIm2, tIm3, tIm4, tIbig] at c_2 n_6 n_10 n_14 ⊢; first | done | omega)) (sw3_o (by (simp only [decide_eq_true_eq, decide_eq_false_iff_not, Bool.and_eq_true, Bool.and_eq_false_iff, Bool.or_eq_true, Bool.or_eq_false_iff, Bool.not_eq_true, Bool.not_eq_false, ne_eq, not_and, not_or, tog_t, tog_f, ahd_t, ahd_f, isoB_t, isoB_f, ixB_t, ixB_f, vOK_t, vOK_f, wOK_t, wOK_f, tn4, tI5, Int32.lt_iff_toInt_lt, Int32.le_iff_toInt_le, ← Int32.toInt_inj, tI0, tI1, tI2, tI3, tI4, tI6, tI14, tI59, tI60, tI127, tI1000, tI100000, tIm1, tIm2, tIm3, tIm4, tIbig] at c_2 n_6 n_10 n_14 ⊢; first | done | omega)))| (by_cases hvv : 0 ≤ v ∧ v ≤ 3; (exact ite_t hvv (sw3_o (by (simp only [decide_eq_true_eq, decide_eq_false_iff_not, Bool.and_eq_true, Bool.and_eq_false_iff, Bool.or_eq_true, Bool.or_eq_false_iff, Bool.not_eq_true, Bool.not_eq_false, ne_eq, not_and, not_or, tog_t, tog_f, ahd_t, ahd_f, isoB_t, isoB_f, ixB_t, ixB_f, vOK_t, vOK_f, wOK_t, wOK_f, tn4, tI5, Int32.lt_iff_toInt_lt, Int32.le_iff_toInt_le, ← Int32.toInt_inj, tI0, tI1, tI2, tI3, tI4, tI6, tI14, tI59, tI60, tI127, tI1000, tI100000, tIm1, tIm2, tIm3, tIm4, tIbig] at hvv c_2 n_6 n_10 n_14 ⊢; first | done | omega)))); exact ite_f hvv rfl), ht⟩) (fun q h => by cases h) dX7_voice_69
  · skip
    have c_2 : (decide (0 ≤ v) && decide (v ≤ 3)) = false := b2i_0.mp c_2
    refine lv_bipush (v := (-2)) hx hb dX7_voice_9 (by decide) ?_
    exact W.iret (v := (-2)) hx hb hr (fun t ht _ => ⟨_, rfl, by first | exact ite_f (by (simp only [decide_eq_true_eq, decide_eq_false_iff_not, Bool.and_eq_true, Bool.and_eq_false_iff, Bool.or_eq_true, Bool.or_eq_false_iff, Bool.not_eq_true, Bool.not_eq_false, ne_eq, not_and, not_or, tog_t, tog_f, ahd_t, ahd_f, isoB_t, isoB_f, ixB_t, ixB_f, vOK_t, vOK_f, wOK_t, wOK_f, tn4, tI5, Int32.lt_iff_toInt_lt, Int32.le_iff_toInt_le, ← Int32.toInt_inj, tI0, tI1, tI2, tI3, tI4, tI6, tI14, tI59, tI60, tI127, tI1000, tI100000, tIm1, tIm2, tIm3, tIm4, tIbig] at c_2 ⊢; first | done | omega)) rfl | exact ite_t (by (simp only [decide_eq_true_eq, decide_eq_false_iff_not, Bool.and_eq_true, Bool.and_eq_false_iff, Bool.or_eq_true, Bool.or_eq_false_iff, Bool.not_eq_true, Bool.not_eq_false, ne_eq, not_and, not_or, tog_t, tog_f, ahd_t, ahd_f, isoB_t, isoB_f, ixB_t, ixB_f, vOK_t, vOK_f, wOK_t, wOK_f, tn4, tI5, Int32.lt_iff_toInt_lt, Int32.le_iff_toInt_le, ← Int32.toInt_inj, tI0, tI1, tI2, tI3, tI4, tI6, tI14, tI59, tI60, tI127, tI1000, tI100000, tIm1, tIm2, tIm3, tIm4, tIbig] at c_2 ⊢; first | done | omega)) (sw3_o (by (simp only [decide_eq_true_eq, decide_eq_false_iff_not, Bool.and_eq_true, Bool.and_eq_false_iff, Bool.or_eq_true, Bool.or_eq_false_iff, Bool.not_eq_true, Bool.not_eq_false, ne_eq, not_and, not_or, tog_t, tog_f, ahd_t, ahd_f, isoB_t, isoB_f, ixB_t, ixB_f, vOK_t, vOK_f, wOK_t, wOK_f, tn4, tI5, Int32.lt_iff_toInt_lt, Int32.le_iff_toInt_le, ← Int32.toInt_inj, tI0, tI1, tI2, tI3, tI4, tI6, tI14, tI59, tI60, tI127, tI1000, tI100000, tIm1, tIm2, tIm3, tIm4, tIbig] at c_2 ⊢; first | done | omega)))| (by_cases hvv : 0 ≤ v ∧ v ≤ 3; (exact ite_t hvv (sw3_o (by (simp only [decide_eq_true_eq, decide_eq_false_iff_not, Bool.and_eq_true, Bool.and_eq_false_iff, Bool.or_eq_true, Bool.or_eq_false_iff, Bool.not_eq_true, Bool.not_eq_false, ne_eq, not_and, not_or, tog_t, tog_f, ahd_t, ahd_f, isoB_t, isoB_f, ixB_t, ixB_f, vOK_t, vOK_f, wOK_t, wOK_f, tn4, tI5, Int32.lt_iff_toInt_lt, Int32.le_iff_toInt_le, ← Int32.toInt_inj, tI0, tI1, tI2, tI3, tI4, tI6, tI14, tI59, tI60, tI127, tI1000, tI100000, tIm1, tIm2, tIm3, tIm4, tIbig] at hvv c_2 ⊢; first | done | omega)))); exact ite_f hvv rfl), ht⟩) (fun q h => by cases h) dX7_voice_11

set_option maxHeartbeats 1000000 in
set_option maxRecDepth 100000 in
theorem c_X8_voice (l : Launch) (dC : Nat → ClassId) (dI : Nat → Nat → Nat) (cI : ClassId) (a : Nat → Nat) (n : Nat) (F T P V Wt : Nat → Int32) (o : Nat → Nat) (G L R : Nat → Int32) (hn : n ≤ 60) (ho : ∀ j, o j < 60) (v w : Int32) : Met l yX8_voice wsX8_voice ({ frames := 1, cells := 0, slots := 0, locals := 23 } : Room) (va_Pc [.ref (a 0), .int v, .int w] (fun U => va_P (dC, dI) vwCl (mW cI a (nI n) F T P V Wt (fun j => nI (o j)) G L R) U.heap ∧ va_K (dC, dI) vwCl [(cI, .int)] U)) (vp_Si (fun r => r = if 0 ≤ v ∧ v ≤ 3 then sw3 w (lowM V P v n) (hiV V P v n) (nI (szN V n v)) else -2)) 0 0 (fun _ => False) := by
  refine Met.ofW (cc := cX8_voice) (maxL := 6) (ret := (some .int)) (by decide) rfl ?_
  intro p e s m args below meth c s₁ B hml hv
  obtain ⟨rfl, hP, hK⟩ := hv
  have hx := B.exec
  have hb := B.bytes
  have hr := B.returns
  have hts := atoms_spec (ws := wsX8_voice) B.pre
  have hown : s.vm.findClass RX8 = some m.cls := findClass_of_methodNamed B.named
  have hlocks := B.notSynchronized
  have i_X8 : ∀ w ∈ u_ws RX8 TX8 10, w ∈ wsX8_voice := by decide +kernel
  have k_0 := hts (.fieldLink RX8 38 "VoiceRowsModel" "notes" "I") (by decide +kernel)
  have k_1 := hts (.fieldLink RX8 19 "VoiceRowsModel" "voice" "[I") (by decide +kernel)
  have k_2 := hts (.fieldLink RX8 16 "VoiceRowsModel" "pitch" "[I") (by decide +kernel)
  have hl := lv_entry ([.ref (a 0), .int v, .int w]) (n := 6) (Nat.le_of_ble_eq_true rfl)
  rw [lg_entry_eq]
  generalize (lg_sl ([.ref (a 0), .int v, .int w]) ++ List.replicate (6 - (lg_sl ([.ref (a 0), .int v, .int w])).length) Slot.unset).toArray = ls at hl ⊢
  have hl : lv_has ls 6 [(0, .ref (a 0)), (1, .int v), (2, .int w)] := hl
  refine lv_iload_n hx hb dX8_voice_0 rfl (lv_at hl 1 rfl) ?_
  refine lv_if_lt (tgt := 18) hx hb dX8_voice_1 (by decide) (fun c_1 => ?_) (fun c_1 => ?_)
  · skip
    refine lv_bipush (v := (-2)) hx hb dX8_voice_18 (by decide) ?_
    exact W.iret (v := (-2)) hx hb hr (fun t ht _ => ⟨_, rfl, by first | exact ite_f (by (simp only [decide_eq_true_eq, decide_eq_false_iff_not, Bool.and_eq_true, Bool.and_eq_false_iff, Bool.or_eq_true, Bool.or_eq_false_iff, Bool.not_eq_true, Bool.not_eq_false, ne_eq, not_and, not_or, tog_t, tog_f, ahd_t, ahd_f, isoB_t, isoB_f, ixB_t, ixB_f, vOK_t, vOK_f, wOK_t, wOK_f, tn4, tI5, Int32.lt_iff_toInt_lt, Int32.le_iff_toInt_le, ← Int32.toInt_inj, tI0, tI1, tI2, tI3, tI4, tI6, tI14, tI59, tI60, tI127, tI1000, tI100000, tIm1, tIm2, tIm3, tIm4, tIbig] at c_1 ⊢; first | done | omega)) rfl | exact ite_t (by (simp only [decide_eq_true_eq, decide_eq_false_iff_not, Bool.and_eq_true, Bool.and_eq_false_iff, Bool.or_eq_true, Bool.or_eq_false_iff, Bool.not_eq_true, Bool.not_eq_false, ne_eq, not_and, not_or, tog_t, tog_f, ahd_t, ahd_f, isoB_t, isoB_f, ixB_t, ixB_f, vOK_t, vOK_f, wOK_t, wOK_f, tn4, tI5, Int32.lt_iff_toInt_lt, Int32.le_iff_toInt_le, ← Int32.toInt_inj, tI0, tI1, tI2, tI3, tI4, tI6, tI14, tI59, tI60, tI127, tI1000, tI100000, tIm1, tIm2, tIm3, tIm4, tIbig] at c_1 ⊢; first | done | omega)) (sw3_o (by (simp only [decide_eq_true_eq, decide_eq_false_iff_not, Bool.and_eq_true, Bool.and_eq_false_iff, Bool.or_eq_true, Bool.or_eq_false_iff, Bool.not_eq_true, Bool.not_eq_false, ne_eq, not_and, not_or, tog_t, tog_f, ahd_t, ahd_f, isoB_t, isoB_f, ixB_t, ixB_f, vOK_t, vOK_f, wOK_t, wOK_f, tn4, tI5, Int32.lt_iff_toInt_lt, Int32.le_iff_toInt_le, ← Int32.toInt_inj, tI0, tI1, tI2, tI3, tI4, tI6, tI14, tI59, tI60, tI127, tI1000, tI100000, tIm1, tIm2, tIm3, tIm4, tIbig] at c_1 ⊢; first | done | omega)))| (by_cases hvv : 0 ≤ v ∧ v ≤ 3; (exact ite_t hvv (sw3_o (by (simp only [decide_eq_true_eq, decide_eq_false_iff_not, Bool.and_eq_true, Bool.and_eq_false_iff, Bool.or_eq_true, Bool.or_eq_false_iff, Bool.not_eq_true, Bool.not_eq_false, ne_eq, not_and, not_or, tog_t, tog_f, ahd_t, ahd_f, isoB_t, isoB_f, ixB_t, ixB_f, vOK_t, vOK_f, wOK_t, wOK_f, tn4, tI5, Int32.lt_iff_toInt_lt, Int32.le_iff_toInt_le, ← Int32.toInt_inj, tI0, tI1, tI2, tI3, tI4, tI6, tI14, tI59, tI60, tI127, tI1000, tI100000, tIm1, tIm2, tIm3, tIm4, tIbig] at hvv c_1 ⊢; first | done | omega)))); exact ite_f hvv rfl), ht⟩) (fun q h => by cases h) dX8_voice_20
  · skip
    refine lv_iload_n hx hb dX8_voice_4 rfl (lv_at hl 1 rfl) ?_
    refine lv_iconst (v := 4) hx hb dX8_voice_5 (by decide) ?_
    refine lv_icmp_ge (tgt := 18) hx hb dX8_voice_6 (by decide) (fun c_2 => ?_) (fun c_2 => ?_)
    · skip
      refine lv_bipush (v := (-2)) hx hb dX8_voice_18 (by decide) ?_
      exact W.iret (v := (-2)) hx hb hr (fun t ht _ => ⟨_, rfl, by first | exact ite_f (by (simp only [decide_eq_true_eq, decide_eq_false_iff_not, Bool.and_eq_true, Bool.and_eq_false_iff, Bool.or_eq_true, Bool.or_eq_false_iff, Bool.not_eq_true, Bool.not_eq_false, ne_eq, not_and, not_or, tog_t, tog_f, ahd_t, ahd_f, isoB_t, isoB_f, ixB_t, ixB_f, vOK_t, vOK_f, wOK_t, wOK_f, tn4, tI5, Int32.lt_iff_toInt_lt, Int32.le_iff_toInt_le, ← Int32.toInt_inj, tI0, tI1, tI2, tI3, tI4, tI6, tI14, tI59, tI60, tI127, tI1000, tI100000, tIm1, tIm2, tIm3, tIm4, tIbig] at c_1 c_2 ⊢; first | done | omega)) rfl | exact ite_t (by (simp only [decide_eq_true_eq, decide_eq_false_iff_not, Bool.and_eq_true, Bool.and_eq_false_iff, Bool.or_eq_true, Bool.or_eq_false_iff, Bool.not_eq_true, Bool.not_eq_false, ne_eq, not_and, not_or, tog_t, tog_f, ahd_t, ahd_f, isoB_t, isoB_f, ixB_t, ixB_f, vOK_t, vOK_f, wOK_t, wOK_f, tn4, tI5, Int32.lt_iff_toInt_lt, Int32.le_iff_toInt_le, ← Int32.toInt_inj, tI0, tI1, tI2, tI3, tI4, tI6, tI14, tI59, tI60, tI127, tI1000, tI100000, tIm1, tIm2, tIm3, tIm4, tIbig] at c_1 c_2 ⊢; first | done | omega)) (sw3_o (by (simp only [decide_eq_true_eq, decide_eq_false_iff_not, Bool.and_eq_true, Bool.and_eq_false_iff, Bool.or_eq_true, Bool.or_eq_false_iff, Bool.not_eq_true, Bool.not_eq_false, ne_eq, not_and, not_or, tog_t, tog_f, ahd_t, ahd_f, isoB_t, isoB_f, ixB_t, ixB_f, vOK_t, vOK_f, wOK_t, wOK_f, tn4, tI5, Int32.lt_iff_toInt_lt, Int32.le_iff_toInt_le, ← Int32.toInt_inj, tI0, tI1, tI2, tI3, tI4, tI6, tI14, tI59, tI60, tI127, tI1000, tI100000, tIm1, tIm2, tIm3, tIm4, tIbig] at c_1 c_2 ⊢; first | done | omega)))| (by_cases hvv : 0 ≤ v ∧ v ≤ 3; (exact ite_t hvv (sw3_o (by (simp only [decide_eq_true_eq, decide_eq_false_iff_not, Bool.and_eq_true, Bool.and_eq_false_iff, Bool.or_eq_true, Bool.or_eq_false_iff, Bool.not_eq_true, Bool.not_eq_false, ne_eq, not_and, not_or, tog_t, tog_f, ahd_t, ahd_f, isoB_t, isoB_f, ixB_t, ixB_f, vOK_t, vOK_f, wOK_t, wOK_f, tn4, tI5, Int32.lt_iff_toInt_lt, Int32.le_iff_toInt_le, ← Int32.toInt_inj, tI0, tI1, tI2, tI3, tI4, tI6, tI14, tI59, tI60, tI127, tI1000, tI100000, tIm1, tIm2, tIm3, tIm4, tIbig] at hvv c_1 c_2 ⊢; first | done | omega)))); exact ite_f hvv rfl), ht⟩) (fun q h => by cases h) dX8_voice_20
    · skip
      refine lv_iload_n hx hb dX8_voice_9 rfl (lv_at hl 2 rfl) ?_
      refine lv_if_lt (tgt := 18) hx hb dX8_voice_10 (by decide) (fun c_3 => ?_) (fun c_3 => ?_)
      · skip
        refine lv_bipush (v := (-2)) hx hb dX8_voice_18 (by decide) ?_
        exact W.iret (v := (-2)) hx hb hr (fun t ht _ => ⟨_, rfl, by first | exact ite_f (by (simp only [decide_eq_true_eq, decide_eq_false_iff_not, Bool.and_eq_true, Bool.and_eq_false_iff, Bool.or_eq_true, Bool.or_eq_false_iff, Bool.not_eq_true, Bool.not_eq_false, ne_eq, not_and, not_or, tog_t, tog_f, ahd_t, ahd_f, isoB_t, isoB_f, ixB_t, ixB_f, vOK_t, vOK_f, wOK_t, wOK_f, tn4, tI5, Int32.lt_iff_toInt_lt, Int32.le_iff_toInt_le, ← Int32.toInt_inj, tI0, tI1, tI2, tI3, tI4, tI6, tI14, tI59, tI60, tI127, tI1000, tI100000, tIm1, tIm2, tIm3, tIm4, tIbig] at c_1 c_2 c_3 ⊢; first | done | omega)) rfl | exact ite_t (by (simp only [decide_eq_true_eq, decide_eq_false_iff_not, Bool.and_eq_true, Bool.and_eq_false_iff, Bool.or_eq_true, Bool.or_eq_false_iff, Bool.not_eq_true, Bool.not_eq_false, ne_eq, not_and, not_or, tog_t, tog_f, ahd_t, ahd_f, isoB_t, isoB_f, ixB_t, ixB_f, vOK_t, vOK_f, wOK_t, wOK_f, tn4, tI5, Int32.lt_iff_toInt_lt, Int32.le_iff_toInt_le, ← Int32.toInt_inj, tI0, tI1, tI2, tI3, tI4, tI6, tI14, tI59, tI60, tI127, tI1000, tI100000, tIm1, tIm2, tIm3, tIm4, tIbig] at c_1 c_2 c_3 ⊢; first | done | omega)) (sw3_o (by (simp only [decide_eq_true_eq, decide_eq_false_iff_not, Bool.and_eq_true, Bool.and_eq_false_iff, Bool.or_eq_true, Bool.or_eq_false_iff, Bool.not_eq_true, Bool.not_eq_false, ne_eq, not_and, not_or, tog_t, tog_f, ahd_t, ahd_f, isoB_t, isoB_f, ixB_t, ixB_f, vOK_t, vOK_f, wOK_t, wOK_f, tn4, tI5, Int32.lt_iff_toInt_lt, Int32.le_iff_toInt_le, ← Int32.toInt_inj, tI0, tI1, tI2, tI3, tI4, tI6, tI14, tI59, tI60, tI127, tI1000, tI100000, tIm1, tIm2, tIm3, tIm4, tIbig] at c_1 c_2 c_3 ⊢; first | done | omega)))| (by_cases hvv : 0 ≤ v ∧ v ≤ 3; (exact ite_t hvv (sw3_o (by (simp only [decide_eq_true_eq, decide_eq_false_iff_not, Bool.and_eq_true, Bool.and_eq_false_iff, Bool.or_eq_true, Bool.or_eq_false_iff, Bool.not_eq_true, Bool.not_eq_false, ne_eq, not_and, not_or, tog_t, tog_f, ahd_t, ahd_f, isoB_t, isoB_f, ixB_t, ixB_f, vOK_t, vOK_f, wOK_t, wOK_f, tn4, tI5, Int32.lt_iff_toInt_lt, Int32.le_iff_toInt_le, ← Int32.toInt_inj, tI0, tI1, tI2, tI3, tI4, tI6, tI14, tI59, tI60, tI127, tI1000, tI100000, tIm1, tIm2, tIm3, tIm4, tIbig] at hvv c_1 c_2 c_3 ⊢; first | done | omega)))); exact ite_f hvv rfl), ht⟩) (fun q h => by cases h) dX8_voice_20
      · skip
        refine lv_iload_n hx hb dX8_voice_13 rfl (lv_at hl 2 rfl) ?_
        refine lv_iconst (v := 2) hx hb dX8_voice_14 (by decide) ?_
        refine lv_icmp_le (tgt := 21) hx hb dX8_voice_15 (by decide) (fun c_4 => ?_) (fun c_4 => ?_)
        · skip
          refine lv_iconst (v := (-1)) hx hb dX8_voice_21 (by decide) ?_
          refine lv_istore_n (lv' := [(3, .int (-1)), (0, .ref (a 0)), (1, .int v), (2, .int w)]) hx hb dX8_voice_22 rfl hl (by decide) rfl (fun ls hl => ?_)
          refine lv_iconst (v := (-1)) hx hb dX8_voice_23 (by decide) ?_
          refine lv_istore (lv' := [(4, .int (-1)), (3, .int (-1)), (0, .ref (a 0)), (1, .int v), (2, .int w)]) hx hb dX8_voice_24 hl (by decide) rfl (fun ls hl => ?_)
          refine lv_iconst (v := 0) hx hb dX8_voice_26 (by decide) ?_
          refine lv_istore (lv' := [(5, .int 0), (4, .int (-1)), (3, .int (-1)), (0, .ref (a 0)), (1, .int v), (2, .int w)]) hx hb dX8_voice_27 hl (by decide) rfl (fun ls hl => ?_)
          have L29 : ∀ (fu : Nat) (k : Nat) (x3 x4 x5 : Int32) (ls : Array Slot), x3 = lowM V P v k → x4 = hiV V P v k → x5 = nI k → k ≤ n → n - k < fu → lv_has ls 6 [(0, .ref (a 0)), (1, .int v), (2, .int w), (3, .int x3), (4, .int x4), (5, .int x5)] → W p l e (headSpec wsX8_voice ({ frames := 1, cells := 0, slots := 0, locals := 23 } : Room)).room s m [.ref (a 0), .int v, .int w].toArray below meth c s.heap [] 0 0 (MQ below (vp_Si (fun r => r = if 0 ≤ v ∧ v ≤ 3 then sw3 w (lowM V P v n) (hiV V P v n) (nI (szN V n v)) else -2)) [.ref (a 0), .int v, .int w].toArray s 0 0 (fun _ => False)) (F0 m 29 ls []) := by
            intro fu
            induction fu with
            | zero =>
              intro k x3 x4 x5 ls e3 e4 e5 hk1 hfu29 hl
              exact absurd hfu29 (Nat.not_lt_zero _)
            | succ fu ih29 =>
              intro k x3 x4 x5 ls e3 e4 e5 hk1 hfu29 hl
              subst e3
              subst e4
              subst e5
              refine lv_iload hx hb dX8_voice_29 (lv_at hl 5 rfl) ?_
              refine lv_aload_n hx hb dX8_voice_31 rfl (lv_at hl 0 rfl) ?_
              refine va_get (D := (dC, dI)) (ci := 8) (v := .int (nI n)) (C := RX8) (T := TX8) (N := 10) hx hb hts i_X8 hown hK hP 0 rfl rfl 4 (by decide) k_0 (fun _ h9 => h9) rfl dX8_voice_32 ?_
              refine lv_icmp_ge (tgt := 108) hx hb dX8_voice_35 (by decide) (fun c_5 => ?_) (fun c_5 => ?_)
              · skip
                have c_5 : k ≥ n := gk_geT (a := k) (b := n) (by first | omega | exact Nat.lt_of_le_of_lt atN_le (by omega) | exact Nat.lt_of_le_of_lt szN_le (by omega) | exact Nat.lt_of_le_of_lt clM_le (by omega) | exact Nat.lt_of_le_of_lt rkN_le (by omega) | exact Nat.lt_of_le_of_lt (cnt_le _ _) (by omega)) (by first | omega | exact Nat.lt_of_le_of_lt atN_le (by omega) | exact Nat.lt_of_le_of_lt szN_le (by omega) | exact Nat.lt_of_le_of_lt clM_le (by omega) | exact Nat.lt_of_le_of_lt rkN_le (by omega) | exact Nat.lt_of_le_of_lt (cnt_le _ _) (by omega)) c_5
                refine lv_iload_n hx hb dX8_voice_108 rfl (lv_at hl 2 rfl) ?_
                refine lv_if_ne (tgt := 116) hx hb dX8_voice_109 (by decide) (fun c_6 => ?_) (fun c_6 => ?_)
                · skip
                  refine lv_iload_n hx hb dX8_voice_116 rfl (lv_at hl 2 rfl) ?_
                  refine lv_iconst (v := 1) hx hb dX8_voice_117 (by decide) ?_
                  refine lv_icmp_ne (tgt := 126) hx hb dX8_voice_118 (by decide) (fun c_7 => ?_) (fun c_7 => ?_)
                  · skip
                    refine lv_aload_n hx hb dX8_voice_126 rfl (lv_at hl 0 rfl) ?_
                    refine lv_iload_n hx hb dX8_voice_127 rfl (lv_at hl 1 rfl) ?_
                    refine vp_callSi (gk_run (va_runV (As := [.int v]) (rest := []) ⟨hx, hb, hml, hown, hts⟩ (c_X8_size l dC dI cI a n F T P V Wt (fun j => nI (o j)) G L R hn v) (cwV 1 hts gX8_voice_X8_size rfl rfl rfl (by decide +kernel) ⟨Nat.le_of_ble_eq_true rfl, Nat.le_of_ble_eq_true rfl⟩) ⟨gk_fb, va_recv hK hP (ci := 8) (q0 := 0) rfl rfl, fun U hU hW => ⟨rfl, by rw [hU]; exact hP, va_K.moved hW.alike hK⟩⟩ rfl rfl hl.1 rfl (lv_room (Nat.le_of_ble_eq_true rfl)) dX8_voice_128 ⟨Nat.zero_le _, Nat.zero_le _⟩)) (fun r_8 er_8 => ?_)
                    subst er_8
                    exact W.iret (v := nI (szN V n v)) hx hb hr (fun t ht _ => ⟨_, rfl, by (obtain rfl : k = n := by omega); exact ite_t (by (simp only [decide_eq_true_eq, decide_eq_false_iff_not, Bool.and_eq_true, Bool.and_eq_false_iff, Bool.or_eq_true, Bool.or_eq_false_iff, Bool.not_eq_true, Bool.not_eq_false, ne_eq, not_and, not_or, tog_t, tog_f, ahd_t, ahd_f, isoB_t, isoB_f, ixB_t, ixB_f, vOK_t, vOK_f, wOK_t, wOK_f, tn4, tI5, Int32.lt_iff_toInt_lt, Int32.le_iff_toInt_le, ← Int32.toInt_inj, tI0, tI1, tI2, tI3, tI4, tI6, tI14, tI59, tI60, tI127, tI1000, tI100000, tIm1, tIm2, tIm3, tIm4, tIbig] at c_1 c_2 c_3 c_4 c_5 c_6 c_7 ⊢; first | done | omega)) (sw3_2 (by first | assumption | ((simp only [decide_eq_true_eq, decide_eq_false_iff_not, Bool.and_eq_true, Bool.and_eq_false_iff, Bool.or_eq_true, Bool.or_eq_false_iff, Bool.not_eq_true, Bool.not_eq_false, ne_eq, not_and, not_or, tog_t, tog_f, ahd_t, ahd_f, isoB_t, isoB_f, ixB_t, ixB_f, vOK_t, vOK_f, wOK_t, wOK_f, tn4, tI5, Int32.lt_iff_toInt_lt, Int32.le_iff_toInt_le, ← Int32.toInt_inj, tI0, tI1, tI2, tI3, tI4, tI6, tI14, tI59, tI60, tI127, tI1000, tI100000, tIm1, tIm2, tIm3, tIm4, tIbig] at c_1 c_2 c_3 c_4 c_5 c_6 c_7 ⊢; first | done | omega)))), ht⟩) (fun q h => by cases h) dX8_voice_131
                  · skip
                    refine lv_iload hx hb dX8_voice_121 (lv_at hl 4 rfl) ?_
                    refine lv_goto (tgt := 131) hx hb dX8_voice_123 (by decide) ?_
                    exact W.iret (v := hiV V P v k) hx hb hr (fun t ht _ => ⟨_, rfl, by (obtain rfl : k = n := by omega); exact ite_t (by (simp only [decide_eq_true_eq, decide_eq_false_iff_not, Bool.and_eq_true, Bool.and_eq_false_iff, Bool.or_eq_true, Bool.or_eq_false_iff, Bool.not_eq_true, Bool.not_eq_false, ne_eq, not_and, not_or, tog_t, tog_f, ahd_t, ahd_f, isoB_t, isoB_f, ixB_t, ixB_f, vOK_t, vOK_f, wOK_t, wOK_f, tn4, tI5, Int32.lt_iff_toInt_lt, Int32.le_iff_toInt_le, ← Int32.toInt_inj, tI0, tI1, tI2, tI3, tI4, tI6, tI14, tI59, tI60, tI127, tI1000, tI100000, tIm1, tIm2, tIm3, tIm4, tIbig] at c_1 c_2 c_3 c_4 c_5 c_6 c_7 ⊢; first | done | omega)) (sw3_1 (by first | assumption | ((simp only [decide_eq_true_eq, decide_eq_false_iff_not, Bool.and_eq_true, Bool.and_eq_false_iff, Bool.or_eq_true, Bool.or_eq_false_iff, Bool.not_eq_true, Bool.not_eq_false, ne_eq, not_and, not_or, tog_t, tog_f, ahd_t, ahd_f, isoB_t, isoB_f, ixB_t, ixB_f, vOK_t, vOK_f, wOK_t, wOK_f, tn4, tI5, Int32.lt_iff_toInt_lt, Int32.le_iff_toInt_le, ← Int32.toInt_inj, tI0, tI1, tI2, tI3, tI4, tI6, tI14, tI59, tI60, tI127, tI1000, tI100000, tIm1, tIm2, tIm3, tIm4, tIbig] at c_1 c_2 c_3 c_4 c_5 c_6 c_7 ⊢; first | done | omega)))), ht⟩) (fun q h => by cases h) dX8_voice_131
                · skip
                  refine lv_iload_n hx hb dX8_voice_112 rfl (lv_at hl 3 rfl) ?_
                  refine lv_goto (tgt := 131) hx hb dX8_voice_113 (by decide) ?_
                  exact W.iret (v := lowM V P v k) hx hb hr (fun t ht _ => ⟨_, rfl, by (obtain rfl : k = n := by omega); exact ite_t (by (simp only [decide_eq_true_eq, decide_eq_false_iff_not, Bool.and_eq_true, Bool.and_eq_false_iff, Bool.or_eq_true, Bool.or_eq_false_iff, Bool.not_eq_true, Bool.not_eq_false, ne_eq, not_and, not_or, tog_t, tog_f, ahd_t, ahd_f, isoB_t, isoB_f, ixB_t, ixB_f, vOK_t, vOK_f, wOK_t, wOK_f, tn4, tI5, Int32.lt_iff_toInt_lt, Int32.le_iff_toInt_le, ← Int32.toInt_inj, tI0, tI1, tI2, tI3, tI4, tI6, tI14, tI59, tI60, tI127, tI1000, tI100000, tIm1, tIm2, tIm3, tIm4, tIbig] at c_1 c_2 c_3 c_4 c_5 c_6 ⊢; first | done | omega)) (sw3_0 (by first | assumption | ((simp only [decide_eq_true_eq, decide_eq_false_iff_not, Bool.and_eq_true, Bool.and_eq_false_iff, Bool.or_eq_true, Bool.or_eq_false_iff, Bool.not_eq_true, Bool.not_eq_false, ne_eq, not_and, not_or, tog_t, tog_f, ahd_t, ahd_f, isoB_t, isoB_f, ixB_t, ixB_f, vOK_t, vOK_f, wOK_t, wOK_f, tn4, tI5, Int32.lt_iff_toInt_lt, Int32.le_iff_toInt_le, ← Int32.toInt_inj, tI0, tI1, tI2, tI3, tI4, tI6, tI14, tI59, tI60, tI127, tI1000, tI100000, tIm1, tIm2, tIm3, tIm4, tIbig] at c_1 c_2 c_3 c_4 c_5 c_6 ⊢; first | done | omega)))), ht⟩) (fun q h => by cases h) dX8_voice_131
              · skip
                have c_5 : k < n := gk_geF (a := k) (b := n) (by first | omega | exact Nat.lt_of_le_of_lt atN_le (by omega) | exact Nat.lt_of_le_of_lt szN_le (by omega) | exact Nat.lt_of_le_of_lt clM_le (by omega) | exact Nat.lt_of_le_of_lt rkN_le (by omega) | exact Nat.lt_of_le_of_lt (cnt_le _ _) (by omega)) (by first | omega | exact Nat.lt_of_le_of_lt atN_le (by omega) | exact Nat.lt_of_le_of_lt szN_le (by omega) | exact Nat.lt_of_le_of_lt clM_le (by omega) | exact Nat.lt_of_le_of_lt rkN_le (by omega) | exact Nat.lt_of_le_of_lt (cnt_le _ _) (by omega)) c_5
                refine lv_aload_n hx hb dX8_voice_38 rfl (lv_at hl 0 rfl) ?_
                refine va_get (D := (dC, dI)) (ci := 8) (v := .ref (a 4)) (C := RX8) (T := TX8) (N := 10) hx hb hts i_X8 hown hK hP 0 rfl rfl 3 (by decide) k_1 (fun _ h9 => h9) rfl dX8_voice_39 ?_
                refine lv_iload hx hb dX8_voice_42 (lv_at hl 5 rfl) ?_
                refine gk_ld hx hb hK hP 4 0 rfl rfl k (by omega) (by omega) (v := V k) (rfl) dX8_voice_44 ?_
                refine lv_iload_n hx hb dX8_voice_45 rfl (lv_at hl 1 rfl) ?_
                refine lv_icmp_ne (tgt := 102) hx hb dX8_voice_46 (by decide) (fun c_9 => ?_) (fun c_9 => ?_)
                · skip
                  refine lv_iinc (v := nI (k + 1)) (lv' := [(5, .int (nI (k + 1))), (0, .ref (a 0)), (1, .int v), (2, .int w), (3, .int (lowM V P v k)), (4, .int (hiV V P v k))]) hx hb dX8_voice_102 hl (k := 5) rfl (gk_inc1 _) (by decide) rfl (fun ls hl => ?_)
                  refine lv_goto (tgt := 29) hx hb dX8_voice_105 (by decide) ?_
                  exact ih29 (k + 1) _ _ _ ls (by first | rfl | exact lowM_y (by (simp only [decide_eq_true_eq, decide_eq_false_iff_not, Bool.and_eq_true, Bool.and_eq_false_iff, Bool.or_eq_true, Bool.or_eq_false_iff, Bool.not_eq_true, Bool.not_eq_false, ne_eq, not_and, not_or, tog_t, tog_f, ahd_t, ahd_f, isoB_t, isoB_f, ixB_t, ixB_f, vOK_t, vOK_f, wOK_t, wOK_f, tn4, tI5, Int32.lt_iff_toInt_lt, Int32.le_iff_toInt_le, ← Int32.toInt_inj, tI0, tI1, tI2, tI3, tI4, tI6, tI14, tI59, tI60, tI127, tI1000, tI100000, tIm1, tIm2, tIm3, tIm4, tIbig] at c_1 c_2 c_3 c_4 c_5 c_9 ⊢; first | done | omega)) | exact lowM_n (by (simp only [decide_eq_true_eq, decide_eq_false_iff_not, Bool.and_eq_true, Bool.and_eq_false_iff, Bool.or_eq_true, Bool.or_eq_false_iff, Bool.not_eq_true, Bool.not_eq_false, ne_eq, not_and, not_or, tog_t, tog_f, ahd_t, ahd_f, isoB_t, isoB_f, ixB_t, ixB_f, vOK_t, vOK_f, wOK_t, wOK_f, tn4, tI5, Int32.lt_iff_toInt_lt, Int32.le_iff_toInt_le, ← Int32.toInt_inj, tI0, tI1, tI2, tI3, tI4, tI6, tI14, tI59, tI60, tI127, tI1000, tI100000, tIm1, tIm2, tIm3, tIm4, tIbig] at c_1 c_2 c_3 c_4 c_5 c_9 ⊢; first | done | omega))) (by first | rfl | exact hiV_y (by (simp only [decide_eq_true_eq, decide_eq_false_iff_not, Bool.and_eq_true, Bool.and_eq_false_iff, Bool.or_eq_true, Bool.or_eq_false_iff, Bool.not_eq_true, Bool.not_eq_false, ne_eq, not_and, not_or, tog_t, tog_f, ahd_t, ahd_f, isoB_t, isoB_f, ixB_t, ixB_f, vOK_t, vOK_f, wOK_t, wOK_f, tn4, tI5, Int32.lt_iff_toInt_lt, Int32.le_iff_toInt_le, ← Int32.toInt_inj, tI0, tI1, tI2, tI3, tI4, tI6, tI14, tI59, tI60, tI127, tI1000, tI100000, tIm1, tIm2, tIm3, tIm4, tIbig] at c_1 c_2 c_3 c_4 c_5 c_9 ⊢; first | done | omega)) | exact hiV_n (by (simp only [decide_eq_true_eq, decide_eq_false_iff_not, Bool.and_eq_true, Bool.and_eq_false_iff, Bool.or_eq_true, Bool.or_eq_false_iff, Bool.not_eq_true, Bool.not_eq_false, ne_eq, not_and, not_or, tog_t, tog_f, ahd_t, ahd_f, isoB_t, isoB_f, ixB_t, ixB_f, vOK_t, vOK_f, wOK_t, wOK_f, tn4, tI5, Int32.lt_iff_toInt_lt, Int32.le_iff_toInt_le, ← Int32.toInt_inj, tI0, tI1, tI2, tI3, tI4, tI6, tI14, tI59, tI60, tI127, tI1000, tI100000, tIm1, tIm2, tIm3, tIm4, tIbig] at c_1 c_2 c_3 c_4 c_5 c_9 ⊢; first | done | omega))) (by rfl) (by omega) (by omega) (lv_sub hl [1, 2, 3, 4, 5, 0] rfl)
                · skip
                  refine lv_iload_n hx hb dX8_voice_49 rfl (lv_at hl 3 rfl) ?_
                  refine lv_if_lt (tgt := 64) hx hb dX8_voice_50 (by decide) (fun c_10 => ?_) (fun c_10 => ?_)
                  · skip
                    refine lv_aload_n hx hb dX8_voice_64 rfl (lv_at hl 0 rfl) ?_
                    refine va_get (D := (dC, dI)) (ci := 8) (v := .ref (a 3)) (C := RX8) (T := TX8) (N := 10) hx hb hts i_X8 hown hK hP 0 rfl rfl 2 (by decide) k_2 (fun _ h9 => h9) rfl dX8_voice_65 ?_
                    refine lv_iload hx hb dX8_voice_68 (lv_at hl 5 rfl) ?_
                    refine gk_ld hx hb hK hP 3 0 rfl rfl k (by omega) (by omega) (v := P k) (rfl) dX8_voice_70 ?_
                    refine lv_goto (tgt := 75) hx hb dX8_voice_71 (by decide) ?_
                    refine lv_istore_n (lv' := [(3, .int (P k)), (0, .ref (a 0)), (1, .int v), (2, .int w), (4, .int (hiV V P v k)), (5, .int (nI k))]) hx hb dX8_voice_75 rfl hl (by decide) rfl (fun ls hl => ?_)
                    refine lv_aload_n hx hb dX8_voice_76 rfl (lv_at hl 1 rfl) ?_
                    refine va_get (D := (dC, dI)) (ci := 8) (v := .ref (a 3)) (C := RX8) (T := TX8) (N := 10) hx hb hts i_X8 hown hK hP 0 rfl rfl 2 (by decide) k_2 (fun _ h9 => h9) rfl dX8_voice_77 ?_
                    refine lv_iload hx hb dX8_voice_80 (lv_at hl 5 rfl) ?_
                    refine gk_ld hx hb hK hP 3 0 rfl rfl k (by omega) (by omega) (v := P k) (rfl) dX8_voice_82 ?_
                    refine lv_iload hx hb dX8_voice_83 (lv_at hl 4 rfl) ?_
                    refine lv_icmp_le (tgt := 98) hx hb dX8_voice_85 (by decide) (fun c_11 => ?_) (fun c_11 => ?_)
                    · skip
                      refine lv_iload hx hb dX8_voice_98 (lv_at hl 4 rfl) ?_
                      refine lv_istore (lv' := [(4, .int (hiV V P v k)), (3, .int (P k)), (0, .ref (a 0)), (1, .int v), (2, .int w), (5, .int (nI k))]) hx hb dX8_voice_100 hl (by decide) rfl (fun ls hl => ?_)
                      refine lv_iinc (v := nI (k + 1)) (lv' := [(5, .int (nI (k + 1))), (4, .int (hiV V P v k)), (3, .int (P k)), (0, .ref (a 0)), (1, .int v), (2, .int w)]) hx hb dX8_voice_102 hl (k := 5) rfl (gk_inc1 _) (by decide) rfl (fun ls hl => ?_)
                      refine lv_goto (tgt := 29) hx hb dX8_voice_105 (by decide) ?_
                      exact ih29 (k + 1) _ _ _ ls (by first | rfl | exact lowM_y (by (simp only [decide_eq_true_eq, decide_eq_false_iff_not, Bool.and_eq_true, Bool.and_eq_false_iff, Bool.or_eq_true, Bool.or_eq_false_iff, Bool.not_eq_true, Bool.not_eq_false, ne_eq, not_and, not_or, tog_t, tog_f, ahd_t, ahd_f, isoB_t, isoB_f, ixB_t, ixB_f, vOK_t, vOK_f, wOK_t, wOK_f, tn4, tI5, Int32.lt_iff_toInt_lt, Int32.le_iff_toInt_le, ← Int32.toInt_inj, tI0, tI1, tI2, tI3, tI4, tI6, tI14, tI59, tI60, tI127, tI1000, tI100000, tIm1, tIm2, tIm3, tIm4, tIbig] at c_1 c_2 c_3 c_4 c_5 c_9 c_10 c_11 ⊢; first | done | omega)) | exact lowM_n (by (simp only [decide_eq_true_eq, decide_eq_false_iff_not, Bool.and_eq_true, Bool.and_eq_false_iff, Bool.or_eq_true, Bool.or_eq_false_iff, Bool.not_eq_true, Bool.not_eq_false, ne_eq, not_and, not_or, tog_t, tog_f, ahd_t, ahd_f, isoB_t, isoB_f, ixB_t, ixB_f, vOK_t, vOK_f, wOK_t, wOK_f, tn4, tI5, Int32.lt_iff_toInt_lt, Int32.le_iff_toInt_le, ← Int32.toInt_inj, tI0, tI1, tI2, tI3, tI4, tI6, tI14, tI59, tI60, tI127, tI1000, tI100000, tIm1, tIm2, tIm3, tIm4, tIbig] at c_1 c_2 c_3 c_4 c_5 c_9 c_10 c_11 ⊢; first | done | omega))) (by first | rfl | exact hiV_y (by (simp only [decide_eq_true_eq, decide_eq_false_iff_not, Bool.and_eq_true, Bool.and_eq_false_iff, Bool.or_eq_true, Bool.or_eq_false_iff, Bool.not_eq_true, Bool.not_eq_false, ne_eq, not_and, not_or, tog_t, tog_f, ahd_t, ahd_f, isoB_t, isoB_f, ixB_t, ixB_f, vOK_t, vOK_f, wOK_t, wOK_f, tn4, tI5, Int32.lt_iff_toInt_lt, Int32.le_iff_toInt_le, ← Int32.toInt_inj, tI0, tI1, tI2, tI3, tI4, tI6, tI14, tI59, tI60, tI127, tI1000, tI100000, tIm1, tIm2, tIm3, tIm4, tIbig] at c_1 c_2 c_3 c_4 c_5 c_9 c_10 c_11 ⊢; first | done | omega)) | exact hiV_n (by (simp only [decide_eq_true_eq, decide_eq_false_iff_not, Bool.and_eq_true, Bool.and_eq_false_iff, Bool.or_eq_true, Bool.or_eq_false_iff, Bool.not_eq_true, Bool.not_eq_false, ne_eq, not_and, not_or, tog_t, tog_f, ahd_t, ahd_f, isoB_t, isoB_f, ixB_t, ixB_f, vOK_t, vOK_f, wOK_t, wOK_f, tn4, tI5, Int32.lt_iff_toInt_lt, Int32.le_iff_toInt_le, ← Int32.toInt_inj, tI0, tI1, tI2, tI3, tI4, tI6, tI14, tI59, tI60, tI127, tI1000, tI100000, tIm1, tIm2, tIm3, tIm4, tIbig] at c_1 c_2 c_3 c_4 c_5 c_9 c_10 c_11 ⊢; first | done | omega))) (by rfl) (by omega) (by omega) (lv_sub hl [3, 4, 5, 2, 1, 0] rfl)
                    · skip
                      refine lv_aload_n hx hb dX8_voice_88 rfl (lv_at hl 1 rfl) ?_
                      refine va_get (D := (dC, dI)) (ci := 8) (v := .ref (a 3)) (C := RX8) (T := TX8) (N := 10) hx hb hts i_X8 hown hK hP 0 rfl rfl 2 (by decide) k_2 (fun _ h9 => h9) rfl dX8_voice_89 ?_
                      refine lv_iload hx hb dX8_voice_92 (lv_at hl 5 rfl) ?_
                      refine gk_ld hx hb hK hP 3 0 rfl rfl k (by omega) (by omega) (v := P k) (rfl) dX8_voice_94 ?_
                      refine lv_goto (tgt := 100) hx hb dX8_voice_95 (by decide) ?_
                      refine lv_istore (lv' := [(4, .int (P k)), (3, .int (P k)), (0, .ref (a 0)), (1, .int v), (2, .int w), (5, .int (nI k))]) hx hb dX8_voice_100 hl (by decide) rfl (fun ls hl => ?_)
                      refine lv_iinc (v := nI (k + 1)) (lv' := [(5, .int (nI (k + 1))), (4, .int (P k)), (3, .int (P k)), (0, .ref (a 0)), (1, .int v), (2, .int w)]) hx hb dX8_voice_102 hl (k := 5) rfl (gk_inc1 _) (by decide) rfl (fun ls hl => ?_)
                      refine lv_goto (tgt := 29) hx hb dX8_voice_105 (by decide) ?_
                      exact ih29 (k + 1) _ _ _ ls (by first | rfl | exact lowM_y (by (simp only [decide_eq_true_eq, decide_eq_false_iff_not, Bool.and_eq_true, Bool.and_eq_false_iff, Bool.or_eq_true, Bool.or_eq_false_iff, Bool.not_eq_true, Bool.not_eq_false, ne_eq, not_and, not_or, tog_t, tog_f, ahd_t, ahd_f, isoB_t, isoB_f, ixB_t, ixB_f, vOK_t, vOK_f, wOK_t, wOK_f, tn4, tI5, Int32.lt_iff_toInt_lt, Int32.le_iff_toInt_le, ← Int32.toInt_inj, tI0, tI1, tI2, tI3, tI4, tI6, tI14, tI59, tI60, tI127, tI1000, tI100000, tIm1, tIm2, tIm3, tIm4, tIbig] at c_1 c_2 c_3 c_4 c_5 c_9 c_10 c_11 ⊢; first | done | omega)) | exact lowM_n (by (simp only [decide_eq_true_eq, decide_eq_false_iff_not, Bool.and_eq_true, Bool.and_eq_false_iff, Bool.or_eq_true, Bool.or_eq_false_iff, Bool.not_eq_true, Bool.not_eq_false, ne_eq, not_and, not_or, tog_t, tog_f, ahd_t, ahd_f, isoB_t, isoB_f, ixB_t, ixB_f, vOK_t, vOK_f, wOK_t, wOK_f, tn4, tI5, Int32.lt_iff_toInt_lt, Int32.le_iff_toInt_le, ← Int32.toInt_inj, tI0, tI1, tI2, tI3, tI4, tI6, tI14, tI59, tI60, tI127, tI1000, tI100000, tIm1, tIm2, tIm3, tIm4, tIbig] at c_1 c_2 c_3 c_4 c_5 c_9 c_10 c_11 ⊢; first | done | omega))) (by first | rfl | exact hiV_y (by (simp only [decide_eq_true_eq, decide_eq_false_iff_not, Bool.and_eq_true, Bool.and_eq_false_iff, Bool.or_eq_true, Bool.or_eq_false_iff, Bool.not_eq_true, Bool.not_eq_false, ne_eq, not_and, not_or, tog_t, tog_f, ahd_t, ahd_f, isoB_t, isoB_f, ixB_t, ixB_f, vOK_t, vOK_f, wOK_t, wOK_f, tn4, tI5, Int32.lt_iff_toInt_lt, Int32.le_iff_toInt_le, ← Int32.toInt_inj, tI0, tI1, tI2, tI3, tI4, tI6, tI14, tI59, tI60, tI127, tI1000, tI100000, tIm1, tIm2, tIm3, tIm4, tIbig] at c_1 c_2 c_3 c_4 c_5 c_9 c_10 c_11 ⊢; first | done | omega)) | exact hiV_n (by (simp only [decide_eq_true_eq, decide_eq_false_iff_not, Bool.and_eq_true, Bool.and_eq_false_iff, Bool.or_eq_true, Bool.or_eq_false_iff, Bool.not_eq_true, Bool.not_eq_false, ne_eq, not_and, not_or, tog_t, tog_f, ahd_t, ahd_f, isoB_t, isoB_f, ixB_t, ixB_f, vOK_t, vOK_f, wOK_t, wOK_f, tn4, tI5, Int32.lt_iff_toInt_lt, Int32.le_iff_toInt_le, ← Int32.toInt_inj, tI0, tI1, tI2, tI3, tI4, tI6, tI14, tI59, tI60, tI127, tI1000, tI100000, tIm1, tIm2, tIm3, tIm4, tIbig] at c_1 c_2 c_3 c_4 c_5 c_9 c_10 c_11 ⊢; first | done | omega))) (by rfl) (by omega) (by omega) (lv_sub hl [3, 4, 5, 2, 1, 0] rfl)
                  · skip
                    refine lv_aload_n hx hb dX8_voice_53 rfl (lv_at hl 0 rfl) ?_
                    refine va_get (D := (dC, dI)) (ci := 8) (v := .ref (a 3)) (C := RX8) (T := TX8) (N := 10) hx hb hts i_X8 hown hK hP 0 rfl rfl 2 (by decide) k_2 (fun _ h9 => h9) rfl dX8_voice_54 ?_
                    refine lv_iload hx hb dX8_voice_57 (lv_at hl 5 rfl) ?_
                    refine gk_ld hx hb hK hP 3 0 rfl rfl k (by omega) (by omega) (v := P k) (rfl) dX8_voice_59 ?_
                    refine lv_iload_n hx hb dX8_voice_60 rfl (lv_at hl 3 rfl) ?_
                    refine lv_icmp_ge (tgt := 74) hx hb dX8_voice_61 (by decide) (fun c_12 => ?_) (fun c_12 => ?_)
                    · skip
                      refine lv_iload_n hx hb dX8_voice_74 rfl (lv_at hl 3 rfl) ?_
                      refine lv_istore_n (lv' := [(3, .int (lowM V P v k)), (0, .ref (a 0)), (1, .int v), (2, .int w), (4, .int (hiV V P v k)), (5, .int (nI k))]) hx hb dX8_voice_75 rfl hl (by decide) rfl (fun ls hl => ?_)
                      refine lv_aload_n hx hb dX8_voice_76 rfl (lv_at hl 1 rfl) ?_
                      refine va_get (D := (dC, dI)) (ci := 8) (v := .ref (a 3)) (C := RX8) (T := TX8) (N := 10) hx hb hts i_X8 hown hK hP 0 rfl rfl 2 (by decide) k_2 (fun _ h9 => h9) rfl dX8_voice_77 ?_
                      refine lv_iload hx hb dX8_voice_80 (lv_at hl 5 rfl) ?_
                      refine gk_ld hx hb hK hP 3 0 rfl rfl k (by omega) (by omega) (v := P k) (rfl) dX8_voice_82 ?_
                      refine lv_iload hx hb dX8_voice_83 (lv_at hl 4 rfl) ?_
                      refine lv_icmp_le (tgt := 98) hx hb dX8_voice_85 (by decide) (fun c_13 => ?_) (fun c_13 => ?_)
                      · skip
                        refine lv_iload hx hb dX8_voice_98 (lv_at hl 4 rfl) ?_
                        refine lv_istore (lv' := [(4, .int (hiV V P v k)), (3, .int (lowM V P v k)), (0, .ref (a 0)), (1, .int v), (2, .int w), (5, .int (nI k))]) hx hb dX8_voice_100 hl (by decide) rfl (fun ls hl => ?_)
                        refine lv_iinc (v := nI (k + 1)) (lv' := [(5, .int (nI (k + 1))), (4, .int (hiV V P v k)), (3, .int (lowM V P v k)), (0, .ref (a 0)), (1, .int v), (2, .int w)]) hx hb dX8_voice_102 hl (k := 5) rfl (gk_inc1 _) (by decide) rfl (fun ls hl => ?_)
                        refine lv_goto (tgt := 29) hx hb dX8_voice_105 (by decide) ?_
                        exact ih29 (k + 1) _ _ _ ls (by first | rfl | exact lowM_y (by (simp only [decide_eq_true_eq, decide_eq_false_iff_not, Bool.and_eq_true, Bool.and_eq_false_iff, Bool.or_eq_true, Bool.or_eq_false_iff, Bool.not_eq_true, Bool.not_eq_false, ne_eq, not_and, not_or, tog_t, tog_f, ahd_t, ahd_f, isoB_t, isoB_f, ixB_t, ixB_f, vOK_t, vOK_f, wOK_t, wOK_f, tn4, tI5, Int32.lt_iff_toInt_lt, Int32.le_iff_toInt_le, ← Int32.toInt_inj, tI0, tI1, tI2, tI3, tI4, tI6, tI14, tI59, tI60, tI127, tI1000, tI100000, tIm1, tIm2, tIm3, tIm4, tIbig] at c_1 c_2 c_3 c_4 c_5 c_9 c_10 c_12 c_13 ⊢; first | done | omega)) | exact lowM_n (by (simp only [decide_eq_true_eq, decide_eq_false_iff_not, Bool.and_eq_true, Bool.and_eq_false_iff, Bool.or_eq_true, Bool.or_eq_false_iff, Bool.not_eq_true, Bool.not_eq_false, ne_eq, not_and, not_or, tog_t, tog_f, ahd_t, ahd_f, isoB_t, isoB_f, ixB_t, ixB_f, vOK_t, vOK_f, wOK_t, wOK_f, tn4, tI5, Int32.lt_iff_toInt_lt, Int32.le_iff_toInt_le, ← Int32.toInt_inj, tI0, tI1, tI2, tI3, tI4, tI6, tI14, tI59, tI60, tI127, tI1000, tI100000, tIm1, tIm2, tIm3, tIm4, tIbig] at c_1 c_2 c_3 c_4 c_5 c_9 c_10 c_12 c_13 ⊢; first | done | omega))) (by first | rfl | exact hiV_y (by (simp only [decide_eq_true_eq, decide_eq_false_iff_not, Bool.and_eq_true, Bool.and_eq_false_iff, Bool.or_eq_true, Bool.or_eq_false_iff, Bool.not_eq_true, Bool.not_eq_false, ne_eq, not_and, not_or, tog_t, tog_f, ahd_t, ahd_f, isoB_t, isoB_f, ixB_t, ixB_f, vOK_t, vOK_f, wOK_t, wOK_f, tn4, tI5, Int32.lt_iff_toInt_lt, Int32.le_iff_toInt_le, ← Int32.toInt_inj, tI0, tI1, tI2, tI3, tI4, tI6, tI14, tI59, tI60, tI127, tI1000, tI100000, tIm1, tIm2, tIm3, tIm4, tIbig] at c_1 c_2 c_3 c_4 c_5 c_9 c_10 c_12 c_13 ⊢; first | done | omega)) | exact hiV_n (by (simp only [decide_eq_true_eq, decide_eq_false_iff_not, Bool.and_eq_true, Bool.and_eq_false_iff, Bool.or_eq_true, Bool.or_eq_false_iff, Bool.not_eq_true, Bool.not_eq_false, ne_eq, not_and, not_or, tog_t, tog_f, ahd_t, ahd_f, isoB_t, isoB_f, ixB_t, ixB_f, vOK_t, vOK_f, wOK_t, wOK_f, tn4, tI5, Int32.lt_iff_toInt_lt, Int32.le_iff_toInt_le, ← Int32.toInt_inj, tI0, tI1, tI2, tI3, tI4, tI6, tI14, tI59, tI60, tI127, tI1000, tI100000, tIm1, tIm2, tIm3, tIm4, tIbig] at c_1 c_2 c_3 c_4 c_5 c_9 c_10 c_12 c_13 ⊢; first | done | omega))) (by rfl) (by omega) (by omega) (lv_sub hl [3, 4, 5, 2, 1, 0] rfl)
                      · skip
                        refine lv_aload_n hx hb dX8_voice_88 rfl (lv_at hl 1 rfl) ?_
                        refine va_get (D := (dC, dI)) (ci := 8) (v := .ref (a 3)) (C := RX8) (T := TX8) (N := 10) hx hb hts i_X8 hown hK hP 0 rfl rfl 2 (by decide) k_2 (fun _ h9 => h9) rfl dX8_voice_89 ?_
                        refine lv_iload hx hb dX8_voice_92 (lv_at hl 5 rfl) ?_
                        refine gk_ld hx hb hK hP 3 0 rfl rfl k (by omega) (by omega) (v := P k) (rfl) dX8_voice_94 ?_
                        refine lv_goto (tgt := 100) hx hb dX8_voice_95 (by decide) ?_
                        refine lv_istore (lv' := [(4, .int (P k)), (3, .int (lowM V P v k)), (0, .ref (a 0)), (1, .int v), (2, .int w), (5, .int (nI k))]) hx hb dX8_voice_100 hl (by decide) rfl (fun ls hl => ?_)
                        refine lv_iinc (v := nI (k + 1)) (lv' := [(5, .int (nI (k + 1))), (4, .int (P k)), (3, .int (lowM V P v k)), (0, .ref (a 0)), (1, .int v), (2, .int w)]) hx hb dX8_voice_102 hl (k := 5) rfl (gk_inc1 _) (by decide) rfl (fun ls hl => ?_)
                        refine lv_goto (tgt := 29) hx hb dX8_voice_105 (by decide) ?_
                        exact ih29 (k + 1) _ _ _ ls (by first | rfl | exact lowM_y (by (simp only [decide_eq_true_eq, decide_eq_false_iff_not, Bool.and_eq_true, Bool.and_eq_false_iff, Bool.or_eq_true, Bool.or_eq_false_iff, Bool.not_eq_true, Bool.not_eq_false, ne_eq, not_and, not_or, tog_t, tog_f, ahd_t, ahd_f, isoB_t, isoB_f, ixB_t, ixB_f, vOK_t, vOK_f, wOK_t, wOK_f, tn4, tI5, Int32.lt_iff_toInt_lt, Int32.le_iff_toInt_le, ← Int32.toInt_inj, tI0, tI1, tI2, tI3, tI4, tI6, tI14, tI59, tI60, tI127, tI1000, tI100000, tIm1, tIm2, tIm3, tIm4, tIbig] at c_1 c_2 c_3 c_4 c_5 c_9 c_10 c_12 c_13 ⊢; first | done | omega)) | exact lowM_n (by (simp only [decide_eq_true_eq, decide_eq_false_iff_not, Bool.and_eq_true, Bool.and_eq_false_iff, Bool.or_eq_true, Bool.or_eq_false_iff, Bool.not_eq_true, Bool.not_eq_false, ne_eq, not_and, not_or, tog_t, tog_f, ahd_t, ahd_f, isoB_t, isoB_f, ixB_t, ixB_f, vOK_t, vOK_f, wOK_t, wOK_f, tn4, tI5, Int32.lt_iff_toInt_lt, Int32.le_iff_toInt_le, ← Int32.toInt_inj, tI0, tI1, tI2, tI3, tI4, tI6, tI14, tI59, tI60, tI127, tI1000, tI100000, tIm1, tIm2, tIm3, tIm4, tIbig] at c_1 c_2 c_3 c_4 c_5 c_9 c_10 c_12 c_13 ⊢; first | done | omega))) (by first | rfl | exact hiV_y (by (simp only [decide_eq_true_eq, decide_eq_false_iff_not, Bool.and_eq_true, Bool.and_eq_false_iff, Bool.or_eq_true, Bool.or_eq_false_iff, Bool.not_eq_true, Bool.not_eq_false, ne_eq, not_and, not_or, tog_t, tog_f, ahd_t, ahd_f, isoB_t, isoB_f, ixB_t, ixB_f, vOK_t, vOK_f, wOK_t, wOK_f, tn4, tI5, Int32.lt_iff_toInt_lt, Int32.le_iff_toInt_le, ← Int32.toInt_inj, tI0, tI1, tI2, tI3, tI4, tI6, tI14, tI59, tI60, tI127, tI1000, tI100000, tIm1, tIm2, tIm3, tIm4, tIbig] at c_1 c_2 c_3 c_4 c_5 c_9 c_10 c_12 c_13 ⊢; first | done | omega)) | exact hiV_n (by (simp only [decide_eq_true_eq, decide_eq_false_iff_not, Bool.and_eq_true, Bool.and_eq_false_iff, Bool.or_eq_true, Bool.or_eq_false_iff, Bool.not_eq_true, Bool.not_eq_false, ne_eq, not_and, not_or, tog_t, tog_f, ahd_t, ahd_f, isoB_t, isoB_f, ixB_t, ixB_f, vOK_t, vOK_f, wOK_t, wOK_f, tn4, tI5, Int32.lt_iff_toInt_lt, Int32.le_iff_toInt_le, ← Int32.toInt_inj, tI0, tI1, tI2, tI3, tI4, tI6, tI14, tI59, tI60, tI127, tI1000, tI100000, tIm1, tIm2, tIm3, tIm4, tIbig] at c_1 c_2 c_3 c_4 c_5 c_9 c_10 c_12 c_13 ⊢; first | done | omega))) (by rfl) (by omega) (by omega) (lv_sub hl [3, 4, 5, 2, 1, 0] rfl)
                    · skip
                      refine lv_aload_n hx hb dX8_voice_64 rfl (lv_at hl 0 rfl) ?_
                      refine va_get (D := (dC, dI)) (ci := 8) (v := .ref (a 3)) (C := RX8) (T := TX8) (N := 10) hx hb hts i_X8 hown hK hP 0 rfl rfl 2 (by decide) k_2 (fun _ h9 => h9) rfl dX8_voice_65 ?_
                      refine lv_iload hx hb dX8_voice_68 (lv_at hl 5 rfl) ?_
                      refine gk_ld hx hb hK hP 3 0 rfl rfl k (by omega) (by omega) (v := P k) (rfl) dX8_voice_70 ?_
                      refine lv_goto (tgt := 75) hx hb dX8_voice_71 (by decide) ?_
                      refine lv_istore_n (lv' := [(3, .int (P k)), (0, .ref (a 0)), (1, .int v), (2, .int w), (4, .int (hiV V P v k)), (5, .int (nI k))]) hx hb dX8_voice_75 rfl hl (by decide) rfl (fun ls hl => ?_)
                      refine lv_aload_n hx hb dX8_voice_76 rfl (lv_at hl 1 rfl) ?_
                      refine va_get (D := (dC, dI)) (ci := 8) (v := .ref (a 3)) (C := RX8) (T := TX8) (N := 10) hx hb hts i_X8 hown hK hP 0 rfl rfl 2 (by decide) k_2 (fun _ h9 => h9) rfl dX8_voice_77 ?_
                      refine lv_iload hx hb dX8_voice_80 (lv_at hl 5 rfl) ?_
                      refine gk_ld hx hb hK hP 3 0 rfl rfl k (by omega) (by omega) (v := P k) (rfl) dX8_voice_82 ?_
                      refine lv_iload hx hb dX8_voice_83 (lv_at hl 4 rfl) ?_
                      refine lv_icmp_le (tgt := 98) hx hb dX8_voice_85 (by decide) (fun c_14 => ?_) (fun c_14 => ?_)
                      · skip
                        refine lv_iload hx hb dX8_voice_98 (lv_at hl 4 rfl) ?_
                        refine lv_istore (lv' := [(4, .int (hiV V P v k)), (3, .int (P k)), (0, .ref (a 0)), (1, .int v), (2, .int w), (5, .int (nI k))]) hx hb dX8_voice_100 hl (by decide) rfl (fun ls hl => ?_)
                        refine lv_iinc (v := nI (k + 1)) (lv' := [(5, .int (nI (k + 1))), (4, .int (hiV V P v k)), (3, .int (P k)), (0, .ref (a 0)), (1, .int v), (2, .int w)]) hx hb dX8_voice_102 hl (k := 5) rfl (gk_inc1 _) (by decide) rfl (fun ls hl => ?_)
                        refine lv_goto (tgt := 29) hx hb dX8_voice_105 (by decide) ?_
                        exact ih29 (k + 1) _ _ _ ls (by first | rfl | exact lowM_y (by (simp only [decide_eq_true_eq, decide_eq_false_iff_not, Bool.and_eq_true, Bool.and_eq_false_iff, Bool.or_eq_true, Bool.or_eq_false_iff, Bool.not_eq_true, Bool.not_eq_false, ne_eq, not_and, not_or, tog_t, tog_f, ahd_t, ahd_f, isoB_t, isoB_f, ixB_t, ixB_f, vOK_t, vOK_f, wOK_t, wOK_f, tn4, tI5, Int32.lt_iff_toInt_lt, Int32.le_iff_toInt_le, ← Int32.toInt_inj, tI0, tI1, tI2, tI3, tI4, tI6, tI14, tI59, tI60, tI127, tI1000, tI100000, tIm1, tIm2, tIm3, tIm4, tIbig] at c_1 c_2 c_3 c_4 c_5 c_9 c_10 c_12 c_14 ⊢; first | done | omega)) | exact lowM_n (by (simp only [decide_eq_true_eq, decide_eq_false_iff_not, Bool.and_eq_true, Bool.and_eq_false_iff, Bool.or_eq_true, Bool.or_eq_false_iff, Bool.not_eq_true, Bool.not_eq_false, ne_eq, not_and, not_or, tog_t, tog_f, ahd_t, ahd_f, isoB_t, isoB_f, ixB_t, ixB_f, vOK_t, vOK_f, wOK_t, wOK_f, tn4, tI5, Int32.lt_iff_toInt_lt, Int32.le_iff_toInt_le, ← Int32.toInt_inj, tI0, tI1, tI2, tI3, tI4, tI6, tI14, tI59, tI60, tI127, tI1000, tI100000, tIm1, tIm2, tIm3, tIm4, tIbig] at c_1 c_2 c_3 c_4 c_5 c_9 c_10 c_12 c_14 ⊢; first | done | omega))) (by first | rfl | exact hiV_y (by (simp only [decide_eq_true_eq, decide_eq_false_iff_not, Bool.and_eq_true, Bool.and_eq_false_iff, Bool.or_eq_true, Bool.or_eq_false_iff, Bool.not_eq_true, Bool.not_eq_false, ne_eq, not_and, not_or, tog_t, tog_f, ahd_t, ahd_f, isoB_t, isoB_f, ixB_t, ixB_f, vOK_t, vOK_f, wOK_t, wOK_f, tn4, tI5, Int32.lt_iff_toInt_lt, Int32.le_iff_toInt_le, ← Int32.toInt_inj, tI0, tI1, tI2, tI3, tI4, tI6, tI14, tI59, tI60, tI127, tI1000, tI100000, tIm1, tIm2, tIm3, tIm4, tIbig] at c_1 c_2 c_3 c_4 c_5 c_9 c_10 c_12 c_14 ⊢; first | done | omega)) | exact hiV_n (by (simp only [decide_eq_true_eq, decide_eq_false_iff_not, Bool.and_eq_true, Bool.and_eq_false_iff, Bool.or_eq_true, Bool.or_eq_false_iff, Bool.not_eq_true, Bool.not_eq_false, ne_eq, not_and, not_or, tog_t, tog_f, ahd_t, ahd_f, isoB_t, isoB_f, ixB_t, ixB_f, vOK_t, vOK_f, wOK_t, wOK_f, tn4, tI5, Int32.lt_iff_toInt_lt, Int32.le_iff_toInt_le, ← Int32.toInt_inj, tI0, tI1, tI2, tI3, tI4, tI6, tI14, tI59, tI60, tI127, tI1000, tI100000, tIm1, tIm2, tIm3, tIm4, tIbig] at c_1 c_2 c_3 c_4 c_5 c_9 c_10 c_12 c_14 ⊢; first | done | omega))) (by rfl) (by omega) (by omega) (lv_sub hl [3, 4, 5, 2, 1, 0] rfl)
                      · skip
                        refine lv_aload_n hx hb dX8_voice_88 rfl (lv_at hl 1 rfl) ?_
                        refine va_get (D := (dC, dI)) (ci := 8) (v := .ref (a 3)) (C := RX8) (T := TX8) (N := 10) hx hb hts i_X8 hown hK hP 0 rfl rfl 2 (by decide) k_2 (fun _ h9 => h9) rfl dX8_voice_89 ?_
                        refine lv_iload hx hb dX8_voice_92 (lv_at hl 5 rfl) ?_
                        refine gk_ld hx hb hK hP 3 0 rfl rfl k (by omega) (by omega) (v := P k) (rfl) dX8_voice_94 ?_
                        refine lv_goto (tgt := 100) hx hb dX8_voice_95 (by decide) ?_
                        refine lv_istore (lv' := [(4, .int (P k)), (3, .int (P k)), (0, .ref (a 0)), (1, .int v), (2, .int w), (5, .int (nI k))]) hx hb dX8_voice_100 hl (by decide) rfl (fun ls hl => ?_)
                        refine lv_iinc (v := nI (k + 1)) (lv' := [(5, .int (nI (k + 1))), (4, .int (P k)), (3, .int (P k)), (0, .ref (a 0)), (1, .int v), (2, .int w)]) hx hb dX8_voice_102 hl (k := 5) rfl (gk_inc1 _) (by decide) rfl (fun ls hl => ?_)
                        refine lv_goto (tgt := 29) hx hb dX8_voice_105 (by decide) ?_
                        exact ih29 (k + 1) _ _ _ ls (by first | rfl | exact lowM_y (by (simp only [decide_eq_true_eq, decide_eq_false_iff_not, Bool.and_eq_true, Bool.and_eq_false_iff, Bool.or_eq_true, Bool.or_eq_false_iff, Bool.not_eq_true, Bool.not_eq_false, ne_eq, not_and, not_or, tog_t, tog_f, ahd_t, ahd_f, isoB_t, isoB_f, ixB_t, ixB_f, vOK_t, vOK_f, wOK_t, wOK_f, tn4, tI5, Int32.lt_iff_toInt_lt, Int32.le_iff_toInt_le, ← Int32.toInt_inj, tI0, tI1, tI2, tI3, tI4, tI6, tI14, tI59, tI60, tI127, tI1000, tI100000, tIm1, tIm2, tIm3, tIm4, tIbig] at c_1 c_2 c_3 c_4 c_5 c_9 c_10 c_12 c_14 ⊢; first | done | omega)) | exact lowM_n (by (simp only [decide_eq_true_eq, decide_eq_false_iff_not, Bool.and_eq_true, Bool.and_eq_false_iff, Bool.or_eq_true, Bool.or_eq_false_iff, Bool.not_eq_true, Bool.not_eq_false, ne_eq, not_and, not_or, tog_t, tog_f, ahd_t, ahd_f, isoB_t, isoB_f, ixB_t, ixB_f, vOK_t, vOK_f, wOK_t, wOK_f, tn4, tI5, Int32.lt_iff_toInt_lt, Int32.le_iff_toInt_le, ← Int32.toInt_inj, tI0, tI1, tI2, tI3, tI4, tI6, tI14, tI59, tI60, tI127, tI1000, tI100000, tIm1, tIm2, tIm3, tIm4, tIbig] at c_1 c_2 c_3 c_4 c_5 c_9 c_10 c_12 c_14 ⊢; first | done | omega))) (by first | rfl | exact hiV_y (by (simp only [decide_eq_true_eq, decide_eq_false_iff_not, Bool.and_eq_true, Bool.and_eq_false_iff, Bool.or_eq_true, Bool.or_eq_false_iff, Bool.not_eq_true, Bool.not_eq_false, ne_eq, not_and, not_or, tog_t, tog_f, ahd_t, ahd_f, isoB_t, isoB_f, ixB_t, ixB_f, vOK_t, vOK_f, wOK_t, wOK_f, tn4, tI5, Int32.lt_iff_toInt_lt, Int32.le_iff_toInt_le, ← Int32.toInt_inj, tI0, tI1, tI2, tI3, tI4, tI6, tI14, tI59, tI60, tI127, tI1000, tI100000, tIm1, tIm2, tIm3, tIm4, tIbig] at c_1 c_2 c_3 c_4 c_5 c_9 c_10 c_12 c_14 ⊢; first | done | omega)) | exact hiV_n (by (simp only [decide_eq_true_eq, decide_eq_false_iff_not, Bool.and_eq_true, Bool.and_eq_false_iff, Bool.or_eq_true, Bool.or_eq_false_iff, Bool.not_eq_true, Bool.not_eq_false, ne_eq, not_and, not_or, tog_t, tog_f, ahd_t, ahd_f, isoB_t, isoB_f, ixB_t, ixB_f, vOK_t, vOK_f, wOK_t, wOK_f, tn4, tI5, Int32.lt_iff_toInt_lt, Int32.le_iff_toInt_le, ← Int32.toInt_inj, tI0, tI1, tI2, tI3, tI4, tI6, tI14, tI59, tI60, tI127, tI1000, tI100000, tIm1, tIm2, tIm3, tIm4, tIbig] at c_1 c_2 c_3 c_4 c_5 c_9 c_10 c_12 c_14 ⊢; first | done | omega))) (by rfl) (by omega) (by omega) (lv_sub hl [3, 4, 5, 2, 1, 0] rfl)
          exact L29 ((n) + 1) 0 _ _ _ ls (by first | rfl | exact lowM_y (by (simp only [decide_eq_true_eq, decide_eq_false_iff_not, Bool.and_eq_true, Bool.and_eq_false_iff, Bool.or_eq_true, Bool.or_eq_false_iff, Bool.not_eq_true, Bool.not_eq_false, ne_eq, not_and, not_or, tog_t, tog_f, ahd_t, ahd_f, isoB_t, isoB_f, ixB_t, ixB_f, vOK_t, vOK_f, wOK_t, wOK_f, tn4, tI5, Int32.lt_iff_toInt_lt, Int32.le_iff_toInt_le, ← Int32.toInt_inj, tI0, tI1, tI2, tI3, tI4, tI6, tI14, tI59, tI60, tI127, tI1000, tI100000, tIm1, tIm2, tIm3, tIm4, tIbig] at c_1 c_2 c_3 c_4 ⊢; first | done | omega)) | exact lowM_n (by (simp only [decide_eq_true_eq, decide_eq_false_iff_not, Bool.and_eq_true, Bool.and_eq_false_iff, Bool.or_eq_true, Bool.or_eq_false_iff, Bool.not_eq_true, Bool.not_eq_false, ne_eq, not_and, not_or, tog_t, tog_f, ahd_t, ahd_f, isoB_t, isoB_f, ixB_t, ixB_f, vOK_t, vOK_f, wOK_t, wOK_f, tn4, tI5, Int32.lt_iff_toInt_lt, Int32.le_iff_toInt_le, ← Int32.toInt_inj, tI0, tI1, tI2, tI3, tI4, tI6, tI14, tI59, tI60, tI127, tI1000, tI100000, tIm1, tIm2, tIm3, tIm4, tIbig] at c_1 c_2 c_3 c_4 ⊢; first | done | omega))) (by first | rfl | exact hiV_y (by (simp only [decide_eq_true_eq, decide_eq_false_iff_not, Bool.and_eq_true, Bool.and_eq_false_iff, Bool.or_eq_true, Bool.or_eq_false_iff, Bool.not_eq_true, Bool.not_eq_false, ne_eq, not_and, not_or, tog_t, tog_f, ahd_t, ahd_f, isoB_t, isoB_f, ixB_t, ixB_f, vOK_t, vOK_f, wOK_t, wOK_f, tn4, tI5, Int32.lt_iff_toInt_lt, Int32.le_iff_toInt_le, ← Int32.toInt_inj, tI0, tI1, tI2, tI3, tI4, tI6, tI14, tI59, tI60, tI127, tI1000, tI100000, tIm1, tIm2, tIm3, tIm4, tIbig] at c_1 c_2 c_3 c_4 ⊢; first | done | omega)) | exact hiV_n (by (simp only [decide_eq_true_eq, decide_eq_false_iff_not, Bool.and_eq_true, Bool.and_eq_false_iff, Bool.or_eq_true, Bool.or_eq_false_iff, Bool.not_eq_true, Bool.not_eq_false, ne_eq, not_and, not_or, tog_t, tog_f, ahd_t, ahd_f, isoB_t, isoB_f, ixB_t, ixB_f, vOK_t, vOK_f, wOK_t, wOK_f, tn4, tI5, Int32.lt_iff_toInt_lt, Int32.le_iff_toInt_le, ← Int32.toInt_inj, tI0, tI1, tI2, tI3, tI4, tI6, tI14, tI59, tI60, tI127, tI1000, tI100000, tIm1, tIm2, tIm3, tIm4, tIbig] at c_1 c_2 c_3 c_4 ⊢; first | done | omega))) (by rfl) (by omega) (by omega) (lv_sub hl [3, 4, 5, 2, 1, 0] rfl)
        · skip
          refine lv_bipush (v := (-2)) hx hb dX8_voice_18 (by decide) ?_
          exact W.iret (v := (-2)) hx hb hr (fun t ht _ => ⟨_, rfl, by first | exact ite_f (by (simp only [decide_eq_true_eq, decide_eq_false_iff_not, Bool.and_eq_true, Bool.and_eq_false_iff, Bool.or_eq_true, Bool.or_eq_false_iff, Bool.not_eq_true, Bool.not_eq_false, ne_eq, not_and, not_or, tog_t, tog_f, ahd_t, ahd_f, isoB_t, isoB_f, ixB_t, ixB_f, vOK_t, vOK_f, wOK_t, wOK_f, tn4, tI5, Int32.lt_iff_toInt_lt, Int32.le_iff_toInt_le, ← Int32.toInt_inj, tI0, tI1, tI2, tI3, tI4, tI6, tI14, tI59, tI60, tI127, tI1000, tI100000, tIm1, tIm2, tIm3, tIm4, tIbig] at c_1 c_2 c_3 c_4 ⊢; first | done | omega)) rfl | exact ite_t (by (simp only [decide_eq_true_eq, decide_eq_false_iff_not, Bool.and_eq_true, Bool.and_eq_false_iff, Bool.or_eq_true, Bool.or_eq_false_iff, Bool.not_eq_true, Bool.not_eq_false, ne_eq, not_and, not_or, tog_t, tog_f, ahd_t, ahd_f, isoB_t, isoB_f, ixB_t, ixB_f, vOK_t, vOK_f, wOK_t, wOK_f, tn4, tI5, Int32.lt_iff_toInt_lt, Int32.le_iff_toInt_le, ← Int32.toInt_inj, tI0, tI1, tI2, tI3, tI4, tI6, tI14, tI59, tI60, tI127, tI1000, tI100000, tIm1, tIm2, tIm3, tIm4, tIbig] at c_1 c_2 c_3 c_4 ⊢; first | done | omega)) (sw3_o (by (simp only [decide_eq_true_eq, decide_eq_false_iff_not, Bool.and_eq_true, Bool.and_eq_false_iff, Bool.or_eq_true, Bool.or_eq_false_iff, Bool.not_eq_true, Bool.not_eq_false, ne_eq, not_and, not_or, tog_t, tog_f, ahd_t, ahd_f, isoB_t, isoB_f, ixB_t, ixB_f, vOK_t, vOK_f, wOK_t, wOK_f, tn4, tI5, Int32.lt_iff_toInt_lt, Int32.le_iff_toInt_le, ← Int32.toInt_inj, tI0, tI1, tI2, tI3, tI4, tI6, tI14, tI59, tI60, tI127, tI1000, tI100000, tIm1, tIm2, tIm3, tIm4, tIbig] at c_1 c_2 c_3 c_4 ⊢; first | done | omega)))| (by_cases hvv : 0 ≤ v ∧ v ≤ 3; (exact ite_t hvv (sw3_o (by (simp only [decide_eq_true_eq, decide_eq_false_iff_not, Bool.and_eq_true, Bool.and_eq_false_iff, Bool.or_eq_true, Bool.or_eq_false_iff, Bool.not_eq_true, Bool.not_eq_false, ne_eq, not_and, not_or, tog_t, tog_f, ahd_t, ahd_f, isoB_t, isoB_f, ixB_t, ixB_f, vOK_t, vOK_f, wOK_t, wOK_f, tn4, tI5, Int32.lt_iff_toInt_lt, Int32.le_iff_toInt_le, ← Int32.toInt_inj, tI0, tI1, tI2, tI3, tI4, tI6, tI14, tI59, tI60, tI127, tI1000, tI100000, tIm1, tIm2, tIm3, tIm4, tIbig] at hvv c_1 c_2 c_3 c_4 ⊢; first | done | omega)))); exact ite_f hvv rfl), ht⟩) (fun q h => by cases h) dX8_voice_20

set_option maxHeartbeats 1000000 in
set_option maxRecDepth 100000 in
theorem c_X7_told (l : Launch) (dC : Nat → ClassId) (dI : Nat → Nat → Nat) (cI : ClassId) (b : Nat → Nat) (n : Nat) (F T P V : Nat → Int32) (o kr : Nat → Nat) (Wt : Nat → Int32) (rc : Int32) (RB RE : Nat → Int32) (p1 p2 : Int32) (LA : Nat → Int32) (vs : Int32) (PL : Nat → Int32) (kn kl : Nat) (KN CH : Nat → Int32) (hn : n ≤ 60) (ho : ∀ j, o j < 60) (hkr : ∀ j, j < n → kr j < n) (w : Int32) : Met l yX7_told wsX7_told ({ frames := 2, cells := 0, slots := 0, locals := 45 } : Room) (va_Pc [.ref (b 0), .int w] (fun U => va_P (dC, dI) vwCl (xW cI b (nI n) F T P V (fun j => nI (o j)) (fun j => nI (kr j)) Wt rc RB RE p1 p2 LA vs PL kn kl KN CH) U.heap ∧ va_K (dC, dI) vwCl [(cI, .int)] U)) (vp_Si (fun r => r = sw5 w (nI n) (nI n - nI (szN V n (-1))) (mxT T n) (b2i (whC F T V o kr n)) (nI (usN V n)))) 0 0 (fun _ => False) := by
  refine Met.ofW (cc := cX7_told) (maxL := 2) (ret := (some .int)) (by decide) rfl ?_
  intro p e s m args below meth c s₁ B hml hv
  obtain ⟨rfl, hP, hK⟩ := hv
  have hx := B.exec
  have hb := B.bytes
  have hr := B.returns
  have hts := atoms_spec (ws := wsX7_told) B.pre
  have hown : s.vm.findClass RX7 = some m.cls := findClass_of_methodNamed B.named
  have hlocks := B.notSynchronized
  have i_X7 : ∀ w ∈ u_ws RX7 TX7 7, w ∈ wsX7_told := by decide +kernel
  have i_X6 : ∀ w ∈ u_ws RX6 TX6 7, w ∈ wsX7_told := by decide +kernel
  have k_0 := hts (.fieldLink RX7 10 "VoiceRows" "score" "LVoiceRows$Score;") (by decide +kernel)
  have k_1 := hts (.fieldLink RX7 74 "VoiceRows$Score" "count" "I") (by decide +kernel)
  have hl := lv_entry ([.ref (b 0), .int w]) (n := 2) (Nat.le_of_ble_eq_true rfl)
  rw [lg_entry_eq]
  generalize (lg_sl ([.ref (b 0), .int w]) ++ List.replicate (2 - (lg_sl ([.ref (b 0), .int w])).length) Slot.unset).toArray = ls at hl ⊢
  have hl : lv_has ls 2 [(0, .ref (b 0)), (1, .int w)] := hl
  refine lv_iload_n hx hb dX7_told_0 rfl (lv_at hl 1 rfl) ?_
  by_cases c_1 : w = 0
  · skip
    refine lv_tableIn (tgt := 36) hx hb dX7_told_1 (by rw [c_1]; decide) (by rw [c_1]; decide) (by rw [c_1]; rfl) (by decide) ?_
    refine lv_aload_n hx hb dX7_told_36 rfl (lv_at hl 0 rfl) ?_
    refine va_get (D := (dC, dI)) (ci := 7) (v := .ref (b 1)) (C := RX7) (T := TX7) (N := 7) hx hb hts i_X7 hown hK hP 0 rfl rfl 0 (by decide) k_0 (fun _ h9 => h9) rfl dX7_told_37 ?_
    refine va_get (D := (dC, dI)) (ci := 6) (v := .int (nI n)) (C := RX6) (T := TX6) (N := 7) hx hb hts i_X6 hown hK hP 1 rfl rfl 0 (by decide) k_1 (fun _ h9 => h9) rfl dX7_told_40 ?_
    exact W.iret (v := nI n) hx hb hr (fun t ht _ => ⟨_, rfl, by exact sw5_0 (by first | assumption | ((simp only [decide_eq_true_eq, decide_eq_false_iff_not, Bool.and_eq_true, Bool.and_eq_false_iff, Bool.or_eq_true, Bool.or_eq_false_iff, Bool.not_eq_true, Bool.not_eq_false, ne_eq, not_and, not_or, tog_t, tog_f, ahd_t, ahd_f, isoB_t, isoB_f, ixB_t, ixB_f, vOK_t, vOK_f, wOK_t, wOK_f, tn4, tI5, Int32.lt_iff_toInt_lt, Int32.le_iff_toInt_le, ← Int32.toInt_inj, tI0, tI1, tI2, tI3, tI4, tI6, tI14, tI59, tI60, tI127, tI1000, tI100000, tIm1, tIm2, tIm3, tIm4, tIbig] at c_1 ⊢; first | done | omega))), ht⟩) (fun q h => by cases h) dX7_told_43
  have n_2 := c_1
  by_cases c_3 : w = 1
  · skip
    refine lv_tableIn (tgt := 44) hx hb dX7_told_1 (by rw [c_3]; decide) (by rw [c_3]; decide) (by rw [c_3]; rfl) (by decide) ?_
    refine lv_aload_n hx hb dX7_told_44 rfl (lv_at hl 0 rfl) ?_
    refine va_get (D := (dC, dI)) (ci := 7) (v := .ref (b 1)) (C := RX7) (T := TX7) (N := 7) hx hb hts i_X7 hown hK hP 0 rfl rfl 0 (by decide) k_0 (fun _ h9 => h9) rfl dX7_told_45 ?_
    refine va_get (D := (dC, dI)) (ci := 6) (v := .int (nI n)) (C := RX6) (T := TX6) (N := 7) hx hb hts i_X6 hown hK hP 1 rfl rfl 0 (by decide) k_1 (fun _ h9 => h9) rfl dX7_told_48 ?_
    refine lv_aload_n hx hb dX7_told_51 rfl (lv_at hl 0 rfl) ?_
    refine va_get (D := (dC, dI)) (ci := 7) (v := .ref (b 1)) (C := RX7) (T := TX7) (N := 7) hx hb hts i_X7 hown hK hP 0 rfl rfl 0 (by decide) k_0 (fun _ h9 => h9) rfl dX7_told_52 ?_
    refine lv_iconst (v := (-1)) hx hb dX7_told_55 (by decide) ?_
    have hPc_4 := hP.sub (ws' := (sW cI b (nI n) F T P V (fun j => nI (o j)) (fun j => nI (kr j)))) [1, 2, 3, 4, 5, 6, 7] rfl
    refine vp_callSi (gk_run (va_runV (As := [.int (-1)]) (rest := [.int (nI n)]) ⟨hx, hb, hml, hown, hts⟩ (c_X6_notesIn l dC dI cI b n F T P V (fun j => nI (o j)) (fun j => nI (kr j)) hn (-1)) (cwV 1 hts gX7_told_X6_notesIn rfl rfl rfl (by decide +kernel) ⟨Nat.le_of_ble_eq_true rfl, Nat.le_of_ble_eq_true rfl⟩) ⟨gk_fb, va_recv hK hPc_4 (ci := 6) (q0 := 0) rfl rfl, fun U hU hW => ⟨rfl, by rw [hU]; exact hPc_4, va_K.moved hW.alike hK⟩⟩ rfl rfl hl.1 rfl (lv_room (Nat.le_of_ble_eq_true rfl)) dX7_told_56 ⟨Nat.zero_le _, Nat.zero_le _⟩)) (fun r_5 er_5 => ?_)
    subst er_5
    refine lv_isub hx hb dX7_told_59 ?_
    exact W.iret (v := (nI n) - (nI (szN V n (-1)))) hx hb hr (fun t ht _ => ⟨_, rfl, by exact sw5_1 (by first | assumption | ((simp only [decide_eq_true_eq, decide_eq_false_iff_not, Bool.and_eq_true, Bool.and_eq_false_iff, Bool.or_eq_true, Bool.or_eq_false_iff, Bool.not_eq_true, Bool.not_eq_false, ne_eq, not_and, not_or, tog_t, tog_f, ahd_t, ahd_f, isoB_t, isoB_f, ixB_t, ixB_f, vOK_t, vOK_f, wOK_t, wOK_f, tn4, tI5, Int32.lt_iff_toInt_lt, Int32.le_iff_toInt_le, ← Int32.toInt_inj, tI0, tI1, tI2, tI3, tI4, tI6, tI14, tI59, tI60, tI127, tI1000, tI100000, tIm1, tIm2, tIm3, tIm4, tIbig] at n_2 c_3 ⊢; first | done | omega))), ht⟩) (fun q h => by cases h) dX7_told_60
  have n_6 := c_3
  by_cases c_7 : w = 2
  · skip
    refine lv_tableIn (tgt := 61) hx hb dX7_told_1 (by rw [c_7]; decide) (by rw [c_7]; decide) (by rw [c_7]; rfl) (by decide) ?_
    refine lv_aload_n hx hb dX7_told_61 rfl (lv_at hl 0 rfl) ?_
    refine va_get (D := (dC, dI)) (ci := 7) (v := .ref (b 1)) (C := RX7) (T := TX7) (N := 7) hx hb hts i_X7 hown hK hP 0 rfl rfl 0 (by decide) k_0 (fun _ h9 => h9) rfl dX7_told_62 ?_
    have hPc_8 := hP.sub (ws' := (sW cI b (nI n) F T P V (fun j => nI (o j)) (fun j => nI (kr j)))) [1, 2, 3, 4, 5, 6, 7] rfl
    refine vp_callSi (gk_run (va_runV (As := []) (rest := []) ⟨hx, hb, hml, hown, hts⟩ (c_X6_theEnd l dC dI cI b n F T P V (fun j => nI (o j)) (fun j => nI (kr j)) hn) (cwV 0 hts gX7_told_X6_theEnd rfl rfl rfl (by decide +kernel) ⟨Nat.le_of_ble_eq_true rfl, Nat.le_of_ble_eq_true rfl⟩) ⟨gk_fb, va_recv hK hPc_8 (ci := 6) (q0 := 0) rfl rfl, fun U hU hW => ⟨rfl, by rw [hU]; exact hPc_8, va_K.moved hW.alike hK⟩⟩ rfl rfl hl.1 rfl (lv_room (Nat.le_of_ble_eq_true rfl)) dX7_told_65 ⟨Nat.zero_le _, Nat.zero_le _⟩)) (fun r_9 er_9 => ?_)
    subst er_9
    exact W.iret (v := mxT T n) hx hb hr (fun t ht _ => ⟨_, rfl, by exact sw5_2 (by first | assumption | ((simp only [decide_eq_true_eq, decide_eq_false_iff_not, Bool.and_eq_true, Bool.and_eq_false_iff, Bool.or_eq_true, Bool.or_eq_false_iff, Bool.not_eq_true, Bool.not_eq_false, ne_eq, not_and, not_or, tog_t, tog_f, ahd_t, ahd_f, isoB_t, isoB_f, ixB_t, ixB_f, vOK_t, vOK_f, wOK_t, wOK_f, tn4, tI5, Int32.lt_iff_toInt_lt, Int32.le_iff_toInt_le, ← Int32.toInt_inj, tI0, tI1, tI2, tI3, tI4, tI6, tI14, tI59, tI60, tI127, tI1000, tI100000, tIm1, tIm2, tIm3, tIm4, tIbig] at n_2 n_6 c_7 ⊢; first | done | omega))), ht⟩) (fun q h => by cases h) dX7_told_68
  have n_10 := c_7
  by_cases c_11 : w = 3
  · skip
    refine lv_tableIn (tgt := 69) hx hb dX7_told_1 (by rw [c_11]; decide) (by rw [c_11]; decide) (by rw [c_11]; rfl) (by decide) ?_
    refine lv_aload_n hx hb dX7_told_69 rfl (lv_at hl 0 rfl) ?_
    refine va_get (D := (dC, dI)) (ci := 7) (v := .ref (b 1)) (C := RX7) (T := TX7) (N := 7) hx hb hts i_X7 hown hK hP 0 rfl rfl 0 (by decide) k_0 (fun _ h9 => h9) rfl dX7_told_70 ?_
    have hPc_12 := hP.sub (ws' := (sW cI b (nI n) F T P V (fun j => nI (o j)) (fun j => nI (kr j)))) [1, 2, 3, 4, 5, 6, 7] rfl
    refine vp_callSi (gk_run (va_runV (As := []) (rest := []) ⟨hx, hb, hml, hown, hts⟩ (c_X6_isWhole l dC dI cI b n F T P V o kr hn ho hkr) (cwV 0 hts gX7_told_X6_isWhole rfl rfl rfl (by decide +kernel) ⟨Nat.le_of_ble_eq_true rfl, Nat.le_of_ble_eq_true rfl⟩) ⟨gk_fb, va_recv hK hPc_12 (ci := 6) (q0 := 0) rfl rfl, fun U hU hW => ⟨rfl, by rw [hU]; exact hPc_12, va_K.moved hW.alike hK⟩⟩ rfl rfl hl.1 rfl (lv_room (Nat.le_of_ble_eq_true rfl)) dX7_told_73 ⟨Nat.zero_le _, Nat.zero_le _⟩)) (fun r_13 er_13 => ?_)
    subst er_13
    refine lv_if_eq (tgt := 83) hx hb dX7_told_76 (by decide) (fun c_14 => ?_) (fun c_14 => ?_)
    · skip
      have c_14 : (whC F T V o kr n) = false := b2i_0.mp c_14
      refine lv_iconst (v := 0) hx hb dX7_told_83 (by decide) ?_
      exact W.iret (v := 0) hx hb hr (fun t ht _ => ⟨_, rfl, by exact sw5_3 (by first | assumption | ((simp only [decide_eq_true_eq, decide_eq_false_iff_not, Bool.and_eq_true, Bool.and_eq_false_iff, Bool.or_eq_true, Bool.or_eq_false_iff, Bool.not_eq_true, Bool.not_eq_false, ne_eq, not_and, not_or, tog_t, tog_f, ahd_t, ahd_f, isoB_t, isoB_f, ixB_t, ixB_f, vOK_t, vOK_f, wOK_t, wOK_f, tn4, tI5, Int32.lt_iff_toInt_lt, Int32.le_iff_toInt_le, ← Int32.toInt_inj, tI0, tI1, tI2, tI3, tI4, tI6, tI14, tI59, tI60, tI127, tI1000, tI100000, tIm1, tIm2, tIm3, tIm4, tIbig] at n_2 n_6 n_10 c_11 c_14 ⊢; first | done | omega))) (by first | exact b2i_t (by assumption) | exact b2i_f (by assumption)), ht⟩) (fun q h => by cases h) dX7_told_84
    · skip
      have c_14 : (whC F T V o kr n) = true := b2i_1.mp c_14
      refine lv_iconst (v := 1) hx hb dX7_told_79 (by decide) ?_
      refine lv_goto (tgt := 84) hx hb dX7_told_80 (by decide) ?_
      exact W.iret (v := 1) hx hb hr (fun t ht _ => ⟨_, rfl, by exact sw5_3 (by first | assumption | ((simp only [decide_eq_true_eq, decide_eq_false_iff_not, Bool.and_eq_true, Bool.and_eq_false_iff, Bool.or_eq_true, Bool.or_eq_false_iff, Bool.not_eq_true, Bool.not_eq_false, ne_eq, not_and, not_or, tog_t, tog_f, ahd_t, ahd_f, isoB_t, isoB_f, ixB_t, ixB_f, vOK_t, vOK_f, wOK_t, wOK_f, tn4, tI5, Int32.lt_iff_toInt_lt, Int32.le_iff_toInt_le, ← Int32.toInt_inj, tI0, tI1, tI2, tI3, tI4, tI6, tI14, tI59, tI60, tI127, tI1000, tI100000, tIm1, tIm2, tIm3, tIm4, tIbig] at n_2 n_6 n_10 c_11 c_14 ⊢; first | done | omega))) (by first | exact b2i_t (by assumption) | exact b2i_f (by assumption)), ht⟩) (fun q h => by cases h) dX7_told_84
  have n_15 := c_11
  by_cases c_16 : w = 4
  · skip
    refine lv_tableIn (tgt := 85) hx hb dX7_told_1 (by rw [c_16]; decide) (by rw [c_16]; decide) (by rw [c_16]; rfl) (by decide) ?_
    refine lv_aload_n hx hb dX7_told_85 rfl (lv_at hl 0 rfl) ?_
    refine va_get (D := (dC, dI)) (ci := 7) (v := .ref (b 1)) (C := RX7) (T := TX7) (N := 7) hx hb hts i_X7 hown hK hP 0 rfl rfl 0 (by decide) k_0 (fun _ h9 => h9) rfl dX7_told_86 ?_
    have hPc_17 := hP.sub (ws' := (sW cI b (nI n) F T P V (fun j => nI (o j)) (fun j => nI (kr j)))) [1, 2, 3, 4, 5, 6, 7] rfl
    refine vp_callSi (gk_run (va_runV (As := []) (rest := []) ⟨hx, hb, hml, hown, hts⟩ (c_X6_voicesUsed l dC dI cI b n F T P V (fun j => nI (o j)) (fun j => nI (kr j)) hn) (cwV 0 hts gX7_told_X6_voicesUsed rfl rfl rfl (by decide +kernel) ⟨Nat.le_of_ble_eq_true rfl, Nat.le_of_ble_eq_true rfl⟩) ⟨gk_fb, va_recv hK hPc_17 (ci := 6) (q0 := 0) rfl rfl, fun U hU hW => ⟨rfl, by rw [hU]; exact hPc_17, va_K.moved hW.alike hK⟩⟩ rfl rfl hl.1 rfl (lv_room (Nat.le_of_ble_eq_true rfl)) dX7_told_89 ⟨Nat.zero_le _, Nat.zero_le _⟩)) (fun r_18 er_18 => ?_)
    subst er_18
    exact W.iret (v := nI (usN V n)) hx hb hr (fun t ht _ => ⟨_, rfl, by exact sw5_4 (by first | assumption | ((simp only [decide_eq_true_eq, decide_eq_false_iff_not, Bool.and_eq_true, Bool.and_eq_false_iff, Bool.or_eq_true, Bool.or_eq_false_iff, Bool.not_eq_true, Bool.not_eq_false, ne_eq, not_and, not_or, tog_t, tog_f, ahd_t, ahd_f, isoB_t, isoB_f, ixB_t, ixB_f, vOK_t, vOK_f, wOK_t, wOK_f, tn4, tI5, Int32.lt_iff_toInt_lt, Int32.le_iff_toInt_le, ← Int32.toInt_inj, tI0, tI1, tI2, tI3, tI4, tI6, tI14, tI59, tI60, tI127, tI1000, tI100000, tIm1, tIm2, tIm3, tIm4, tIbig] at n_2 n_6 n_10 n_15 c_16 ⊢; first | done | omega))), ht⟩) (fun q h => by cases h) dX7_told_92
  have n_19 := c_16
  refine lv_tableOut (tgt := 93) hx hb dX7_told_1 (gk_out5 n_2 n_6 n_10 n_15 n_19) (by decide) ?_
  refine lv_bipush (v := (-2)) hx hb dX7_told_93 (by decide) ?_
  exact W.iret (v := (-2)) hx hb hr (fun t ht _ => ⟨_, rfl, by exact sw5_o (by (simp only [decide_eq_true_eq, decide_eq_false_iff_not, Bool.and_eq_true, Bool.and_eq_false_iff, Bool.or_eq_true, Bool.or_eq_false_iff, Bool.not_eq_true, Bool.not_eq_false, ne_eq, not_and, not_or, tog_t, tog_f, ahd_t, ahd_f, isoB_t, isoB_f, ixB_t, ixB_f, vOK_t, vOK_f, wOK_t, wOK_f, tn4, tI5, Int32.lt_iff_toInt_lt, Int32.le_iff_toInt_le, ← Int32.toInt_inj, tI0, tI1, tI2, tI3, tI4, tI6, tI14, tI59, tI60, tI127, tI1000, tI100000, tIm1, tIm2, tIm3, tIm4, tIbig] at n_2 n_6 n_10 n_15 n_19 ⊢; first | done | omega)), ht⟩) (fun q h => by cases h) dX7_told_95

set_option maxHeartbeats 1000000 in
set_option maxRecDepth 100000 in
theorem c_X8_told (l : Launch) (dC : Nat → ClassId) (dI : Nat → Nat → Nat) (cI : ClassId) (a : Nat → Nat) (n : Nat) (F T P V Wt : Nat → Int32) (o : Nat → Nat) (G L R : Nat → Int32) (hn : n ≤ 60) (ho : ∀ j, o j < 60) (w : Int32) : Met l yX8_told wsX8_told ({ frames := 3, cells := 0, slots := 0, locals := 67 } : Room) (va_Pc [.ref (a 0), .int w] (fun U => va_P (dC, dI) vwCl (mW cI a (nI n) F T P V Wt (fun j => nI (o j)) G L R) U.heap ∧ va_K (dC, dI) vwCl [(cI, .int)] U)) (vp_Si (fun r => r = sw5 w (nI n) (nI n - nI (szN V n (-1))) (mxT T n) (b2i (whM F T V n)) (nI (usN V n)))) 0 0 (fun _ => False) := by
  refine Met.ofW (cc := cX8_told) (maxL := 2) (ret := (some .int)) (by decide) rfl ?_
  intro p e s m args below meth c s₁ B hml hv
  obtain ⟨rfl, hP, hK⟩ := hv
  have hx := B.exec
  have hb := B.bytes
  have hr := B.returns
  have hts := atoms_spec (ws := wsX8_told) B.pre
  have hown : s.vm.findClass RX8 = some m.cls := findClass_of_methodNamed B.named
  have hlocks := B.notSynchronized
  have i_X8 : ∀ w ∈ u_ws RX8 TX8 10, w ∈ wsX8_told := by decide +kernel
  have k_0 := hts (.fieldLink RX8 38 "VoiceRowsModel" "notes" "I") (by decide +kernel)
  have hl := lv_entry ([.ref (a 0), .int w]) (n := 2) (Nat.le_of_ble_eq_true rfl)
  rw [lg_entry_eq]
  generalize (lg_sl ([.ref (a 0), .int w]) ++ List.replicate (2 - (lg_sl ([.ref (a 0), .int w])).length) Slot.unset).toArray = ls at hl ⊢
  have hl : lv_has ls 2 [(0, .ref (a 0)), (1, .int w)] := hl
  refine lv_iload_n hx hb dX8_told_0 rfl (lv_at hl 1 rfl) ?_
  refine lv_if_lt (tgt := 9) hx hb dX8_told_1 (by decide) (fun c_1 => ?_) (fun c_1 => ?_)
  · skip
    refine lv_bipush (v := (-2)) hx hb dX8_told_9 (by decide) ?_
    exact W.iret (v := (-2)) hx hb hr (fun t ht _ => ⟨_, rfl, by exact sw5_o (by (simp only [decide_eq_true_eq, decide_eq_false_iff_not, Bool.and_eq_true, Bool.and_eq_false_iff, Bool.or_eq_true, Bool.or_eq_false_iff, Bool.not_eq_true, Bool.not_eq_false, ne_eq, not_and, not_or, tog_t, tog_f, ahd_t, ahd_f, isoB_t, isoB_f, ixB_t, ixB_f, vOK_t, vOK_f, wOK_t, wOK_f, tn4, tI5, Int32.lt_iff_toInt_lt, Int32.le_iff_toInt_le, ← Int32.toInt_inj, tI0, tI1, tI2, tI3, tI4, tI6, tI14, tI59, tI60, tI127, tI1000, tI100000, tIm1, tIm2, tIm3, tIm4, tIbig] at c_1 ⊢; first | done | omega)), ht⟩) (fun q h => by cases h) dX8_told_11
  · skip
    refine lv_iload_n hx hb dX8_told_4 rfl (lv_at hl 1 rfl) ?_
    refine lv_iconst (v := 4) hx hb dX8_told_5 (by decide) ?_
    refine lv_icmp_le (tgt := 12) hx hb dX8_told_6 (by decide) (fun c_2 => ?_) (fun c_2 => ?_)
    · skip
      refine lv_iload_n hx hb dX8_told_12 rfl (lv_at hl 1 rfl) ?_
      refine lv_if_ne (tgt := 23) hx hb dX8_told_13 (by decide) (fun c_3 => ?_) (fun c_3 => ?_)
      · skip
        refine lv_iload_n hx hb dX8_told_23 rfl (lv_at hl 1 rfl) ?_
        refine lv_iconst (v := 1) hx hb dX8_told_24 (by decide) ?_
        refine lv_icmp_ne (tgt := 41) hx hb dX8_told_25 (by decide) (fun c_4 => ?_) (fun c_4 => ?_)
        · skip
          refine lv_iload_n hx hb dX8_told_41 rfl (lv_at hl 1 rfl) ?_
          refine lv_iconst (v := 2) hx hb dX8_told_42 (by decide) ?_
          refine lv_icmp_ne (tgt := 53) hx hb dX8_told_43 (by decide) (fun c_5 => ?_) (fun c_5 => ?_)
          · skip
            refine lv_iload_n hx hb dX8_told_53 rfl (lv_at hl 1 rfl) ?_
            refine lv_iconst (v := 3) hx hb dX8_told_54 (by decide) ?_
            refine lv_icmp_ne (tgt := 73) hx hb dX8_told_55 (by decide) (fun c_6 => ?_) (fun c_6 => ?_)
            · skip
              refine lv_aload_n hx hb dX8_told_73 rfl (lv_at hl 0 rfl) ?_
              refine vp_callSi (gk_run (va_runV (As := []) (rest := []) ⟨hx, hb, hml, hown, hts⟩ (c_X8_used l dC dI cI a n F T P V Wt (fun j => nI (o j)) G L R hn) (cwV 0 hts gX8_told_X8_used rfl rfl rfl (by decide +kernel) ⟨Nat.le_of_ble_eq_true rfl, Nat.le_of_ble_eq_true rfl⟩) ⟨gk_fb, va_recv hK hP (ci := 8) (q0 := 0) rfl rfl, fun U hU hW => ⟨rfl, by rw [hU]; exact hP, va_K.moved hW.alike hK⟩⟩ rfl rfl hl.1 rfl (lv_room (Nat.le_of_ble_eq_true rfl)) dX8_told_74 ⟨Nat.zero_le _, Nat.zero_le _⟩)) (fun r_7 er_7 => ?_)
              subst er_7
              exact W.iret (v := nI (usN V n)) hx hb hr (fun t ht _ => ⟨_, rfl, by exact sw5_4 (by first | assumption | ((simp only [decide_eq_true_eq, decide_eq_false_iff_not, Bool.and_eq_true, Bool.and_eq_false_iff, Bool.or_eq_true, Bool.or_eq_false_iff, Bool.not_eq_true, Bool.not_eq_false, ne_eq, not_and, not_or, tog_t, tog_f, ahd_t, ahd_f, isoB_t, isoB_f, ixB_t, ixB_f, vOK_t, vOK_f, wOK_t, wOK_f, tn4, tI5, Int32.lt_iff_toInt_lt, Int32.le_iff_toInt_le, ← Int32.toInt_inj, tI0, tI1, tI2, tI3, tI4, tI6, tI14, tI59, tI60, tI127, tI1000, tI100000, tIm1, tIm2, tIm3, tIm4, tIbig] at c_1 c_2 c_3 c_4 c_5 c_6 ⊢; first | done | omega))), ht⟩) (fun q h => by cases h) dX8_told_77
            · skip
              refine lv_aload_n hx hb dX8_told_58 rfl (lv_at hl 0 rfl) ?_
              refine vp_callSi (gk_run (va_runV (As := []) (rest := []) ⟨hx, hb, hml, hown, hts⟩ (c_X8_isWhole l dC dI cI a n F T P V Wt (fun j => nI (o j)) G L R hn) (cwV 0 hts gX8_told_X8_isWhole rfl rfl rfl (by decide +kernel) ⟨Nat.le_of_ble_eq_true rfl, Nat.le_of_ble_eq_true rfl⟩) ⟨gk_fb, va_recv hK hP (ci := 8) (q0 := 0) rfl rfl, fun U hU hW => ⟨rfl, by rw [hU]; exact hP, va_K.moved hW.alike hK⟩⟩ rfl rfl hl.1 rfl (lv_room (Nat.le_of_ble_eq_true rfl)) dX8_told_59 ⟨Nat.zero_le _, Nat.zero_le _⟩)) (fun r_8 er_8 => ?_)
              subst er_8
              refine lv_if_eq (tgt := 69) hx hb dX8_told_62 (by decide) (fun c_9 => ?_) (fun c_9 => ?_)
              · skip
                have c_9 : (whM F T V n) = false := b2i_0.mp c_9
                refine lv_iconst (v := 0) hx hb dX8_told_69 (by decide) ?_
                refine lv_goto (tgt := 77) hx hb dX8_told_70 (by decide) ?_
                exact W.iret (v := 0) hx hb hr (fun t ht _ => ⟨_, rfl, by exact sw5_3 (by first | assumption | ((simp only [decide_eq_true_eq, decide_eq_false_iff_not, Bool.and_eq_true, Bool.and_eq_false_iff, Bool.or_eq_true, Bool.or_eq_false_iff, Bool.not_eq_true, Bool.not_eq_false, ne_eq, not_and, not_or, tog_t, tog_f, ahd_t, ahd_f, isoB_t, isoB_f, ixB_t, ixB_f, vOK_t, vOK_f, wOK_t, wOK_f, tn4, tI5, Int32.lt_iff_toInt_lt, Int32.le_iff_toInt_le, ← Int32.toInt_inj, tI0, tI1, tI2, tI3, tI4, tI6, tI14, tI59, tI60, tI127, tI1000, tI100000, tIm1, tIm2, tIm3, tIm4, tIbig] at c_1 c_2 c_3 c_4 c_5 c_6 c_9 ⊢; first | done | omega))) (by first | exact b2i_t (by assumption) | exact b2i_f (by assumption)), ht⟩) (fun q h => by cases h) dX8_told_77
              · skip
                have c_9 : (whM F T V n) = true := b2i_1.mp c_9
                refine lv_iconst (v := 1) hx hb dX8_told_65 (by decide) ?_
                refine lv_goto (tgt := 77) hx hb dX8_told_66 (by decide) ?_
                exact W.iret (v := 1) hx hb hr (fun t ht _ => ⟨_, rfl, by exact sw5_3 (by first | assumption | ((simp only [decide_eq_true_eq, decide_eq_false_iff_not, Bool.and_eq_true, Bool.and_eq_false_iff, Bool.or_eq_true, Bool.or_eq_false_iff, Bool.not_eq_true, Bool.not_eq_false, ne_eq, not_and, not_or, tog_t, tog_f, ahd_t, ahd_f, isoB_t, isoB_f, ixB_t, ixB_f, vOK_t, vOK_f, wOK_t, wOK_f, tn4, tI5, Int32.lt_iff_toInt_lt, Int32.le_iff_toInt_le, ← Int32.toInt_inj, tI0, tI1, tI2, tI3, tI4, tI6, tI14, tI59, tI60, tI127, tI1000, tI100000, tIm1, tIm2, tIm3, tIm4, tIbig] at c_1 c_2 c_3 c_4 c_5 c_6 c_9 ⊢; first | done | omega))) (by first | exact b2i_t (by assumption) | exact b2i_f (by assumption)), ht⟩) (fun q h => by cases h) dX8_told_77
          · skip
            refine lv_aload_n hx hb dX8_told_46 rfl (lv_at hl 0 rfl) ?_
            refine vp_callSi (gk_run (va_runV (As := []) (rest := []) ⟨hx, hb, hml, hown, hts⟩ (c_X8_theEnd l dC dI cI a n F T P V Wt (fun j => nI (o j)) G L R hn) (cwV 0 hts gX8_told_X8_theEnd rfl rfl rfl (by decide +kernel) ⟨Nat.le_of_ble_eq_true rfl, Nat.le_of_ble_eq_true rfl⟩) ⟨gk_fb, va_recv hK hP (ci := 8) (q0 := 0) rfl rfl, fun U hU hW => ⟨rfl, by rw [hU]; exact hP, va_K.moved hW.alike hK⟩⟩ rfl rfl hl.1 rfl (lv_room (Nat.le_of_ble_eq_true rfl)) dX8_told_47 ⟨Nat.zero_le _, Nat.zero_le _⟩)) (fun r_10 er_10 => ?_)
            subst er_10
            refine lv_goto (tgt := 77) hx hb dX8_told_50 (by decide) ?_
            exact W.iret (v := mxT T n) hx hb hr (fun t ht _ => ⟨_, rfl, by exact sw5_2 (by first | assumption | ((simp only [decide_eq_true_eq, decide_eq_false_iff_not, Bool.and_eq_true, Bool.and_eq_false_iff, Bool.or_eq_true, Bool.or_eq_false_iff, Bool.not_eq_true, Bool.not_eq_false, ne_eq, not_and, not_or, tog_t, tog_f, ahd_t, ahd_f, isoB_t, isoB_f, ixB_t, ixB_f, vOK_t, vOK_f, wOK_t, wOK_f, tn4, tI5, Int32.lt_iff_toInt_lt, Int32.le_iff_toInt_le, ← Int32.toInt_inj, tI0, tI1, tI2, tI3, tI4, tI6, tI14, tI59, tI60, tI127, tI1000, tI100000, tIm1, tIm2, tIm3, tIm4, tIbig] at c_1 c_2 c_3 c_4 c_5 ⊢; first | done | omega))), ht⟩) (fun q h => by cases h) dX8_told_77
        · skip
          refine lv_aload_n hx hb dX8_told_28 rfl (lv_at hl 0 rfl) ?_
          refine va_get (D := (dC, dI)) (ci := 8) (v := .int (nI n)) (C := RX8) (T := TX8) (N := 10) hx hb hts i_X8 hown hK hP 0 rfl rfl 4 (by decide) k_0 (fun _ h9 => h9) rfl dX8_told_29 ?_
          refine lv_aload_n hx hb dX8_told_32 rfl (lv_at hl 0 rfl) ?_
          refine lv_iconst (v := (-1)) hx hb dX8_told_33 (by decide) ?_
          refine vp_callSi (gk_run (va_runV (As := [.int (-1)]) (rest := [.int (nI n)]) ⟨hx, hb, hml, hown, hts⟩ (c_X8_size l dC dI cI a n F T P V Wt (fun j => nI (o j)) G L R hn (-1)) (cwV 1 hts gX8_told_X8_size rfl rfl rfl (by decide +kernel) ⟨Nat.le_of_ble_eq_true rfl, Nat.le_of_ble_eq_true rfl⟩) ⟨gk_fb, va_recv hK hP (ci := 8) (q0 := 0) rfl rfl, fun U hU hW => ⟨rfl, by rw [hU]; exact hP, va_K.moved hW.alike hK⟩⟩ rfl rfl hl.1 rfl (lv_room (Nat.le_of_ble_eq_true rfl)) dX8_told_34 ⟨Nat.zero_le _, Nat.zero_le _⟩)) (fun r_11 er_11 => ?_)
          subst er_11
          refine lv_isub hx hb dX8_told_37 ?_
          refine lv_goto (tgt := 77) hx hb dX8_told_38 (by decide) ?_
          exact W.iret (v := (nI n) - (nI (szN V n (-1)))) hx hb hr (fun t ht _ => ⟨_, rfl, by exact sw5_1 (by first | assumption | ((simp only [decide_eq_true_eq, decide_eq_false_iff_not, Bool.and_eq_true, Bool.and_eq_false_iff, Bool.or_eq_true, Bool.or_eq_false_iff, Bool.not_eq_true, Bool.not_eq_false, ne_eq, not_and, not_or, tog_t, tog_f, ahd_t, ahd_f, isoB_t, isoB_f, ixB_t, ixB_f, vOK_t, vOK_f, wOK_t, wOK_f, tn4, tI5, Int32.lt_iff_toInt_lt, Int32.le_iff_toInt_le, ← Int32.toInt_inj, tI0, tI1, tI2, tI3, tI4, tI6, tI14, tI59, tI60, tI127, tI1000, tI100000, tIm1, tIm2, tIm3, tIm4, tIbig] at c_1 c_2 c_3 c_4 ⊢; first | done | omega))), ht⟩) (fun q h => by cases h) dX8_told_77
      · skip
        refine lv_aload_n hx hb dX8_told_16 rfl (lv_at hl 0 rfl) ?_
        refine va_get (D := (dC, dI)) (ci := 8) (v := .int (nI n)) (C := RX8) (T := TX8) (N := 10) hx hb hts i_X8 hown hK hP 0 rfl rfl 4 (by decide) k_0 (fun _ h9 => h9) rfl dX8_told_17 ?_
        refine lv_goto (tgt := 77) hx hb dX8_told_20 (by decide) ?_
        exact W.iret (v := nI n) hx hb hr (fun t ht _ => ⟨_, rfl, by exact sw5_0 (by first | assumption | ((simp only [decide_eq_true_eq, decide_eq_false_iff_not, Bool.and_eq_true, Bool.and_eq_false_iff, Bool.or_eq_true, Bool.or_eq_false_iff, Bool.not_eq_true, Bool.not_eq_false, ne_eq, not_and, not_or, tog_t, tog_f, ahd_t, ahd_f, isoB_t, isoB_f, ixB_t, ixB_f, vOK_t, vOK_f, wOK_t, wOK_f, tn4, tI5, Int32.lt_iff_toInt_lt, Int32.le_iff_toInt_le, ← Int32.toInt_inj, tI0, tI1, tI2, tI3, tI4, tI6, tI14, tI59, tI60, tI127, tI1000, tI100000, tIm1, tIm2, tIm3, tIm4, tIbig] at c_1 c_2 c_3 ⊢; first | done | omega))), ht⟩) (fun q h => by cases h) dX8_told_77
    · skip
      refine lv_bipush (v := (-2)) hx hb dX8_told_9 (by decide) ?_
      exact W.iret (v := (-2)) hx hb hr (fun t ht _ => ⟨_, rfl, by exact sw5_o (by (simp only [decide_eq_true_eq, decide_eq_false_iff_not, Bool.and_eq_true, Bool.and_eq_false_iff, Bool.or_eq_true, Bool.or_eq_false_iff, Bool.not_eq_true, Bool.not_eq_false, ne_eq, not_and, not_or, tog_t, tog_f, ahd_t, ahd_f, isoB_t, isoB_f, ixB_t, ixB_f, vOK_t, vOK_f, wOK_t, wOK_f, tn4, tI5, Int32.lt_iff_toInt_lt, Int32.le_iff_toInt_le, ← Int32.toInt_inj, tI0, tI1, tI2, tI3, tI4, tI6, tI14, tI59, tI60, tI127, tI1000, tI100000, tIm1, tIm2, tIm3, tIm4, tIbig] at c_1 c_2 ⊢; first | done | omega)), ht⟩) (fun q h => by cases h) dX8_told_11
