theorem ite_t {c : Prop} {α : Type} [Decidable c] {r a b : α} (h : c) (e : r = a) : r = if c then a else b := by rw [if_pos h]; exact e
theorem ite_f {c : Prop} {α : Type} [Decidable c] {r a b : α} (h : ¬ c) (e : r = b) : r = if c then a else b := by rw [if_neg h]; exact e
def sw7 (w a0 a1 a2 a3 a4 a5 a6 : Int32) : Int32 := if w = 0 then a0 else if w = 1 then a1 else if w = 2 then a2 else if w = 3 then a3 else if w = 4 then a4 else if w = 5 then a5 else if w = 6 then a6 else -2
theorem sw7_0 {w a0 a1 a2 a3 a4 a5 a6 : Int32} (h : w = 0) : a0 = sw7 w a0 a1 a2 a3 a4 a5 a6 := by simp [sw7, h]
theorem sw7_1 {w a0 a1 a2 a3 a4 a5 a6 : Int32} (h : w = 1) : a1 = sw7 w a0 a1 a2 a3 a4 a5 a6 := by simp [sw7, h]
theorem sw7_2 {w a0 a1 a2 a3 a4 a5 a6 : Int32} (h : w = 2) : a2 = sw7 w a0 a1 a2 a3 a4 a5 a6 := by simp [sw7, h]
theorem sw7_3 {w a0 a1 a2 a3 a4 a5 a6 : Int32} (h : w = 3) : a3 = sw7 w a0 a1 a2 a3 a4 a5 a6 := by simp [sw7, h]
theorem sw7_4 {w a0 a1 a2 a3 a4 a5 a6 : Int32} (h : w = 4) : a4 = sw7 w a0 a1 a2 a3 a4 a5 a6 := by simp [sw7, h]
theorem sw7_5 {w a0 a1 a2 a3 a4 a5 a6 : Int32} (h : w = 5) : a5 = sw7 w a0 a1 a2 a3 a4 a5 a6 := by simp [sw7, h]
theorem sw7_6 {w a0 a1 a2 a3 a4 a5 a6 : Int32} (h : w = 6) : a6 = sw7 w a0 a1 a2 a3 a4 a5 a6 := by simp [sw7, h]
theorem sw7_o {w a0 a1 a2 a3 a4 a5 a6 : Int32} (h : w.toInt < 0 ∨ 6 < w.toInt) : -2 = sw7 w a0 a1 a2 a3 a4 a5 a6 := by
  unfold sw7
  rw [if_neg (fun e => by rw [e] at h; exact absurd h (by decide)), if_neg (fun e => by rw [e] at h; exact absurd h (by decide)), if_neg (fun e => by rw [e] at h; exact absurd h (by decide)), if_neg (fun e => by rw [e] at h; exact absurd h (by decide)), if_neg (fun e => by rw [e] at h; exact absurd h (by decide)), if_neg (fun e => by rw [e] at h; exact absurd h (by decide)), if_neg (fun e => by rw [e] at h; exact absurd h (by decide))]
theorem pOK_of {q : Nat → Nat → Bool} {o : Nat → Nat} {n ia ib : Nat} {i w r : Int32} (hn : n ≤ 60) (hab : ia < ib) (hb : ib < n) (hq : q ia ib = true) (e : nI (posc q n ia ib) = i) (hr : r = if w = 0 then nI (o ia) else nI (o ib)) : pOK q o n i w r :=
  pOK_hit hn (fun a b h1 h2 h3 h4 h5 => absurd e (posc_ne hn h2 h3 h4 h1 (by omega) (by omega) h5)) hab hb hq e hr
theorem posc_tot {q : Nat → Nat → Bool} {n a b : Nat} (h : a < b) (hb : b < n) (hq : q a b = true) : posc q n a b < totc q n n := by
  have h1 := posc_lt (a2 := n) (b2 := 0) h hb hq (Or.inl (by omega))
  exact h1
theorem pOK_C {q : Nat → Nat → Bool} {o : Nat → Nat} {n : Nat} {i w r p1 p2 : Int32} (hn : n ≤ 60) (h : PF2 q o n i n 0 p1 p2) (hi : ixB i (totc q n n) = true) (hr : r = if w = 0 then p1 else p2) : pOK q o n i w r := by
  have ht := totc_b (q := q) hn (Nat.le_refl n)
  obtain ⟨j, hj, ej⟩ := ix_of (n := totc q n n) (by omega) (ixB_t.mp hi)
  obtain ⟨a, b, h1, h2, h3, h4, h5⟩ := posc_ith hj
  obtain ⟨e1, e2⟩ := h a b (Or.inl h1) h2 h3 h4 (by rw [h5, ej])
  exact pOK_of hn h2 h3 h4 (by rw [h5, ej]) (by rw [hr, e1, e2])
theorem pOK_R {q : Nat → Nat → Bool} {o : Nat → Nat} {n : Nat} {i w : Int32} (hn : n ≤ 60) (h0 : 0 ≤ i) (hi : ixB i (totc q n n) = false) : pOK q o n i w (-2) := by
  have ht := totc_b (q := q) hn (Nat.le_refl n)
  constructor
  · intro a b h1 h2 h3 h4
    exfalso
    have := ix_in (posc_tot h1 h2 h3) (by omega) h4.symm
    rw [this] at hi
    cases hi
  · intro _
    rw [if_neg (Int32.not_lt.mpr h0)]
set_option maxHeartbeats 1000000 in
set_option maxRecDepth 100000 in
theorem c_X8_pairs (l : Launch) (dC : Nat → ClassId) (dI : Nat → Nat → Nat) (cI : ClassId) (a : Nat → Nat) (n : Nat) (F T P V Wt : Nat → Int32) (o : Nat → Nat) (G L R : Nat → Int32) (hn : n ≤ 60) (ho : ∀ j, o j < 60) (kd : Int32) : Met l yX8_pairs wsX8_pairs ({ frames := 3, cells := 0, slots := 0, locals := 71 } : Room) (va_Pc [.ref (a 0), .int kd] (fun U => va_P (dC, dI) vwCl (mW cI a (nI n) F T P V Wt (fun j => nI (o j)) G L R) U.heap ∧ va_K (dC, dI) vwCl [(cI, .int)] U)) (vp_Si (fun r => r = if 0 ≤ kd ∧ kd ≤ 2 then nI (totc (qM F T P V o kd) n n) else -2)) 0 0 (fun _ => False) := by
  refine Met.ofW (cc := cX8_pairs) (maxL := 2) (ret := (some .int)) (by decide) rfl ?_
  intro p e s m args below meth c s₁ B hml hv
  obtain ⟨rfl, hP, hK⟩ := hv
  have hx := B.exec
  have hb := B.bytes
  have hr := B.returns
  have hts := atoms_spec (ws := wsX8_pairs) B.pre
  have hown : s.vm.findClass RX8 = some m.cls := findClass_of_methodNamed B.named
  have hlocks := B.notSynchronized
  have hl := lv_entry ([.ref (a 0), .int kd]) (n := 2) (Nat.le_of_ble_eq_true rfl)
  rw [lg_entry_eq]
  generalize (lg_sl ([.ref (a 0), .int kd]) ++ List.replicate (2 - (lg_sl ([.ref (a 0), .int kd])).length) Slot.unset).toArray = ls at hl ⊢
  have hl : lv_has ls 2 [(0, .ref (a 0)), (1, .int kd)] := hl
  refine lv_iload_n hx hb dX8_pairs_0 rfl (lv_at hl 1 rfl) ?_
  refine lv_if_lt (tgt := 9) hx hb dX8_pairs_1 (by decide) (fun c_1 => ?_) (fun c_1 => ?_)
  · skip
    refine lv_bipush (v := (-2)) hx hb dX8_pairs_9 (by decide) ?_
    refine lv_goto (tgt := 21) hx hb dX8_pairs_11 (by decide) ?_
    exact W.iret (v := (-2)) hx hb hr (fun t ht _ => ⟨_, rfl, by first | exact ite_t (by (simp only [decide_eq_true_eq, decide_eq_false_iff_not, Bool.and_eq_true, Bool.and_eq_false_iff, Bool.or_eq_true, Bool.or_eq_false_iff, Bool.not_eq_true, Bool.not_eq_false, ne_eq, not_and, not_or, tog_t, tog_f, ahd_t, ahd_f, isoB_t, isoB_f, ixB_t, ixB_f, vOK_t, vOK_f, wOK_t, wOK_f, tn4, Int32.lt_iff_toInt_lt, Int32.le_iff_toInt_le, ← Int32.toInt_inj, tI0, tI1, tI2, tI3, tI4, tI6, tI14, tI59, tI60, tI127, tI1000, tI100000, tIm1, tIm2, tIm3, tIm4, tIbig] at c_1 ⊢ <;> omega)) rfl | exact ite_f (by (simp only [decide_eq_true_eq, decide_eq_false_iff_not, Bool.and_eq_true, Bool.and_eq_false_iff, Bool.or_eq_true, Bool.or_eq_false_iff, Bool.not_eq_true, Bool.not_eq_false, ne_eq, not_and, not_or, tog_t, tog_f, ahd_t, ahd_f, isoB_t, isoB_f, ixB_t, ixB_f, vOK_t, vOK_f, wOK_t, wOK_f, tn4, Int32.lt_iff_toInt_lt, Int32.le_iff_toInt_le, ← Int32.toInt_inj, tI0, tI1, tI2, tI3, tI4, tI6, tI14, tI59, tI60, tI127, tI1000, tI100000, tIm1, tIm2, tIm3, tIm4, tIbig] at c_1 ⊢ <;> omega)) rfl, ht⟩) (fun q h => by cases h) dX8_pairs_21
  · skip
    refine lv_iload_n hx hb dX8_pairs_4 rfl (lv_at hl 1 rfl) ?_
    refine lv_iconst (v := 2) hx hb dX8_pairs_5 (by decide) ?_
    refine lv_icmp_le (tgt := 14) hx hb dX8_pairs_6 (by decide) (fun c_2 => ?_) (fun c_2 => ?_)
    · skip
      refine lv_aload_n hx hb dX8_pairs_14 rfl (lv_at hl 0 rfl) ?_
      refine lv_iload_n hx hb dX8_pairs_15 rfl (lv_at hl 1 rfl) ?_
      refine lv_iconst (v := (-1)) hx hb dX8_pairs_16 (by decide) ?_
      refine lv_iconst (v := 0) hx hb dX8_pairs_17 (by decide) ?_
      refine vp_callSi (gk_run (va_runV (As := [.int kd, .int (-1), .int 0]) (rest := []) ⟨hx, hb, hml, hown, hts⟩ (c_X8_pairOf l dC dI cI a n F T P V Wt o G L R hn ho kd (-1) 0) (cwV 3 hts gX8_pairs_X8_pairOf rfl rfl rfl (by decide +kernel) ⟨Nat.le_of_ble_eq_true rfl, Nat.le_of_ble_eq_true rfl⟩) ⟨gk_fb, va_recv hK hP (ci := 8) (q0 := 0) rfl rfl, fun U hU hW => ⟨rfl, by rw [hU]; exact hP, va_K.moved hW.alike hK⟩⟩ rfl rfl hl.1 rfl (lv_room (Nat.le_of_ble_eq_true rfl)) dX8_pairs_18 ⟨Nat.zero_le _, Nat.zero_le _⟩)) (fun r_3 er_3 => ?_)
      have eR := pOK_m1 hn er_3
      subst eR
      exact W.iret (v := nI (totc (qM F T P V o kd) n n)) hx hb hr (fun t ht _ => ⟨_, rfl, by first | exact ite_t (by (simp only [decide_eq_true_eq, decide_eq_false_iff_not, Bool.and_eq_true, Bool.and_eq_false_iff, Bool.or_eq_true, Bool.or_eq_false_iff, Bool.not_eq_true, Bool.not_eq_false, ne_eq, not_and, not_or, tog_t, tog_f, ahd_t, ahd_f, isoB_t, isoB_f, ixB_t, ixB_f, vOK_t, vOK_f, wOK_t, wOK_f, tn4, Int32.lt_iff_toInt_lt, Int32.le_iff_toInt_le, ← Int32.toInt_inj, tI0, tI1, tI2, tI3, tI4, tI6, tI14, tI59, tI60, tI127, tI1000, tI100000, tIm1, tIm2, tIm3, tIm4, tIbig] at c_1 c_2 ⊢ <;> omega)) rfl | exact ite_f (by (simp only [decide_eq_true_eq, decide_eq_false_iff_not, Bool.and_eq_true, Bool.and_eq_false_iff, Bool.or_eq_true, Bool.or_eq_false_iff, Bool.not_eq_true, Bool.not_eq_false, ne_eq, not_and, not_or, tog_t, tog_f, ahd_t, ahd_f, isoB_t, isoB_f, ixB_t, ixB_f, vOK_t, vOK_f, wOK_t, wOK_f, tn4, Int32.lt_iff_toInt_lt, Int32.le_iff_toInt_le, ← Int32.toInt_inj, tI0, tI1, tI2, tI3, tI4, tI6, tI14, tI59, tI60, tI127, tI1000, tI100000, tIm1, tIm2, tIm3, tIm4, tIbig] at c_1 c_2 ⊢ <;> omega)) rfl, ht⟩) (fun q h => by cases h) dX8_pairs_21
    · skip
      refine lv_bipush (v := (-2)) hx hb dX8_pairs_9 (by decide) ?_
      refine lv_goto (tgt := 21) hx hb dX8_pairs_11 (by decide) ?_
      exact W.iret (v := (-2)) hx hb hr (fun t ht _ => ⟨_, rfl, by first | exact ite_t (by (simp only [decide_eq_true_eq, decide_eq_false_iff_not, Bool.and_eq_true, Bool.and_eq_false_iff, Bool.or_eq_true, Bool.or_eq_false_iff, Bool.not_eq_true, Bool.not_eq_false, ne_eq, not_and, not_or, tog_t, tog_f, ahd_t, ahd_f, isoB_t, isoB_f, ixB_t, ixB_f, vOK_t, vOK_f, wOK_t, wOK_f, tn4, Int32.lt_iff_toInt_lt, Int32.le_iff_toInt_le, ← Int32.toInt_inj, tI0, tI1, tI2, tI3, tI4, tI6, tI14, tI59, tI60, tI127, tI1000, tI100000, tIm1, tIm2, tIm3, tIm4, tIbig] at c_1 c_2 ⊢ <;> omega)) rfl | exact ite_f (by (simp only [decide_eq_true_eq, decide_eq_false_iff_not, Bool.and_eq_true, Bool.and_eq_false_iff, Bool.or_eq_true, Bool.or_eq_false_iff, Bool.not_eq_true, Bool.not_eq_false, ne_eq, not_and, not_or, tog_t, tog_f, ahd_t, ahd_f, isoB_t, isoB_f, ixB_t, ixB_f, vOK_t, vOK_f, wOK_t, wOK_f, tn4, Int32.lt_iff_toInt_lt, Int32.le_iff_toInt_le, ← Int32.toInt_inj, tI0, tI1, tI2, tI3, tI4, tI6, tI14, tI59, tI60, tI127, tI1000, tI100000, tIm1, tIm2, tIm3, tIm4, tIbig] at c_1 c_2 ⊢ <;> omega)) rfl, ht⟩) (fun q h => by cases h) dX8_pairs_21

set_option maxHeartbeats 1000000 in
set_option maxRecDepth 100000 in
theorem c_X8_pair (l : Launch) (dC : Nat → ClassId) (dI : Nat → Nat → Nat) (cI : ClassId) (a : Nat → Nat) (n : Nat) (F T P V Wt : Nat → Int32) (o : Nat → Nat) (G L R : Nat → Int32) (hn : n ≤ 60) (ho : ∀ j, o j < 60) (kd i wh : Int32) : Met l yX8_pair wsX8_pair ({ frames := 3, cells := 0, slots := 0, locals := 71 } : Room) (va_Pc [.ref (a 0), .int kd, .int i, .int wh] (fun U => va_P (dC, dI) vwCl (mW cI a (nI n) F T P V Wt (fun j => nI (o j)) G L R) U.heap ∧ va_K (dC, dI) vwCl [(cI, .int)] U)) (vp_Si (fun r => ((0 ≤ kd ∧ kd ≤ 2 ∧ 0 ≤ i ∧ 0 ≤ wh ∧ wh ≤ 1) → pOK (qM F T P V o kd) o n i wh r) ∧ (¬ (0 ≤ kd ∧ kd ≤ 2 ∧ 0 ≤ i ∧ 0 ≤ wh ∧ wh ≤ 1) → r = -2))) 0 0 (fun _ => False) := by
  refine Met.ofW (cc := cX8_pair) (maxL := 4) (ret := (some .int)) (by decide) rfl ?_
  intro p e s m args below meth c s₁ B hml hv
  obtain ⟨rfl, hP, hK⟩ := hv
  have hx := B.exec
  have hb := B.bytes
  have hr := B.returns
  have hts := atoms_spec (ws := wsX8_pair) B.pre
  have hown : s.vm.findClass RX8 = some m.cls := findClass_of_methodNamed B.named
  have hlocks := B.notSynchronized
  have hl := lv_entry ([.ref (a 0), .int kd, .int i, .int wh]) (n := 4) (Nat.le_of_ble_eq_true rfl)
  rw [lg_entry_eq]
  generalize (lg_sl ([.ref (a 0), .int kd, .int i, .int wh]) ++ List.replicate (4 - (lg_sl ([.ref (a 0), .int kd, .int i, .int wh])).length) Slot.unset).toArray = ls at hl ⊢
  have hl : lv_has ls 4 [(0, .ref (a 0)), (1, .int kd), (2, .int i), (3, .int wh)] := hl
  refine lv_iload_n hx hb dX8_pair_0 rfl (lv_at hl 1 rfl) ?_
  refine lv_if_lt (tgt := 22) hx hb dX8_pair_1 (by decide) (fun c_1 => ?_) (fun c_1 => ?_)
  · skip
    refine lv_bipush (v := (-2)) hx hb dX8_pair_22 (by decide) ?_
    exact W.iret (v := (-2)) hx hb hr (fun t ht _ => ⟨_, rfl, by exact ⟨fun h => absurd h (by (simp only [decide_eq_true_eq, decide_eq_false_iff_not, Bool.and_eq_true, Bool.and_eq_false_iff, Bool.or_eq_true, Bool.or_eq_false_iff, Bool.not_eq_true, Bool.not_eq_false, ne_eq, not_and, not_or, tog_t, tog_f, ahd_t, ahd_f, isoB_t, isoB_f, ixB_t, ixB_f, vOK_t, vOK_f, wOK_t, wOK_f, tn4, Int32.lt_iff_toInt_lt, Int32.le_iff_toInt_le, ← Int32.toInt_inj, tI0, tI1, tI2, tI3, tI4, tI6, tI14, tI59, tI60, tI127, tI1000, tI100000, tIm1, tIm2, tIm3, tIm4, tIbig] at c_1 ⊢ <;> omega)), fun _ => rfl⟩, ht⟩) (fun q h => by cases h) dX8_pair_24
  · skip
    refine lv_iload_n hx hb dX8_pair_4 rfl (lv_at hl 1 rfl) ?_
    refine lv_iconst (v := 2) hx hb dX8_pair_5 (by decide) ?_
    refine lv_icmp_gt (tgt := 22) hx hb dX8_pair_6 (by decide) (fun c_2 => ?_) (fun c_2 => ?_)
    · skip
      refine lv_bipush (v := (-2)) hx hb dX8_pair_22 (by decide) ?_
      exact W.iret (v := (-2)) hx hb hr (fun t ht _ => ⟨_, rfl, by exact ⟨fun h => absurd h (by (simp only [decide_eq_true_eq, decide_eq_false_iff_not, Bool.and_eq_true, Bool.and_eq_false_iff, Bool.or_eq_true, Bool.or_eq_false_iff, Bool.not_eq_true, Bool.not_eq_false, ne_eq, not_and, not_or, tog_t, tog_f, ahd_t, ahd_f, isoB_t, isoB_f, ixB_t, ixB_f, vOK_t, vOK_f, wOK_t, wOK_f, tn4, Int32.lt_iff_toInt_lt, Int32.le_iff_toInt_le, ← Int32.toInt_inj, tI0, tI1, tI2, tI3, tI4, tI6, tI14, tI59, tI60, tI127, tI1000, tI100000, tIm1, tIm2, tIm3, tIm4, tIbig] at c_1 c_2 ⊢ <;> omega)), fun _ => rfl⟩, ht⟩) (fun q h => by cases h) dX8_pair_24
    · skip
      refine lv_iload_n hx hb dX8_pair_9 rfl (lv_at hl 2 rfl) ?_
      refine lv_if_lt (tgt := 22) hx hb dX8_pair_10 (by decide) (fun c_3 => ?_) (fun c_3 => ?_)
      · skip
        refine lv_bipush (v := (-2)) hx hb dX8_pair_22 (by decide) ?_
        exact W.iret (v := (-2)) hx hb hr (fun t ht _ => ⟨_, rfl, by exact ⟨fun h => absurd h (by (simp only [decide_eq_true_eq, decide_eq_false_iff_not, Bool.and_eq_true, Bool.and_eq_false_iff, Bool.or_eq_true, Bool.or_eq_false_iff, Bool.not_eq_true, Bool.not_eq_false, ne_eq, not_and, not_or, tog_t, tog_f, ahd_t, ahd_f, isoB_t, isoB_f, ixB_t, ixB_f, vOK_t, vOK_f, wOK_t, wOK_f, tn4, Int32.lt_iff_toInt_lt, Int32.le_iff_toInt_le, ← Int32.toInt_inj, tI0, tI1, tI2, tI3, tI4, tI6, tI14, tI59, tI60, tI127, tI1000, tI100000, tIm1, tIm2, tIm3, tIm4, tIbig] at c_1 c_2 c_3 ⊢ <;> omega)), fun _ => rfl⟩, ht⟩) (fun q h => by cases h) dX8_pair_24
      · skip
        refine lv_iload_n hx hb dX8_pair_13 rfl (lv_at hl 3 rfl) ?_
        refine lv_if_lt (tgt := 22) hx hb dX8_pair_14 (by decide) (fun c_4 => ?_) (fun c_4 => ?_)
        · skip
          refine lv_bipush (v := (-2)) hx hb dX8_pair_22 (by decide) ?_
          exact W.iret (v := (-2)) hx hb hr (fun t ht _ => ⟨_, rfl, by exact ⟨fun h => absurd h (by (simp only [decide_eq_true_eq, decide_eq_false_iff_not, Bool.and_eq_true, Bool.and_eq_false_iff, Bool.or_eq_true, Bool.or_eq_false_iff, Bool.not_eq_true, Bool.not_eq_false, ne_eq, not_and, not_or, tog_t, tog_f, ahd_t, ahd_f, isoB_t, isoB_f, ixB_t, ixB_f, vOK_t, vOK_f, wOK_t, wOK_f, tn4, Int32.lt_iff_toInt_lt, Int32.le_iff_toInt_le, ← Int32.toInt_inj, tI0, tI1, tI2, tI3, tI4, tI6, tI14, tI59, tI60, tI127, tI1000, tI100000, tIm1, tIm2, tIm3, tIm4, tIbig] at c_1 c_2 c_3 c_4 ⊢ <;> omega)), fun _ => rfl⟩, ht⟩) (fun q h => by cases h) dX8_pair_24
        · skip
          refine lv_iload_n hx hb dX8_pair_17 rfl (lv_at hl 3 rfl) ?_
          refine lv_iconst (v := 1) hx hb dX8_pair_18 (by decide) ?_
          refine lv_icmp_le (tgt := 25) hx hb dX8_pair_19 (by decide) (fun c_5 => ?_) (fun c_5 => ?_)
          · skip
            refine lv_aload_n hx hb dX8_pair_25 rfl (lv_at hl 0 rfl) ?_
            refine lv_iload_n hx hb dX8_pair_26 rfl (lv_at hl 1 rfl) ?_
            refine lv_iload_n hx hb dX8_pair_27 rfl (lv_at hl 2 rfl) ?_
            refine lv_iload_n hx hb dX8_pair_28 rfl (lv_at hl 3 rfl) ?_
            refine vp_callSi (gk_run (va_runV (As := [.int kd, .int i, .int wh]) (rest := []) ⟨hx, hb, hml, hown, hts⟩ (c_X8_pairOf l dC dI cI a n F T P V Wt o G L R hn ho kd i wh) (cwV 3 hts gX8_pair_X8_pairOf rfl rfl rfl (by decide +kernel) ⟨Nat.le_of_ble_eq_true rfl, Nat.le_of_ble_eq_true rfl⟩) ⟨gk_fb, va_recv hK hP (ci := 8) (q0 := 0) rfl rfl, fun U hU hW => ⟨rfl, by rw [hU]; exact hP, va_K.moved hW.alike hK⟩⟩ rfl rfl hl.1 rfl (lv_room (Nat.le_of_ble_eq_true rfl)) dX8_pair_29 ⟨Nat.zero_le _, Nat.zero_le _⟩)) (fun r_6 er_6 => ?_)
            have hpo := er_6
            exact W.iret (v := r_6) hx hb hr (fun t ht _ => ⟨_, rfl, by exact ⟨fun _ => hpo, fun h => absurd (show (0 ≤ kd ∧ kd ≤ 2 ∧ 0 ≤ i ∧ 0 ≤ wh ∧ wh ≤ 1) by (simp only [decide_eq_true_eq, decide_eq_false_iff_not, Bool.and_eq_true, Bool.and_eq_false_iff, Bool.or_eq_true, Bool.or_eq_false_iff, Bool.not_eq_true, Bool.not_eq_false, ne_eq, not_and, not_or, tog_t, tog_f, ahd_t, ahd_f, isoB_t, isoB_f, ixB_t, ixB_f, vOK_t, vOK_f, wOK_t, wOK_f, tn4, Int32.lt_iff_toInt_lt, Int32.le_iff_toInt_le, ← Int32.toInt_inj, tI0, tI1, tI2, tI3, tI4, tI6, tI14, tI59, tI60, tI127, tI1000, tI100000, tIm1, tIm2, tIm3, tIm4, tIbig] at c_1 c_2 c_3 c_4 c_5 ⊢ <;> omega)) h⟩, ht⟩) (fun q h => by cases h) dX8_pair_32
          · skip
            refine lv_bipush (v := (-2)) hx hb dX8_pair_22 (by decide) ?_
            exact W.iret (v := (-2)) hx hb hr (fun t ht _ => ⟨_, rfl, by exact ⟨fun h => absurd h (by (simp only [decide_eq_true_eq, decide_eq_false_iff_not, Bool.and_eq_true, Bool.and_eq_false_iff, Bool.or_eq_true, Bool.or_eq_false_iff, Bool.not_eq_true, Bool.not_eq_false, ne_eq, not_and, not_or, tog_t, tog_f, ahd_t, ahd_f, isoB_t, isoB_f, ixB_t, ixB_f, vOK_t, vOK_f, wOK_t, wOK_f, tn4, Int32.lt_iff_toInt_lt, Int32.le_iff_toInt_le, ← Int32.toInt_inj, tI0, tI1, tI2, tI3, tI4, tI6, tI14, tI59, tI60, tI127, tI1000, tI100000, tIm1, tIm2, tIm3, tIm4, tIbig] at c_1 c_2 c_3 c_4 c_5 ⊢ <;> omega)), fun _ => rfl⟩, ht⟩) (fun q h => by cases h) dX8_pair_24

set_option maxHeartbeats 1000000 in
set_option maxRecDepth 100000 in
theorem c_X8_cost (l : Launch) (dC : Nat → ClassId) (dI : Nat → Nat → Nat) (cI : ClassId) (a : Nat → Nat) (n : Nat) (F T P V Wt : Nat → Int32) (o : Nat → Nat) (G L R : Nat → Int32) (hn : n ≤ 60) (ho : ∀ j, o j < 60) (kd : Int32) : Met l yX8_cost wsX8_cost ({ frames := 4, cells := 0, slots := 0, locals := 92 } : Room) (va_Pc [.ref (a 0), .int kd] (fun U => va_P (dC, dI) vwCl (mW cI a (nI n) F T P V Wt (fun j => nI (o j)) G L R) U.heap ∧ va_K (dC, dI) vwCl [(cI, .int)] U)) (vp_Si (fun r => r = if 0 ≤ kd ∧ kd ≤ 4 then (if whM F T V n = true then prt (lpM F P V Wt o n) (gpM F T P V Wt o n) (nI (totc (qM F T P V o 0) n n) * Wt 2) (nI (usN V n) * Wt 3) kd else -3) else -2)) 0 0 (fun _ => False) := by
  refine Met.ofW (cc := cX8_cost) (maxL := 6) (ret := (some .int)) (by decide) rfl ?_
  intro p e s m args below meth c s₁ B hml hv
  obtain ⟨rfl, hP, hK⟩ := hv
  have hx := B.exec
  have hb := B.bytes
  have hr := B.returns
  have hts := atoms_spec (ws := wsX8_cost) B.pre
  have hown : s.vm.findClass RX8 = some m.cls := findClass_of_methodNamed B.named
  have hlocks := B.notSynchronized
  have i_X8 : ∀ w ∈ u_ws RX8 TX8 10, w ∈ wsX8_cost := by decide +kernel
  have k_0 := hts (.fieldLink RX8 38 "VoiceRowsModel" "notes" "I") (by decide +kernel)
  have k_1 := hts (.fieldLink RX8 22 "VoiceRowsModel" "weights" "[I") (by decide +kernel)
  have k_2 := hts (.fieldLink RX8 16 "VoiceRowsModel" "pitch" "[I") (by decide +kernel)
  have k_3 := hts (.fieldLink RX8 7 "VoiceRowsModel" "from" "[I") (by decide +kernel)
  have k_4 := hts (.fieldLink RX8 13 "VoiceRowsModel" "to" "[I") (by decide +kernel)
  have hl := lv_entry ([.ref (a 0), .int kd]) (n := 6) (Nat.le_of_ble_eq_true rfl)
  rw [lg_entry_eq]
  generalize (lg_sl ([.ref (a 0), .int kd]) ++ List.replicate (6 - (lg_sl ([.ref (a 0), .int kd])).length) Slot.unset).toArray = ls at hl ⊢
  have hl : lv_has ls 6 [(0, .ref (a 0)), (1, .int kd)] := hl
  have hfl : ∀ k, flM F P V o n k ≤ 60 := fun k => flM_le ho
  refine lv_iload_n hx hb dX8_cost_0 rfl (lv_at hl 1 rfl) ?_
  refine lv_if_lt (tgt := 9) hx hb dX8_cost_1 (by decide) (fun c_1 => ?_) (fun c_1 => ?_)
  · skip
    refine lv_bipush (v := (-2)) hx hb dX8_cost_9 (by decide) ?_
    exact W.iret (v := (-2)) hx hb hr (fun t ht _ => ⟨_, rfl, by exact ite_f (by (simp only [decide_eq_true_eq, decide_eq_false_iff_not, Bool.and_eq_true, Bool.and_eq_false_iff, Bool.or_eq_true, Bool.or_eq_false_iff, Bool.not_eq_true, Bool.not_eq_false, ne_eq, not_and, not_or, tog_t, tog_f, ahd_t, ahd_f, isoB_t, isoB_f, ixB_t, ixB_f, vOK_t, vOK_f, wOK_t, wOK_f, tn4, Int32.lt_iff_toInt_lt, Int32.le_iff_toInt_le, ← Int32.toInt_inj, tI0, tI1, tI2, tI3, tI4, tI6, tI14, tI59, tI60, tI127, tI1000, tI100000, tIm1, tIm2, tIm3, tIm4, tIbig] at c_1 ⊢ <;> omega)) rfl, ht⟩) (fun q h => by cases h) dX8_cost_11
  · skip
    refine lv_iload_n hx hb dX8_cost_4 rfl (lv_at hl 1 rfl) ?_
    refine lv_iconst (v := 4) hx hb dX8_cost_5 (by decide) ?_
    refine lv_icmp_le (tgt := 12) hx hb dX8_cost_6 (by decide) (fun c_2 => ?_) (fun c_2 => ?_)
    · skip
      refine lv_aload_n hx hb dX8_cost_12 rfl (lv_at hl 0 rfl) ?_
      refine vp_callSi (gk_run (va_runV (As := []) (rest := []) ⟨hx, hb, hml, hown, hts⟩ (c_X8_isWhole l dC dI cI a n F T P V Wt (fun j => nI (o j)) G L R hn) (cwV 0 hts gX8_cost_X8_isWhole rfl rfl rfl (by decide +kernel) ⟨Nat.le_of_ble_eq_true rfl, Nat.le_of_ble_eq_true rfl⟩) ⟨gk_fb, va_recv hK hP (ci := 8) (q0 := 0) rfl rfl, fun U hU hW => ⟨rfl, by rw [hU]; exact hP, va_K.moved hW.alike hK⟩⟩ rfl rfl hl.1 rfl (lv_room (Nat.le_of_ble_eq_true rfl)) dX8_cost_13 ⟨Nat.zero_le _, Nat.zero_le _⟩)) (fun r_3 er_3 => ?_)
      subst er_3
      refine lv_if_ne (tgt := 22) hx hb dX8_cost_16 (by decide) (fun c_4 => ?_) (fun c_4 => ?_)
      · skip
        have c_4 : (whM F T V n) = true := b2i_1.mp c_4
        refine lv_iconst (v := 0) hx hb dX8_cost_22 (by decide) ?_
        refine lv_istore_n (lv' := [(2, .int 0), (0, .ref (a 0)), (1, .int kd)]) hx hb dX8_cost_23 rfl hl (by decide) rfl (fun ls hl => ?_)
        refine lv_iconst (v := 0) hx hb dX8_cost_24 (by decide) ?_
        refine lv_istore_n (lv' := [(3, .int 0), (2, .int 0), (0, .ref (a 0)), (1, .int kd)]) hx hb dX8_cost_25 rfl hl (by decide) rfl (fun ls hl => ?_)
        refine lv_iconst (v := 0) hx hb dX8_cost_26 (by decide) ?_
        refine lv_istore (lv' := [(4, .int 0), (3, .int 0), (2, .int 0), (0, .ref (a 0)), (1, .int kd)]) hx hb dX8_cost_27 hl (by decide) rfl (fun ls hl => ?_)
        have L29 : ∀ (fu : Nat) (k : Nat) (x2 x3 x4 : Int32) (ls : Array Slot), x2 = smC (fun k => decide (flM F P V o n k ≠ 0)) (fun k => if P k < P (flM F P V o n k - 1) then P (flM F P V o n k - 1) - P k else P k - P (flM F P V o n k - 1)) k → x3 = smC (fun k => decide (flM F P V o n k ≠ 0)) (fun k => F (flM F P V o n k - 1) - T k) k → x4 = nI k → k ≤ n → n - k < fu → lv_has ls 6 [(0, .ref (a 0)), (1, .int kd), (2, .int x2), (3, .int x3), (4, .int x4)] → W p l e (headSpec wsX8_cost ({ frames := 4, cells := 0, slots := 0, locals := 92 } : Room)).room s m [.ref (a 0), .int kd].toArray below meth c s.heap [] 0 0 (MQ below (vp_Si (fun r => r = if 0 ≤ kd ∧ kd ≤ 4 then (if whM F T V n = true then prt (lpM F P V Wt o n) (gpM F T P V Wt o n) (nI (totc (qM F T P V o 0) n n) * Wt 2) (nI (usN V n) * Wt 3) kd else -3) else -2)) [.ref (a 0), .int kd].toArray s 0 0 (fun _ => False)) (F0 m 29 ls []) := by
          intro fu
          induction fu with
          | zero =>
            intro k x2 x3 x4 ls e2 e3 e4 hk1 hfu29 hl
            exact absurd hfu29 (Nat.not_lt_zero _)
          | succ fu ih29 =>
            intro k x2 x3 x4 ls e2 e3 e4 hk1 hfu29 hl
            subst e2
            subst e3
            subst e4
            have hflk := hfl k
            refine lv_iload hx hb dX8_cost_29 (lv_at hl 4 rfl) ?_
            refine lv_aload_n hx hb dX8_cost_31 rfl (lv_at hl 0 rfl) ?_
            refine va_get (D := (dC, dI)) (ci := 8) (v := .int (nI n)) (C := RX8) (T := TX8) (N := 10) hx hb hts i_X8 hown hK hP 0 rfl rfl 4 (by decide) k_0 (fun _ h9 => h9) rfl dX8_cost_32 ?_
            refine lv_icmp_ge (tgt := 128) hx hb dX8_cost_35 (by decide) (fun c_5 => ?_) (fun c_5 => ?_)
            · skip
              have c_5 : k ≥ n := gk_geT (a := k) (b := n) (by first | omega | exact Nat.lt_of_le_of_lt atN_le (by omega) | exact Nat.lt_of_le_of_lt szN_le (by omega) | exact Nat.lt_of_le_of_lt clM_le (by omega) | exact Nat.lt_of_le_of_lt rkN_le (by omega) | exact Nat.lt_of_le_of_lt (cnt_le _ _) (by omega)) (by first | omega | exact Nat.lt_of_le_of_lt atN_le (by omega) | exact Nat.lt_of_le_of_lt szN_le (by omega) | exact Nat.lt_of_le_of_lt clM_le (by omega) | exact Nat.lt_of_le_of_lt rkN_le (by omega) | exact Nat.lt_of_le_of_lt (cnt_le _ _) (by omega)) c_5
              refine lv_iload_n hx hb dX8_cost_128 rfl (lv_at hl 2 rfl) ?_
              refine lv_aload_n hx hb dX8_cost_129 rfl (lv_at hl 0 rfl) ?_
              refine va_get (D := (dC, dI)) (ci := 8) (v := .ref (a 5)) (C := RX8) (T := TX8) (N := 10) hx hb hts i_X8 hown hK hP 0 rfl rfl 5 (by decide) k_1 (fun _ h9 => h9) rfl dX8_cost_130 ?_
              refine lv_iconst (v := 0) hx hb dX8_cost_133 (by decide) ?_
              refine gk_ld hx hb hK hP 5 0 rfl rfl 0 (by omega) (by omega) (v := Wt 0) (rfl) dX8_cost_134 ?_
              refine lv_imul hx hb dX8_cost_135 ?_
              refine lv_istore_n (lv' := [(2, .int ((smC (fun k => decide (flM F P V o n k ≠ 0)) (fun k => if P k < P (flM F P V o n k - 1) then P (flM F P V o n k - 1) - P k else P k - P (flM F P V o n k - 1)) k) * (Wt 0))), (0, .ref (a 0)), (1, .int kd), (3, .int (smC (fun k => decide (flM F P V o n k ≠ 0)) (fun k => F (flM F P V o n k - 1) - T k) k)), (4, .int (nI k))]) hx hb dX8_cost_136 rfl hl (by decide) rfl (fun ls hl => ?_)
              refine lv_iload_n hx hb dX8_cost_137 rfl (lv_at hl 3 rfl) ?_
              refine lv_aload_n hx hb dX8_cost_138 rfl (lv_at hl 1 rfl) ?_
              refine va_get (D := (dC, dI)) (ci := 8) (v := .ref (a 5)) (C := RX8) (T := TX8) (N := 10) hx hb hts i_X8 hown hK hP 0 rfl rfl 5 (by decide) k_1 (fun _ h9 => h9) rfl dX8_cost_139 ?_
              refine lv_iconst (v := 1) hx hb dX8_cost_142 (by decide) ?_
              refine gk_ld hx hb hK hP 5 0 rfl rfl 1 (by omega) (by omega) (v := Wt 1) (rfl) dX8_cost_143 ?_
              refine lv_imul hx hb dX8_cost_144 ?_
              refine lv_istore_n (lv' := [(3, .int ((smC (fun k => decide (flM F P V o n k ≠ 0)) (fun k => F (flM F P V o n k - 1) - T k) k) * (Wt 1))), (2, .int ((smC (fun k => decide (flM F P V o n k ≠ 0)) (fun k => if P k < P (flM F P V o n k - 1) then P (flM F P V o n k - 1) - P k else P k - P (flM F P V o n k - 1)) k) * (Wt 0))), (0, .ref (a 0)), (1, .int kd), (4, .int (nI k))]) hx hb dX8_cost_145 rfl hl (by decide) rfl (fun ls hl => ?_)
              refine lv_aload_n hx hb dX8_cost_146 rfl (lv_at hl 2 rfl) ?_
              refine lv_iconst (v := 0) hx hb dX8_cost_147 (by decide) ?_
              refine vp_callSi (gk_run (va_runV (As := [.int 0]) (rest := []) ⟨hx, hb, hml, hown, hts⟩ (c_X8_pairs l dC dI cI a n F T P V Wt o G L R hn ho 0) (cwV 1 hts gX8_cost_X8_pairs rfl rfl rfl (by decide +kernel) ⟨Nat.le_of_ble_eq_true rfl, Nat.le_of_ble_eq_true rfl⟩) ⟨gk_fb, va_recv hK hP (ci := 8) (q0 := 0) rfl rfl, fun U hU hW => ⟨rfl, by rw [hU]; exact hP, va_K.moved hW.alike hK⟩⟩ rfl rfl hl.1 rfl (lv_room (Nat.le_of_ble_eq_true rfl)) dX8_cost_148 ⟨Nat.zero_le _, Nat.zero_le _⟩)) (fun r_6 er_6 => ?_)
              subst er_6
              refine gk_top (y := nI (totc (qM F T P V o 0) n n)) (if_pos (by decide)) ?_
              refine lv_aload_n hx hb dX8_cost_151 rfl (lv_at hl 2 rfl) ?_
              refine va_get (D := (dC, dI)) (ci := 8) (v := .ref (a 5)) (C := RX8) (T := TX8) (N := 10) hx hb hts i_X8 hown hK hP 0 rfl rfl 5 (by decide) k_1 (fun _ h9 => h9) rfl dX8_cost_152 ?_
              refine lv_iconst (v := 2) hx hb dX8_cost_155 (by decide) ?_
              refine gk_ld hx hb hK hP 5 0 rfl rfl 2 (by omega) (by omega) (v := Wt 2) (rfl) dX8_cost_156 ?_
              refine lv_imul hx hb dX8_cost_157 ?_
              refine lv_istore (lv' := [(4, .int ((nI (totc (qM F T P V o 0) n n)) * (Wt 2))), (3, .int ((smC (fun k => decide (flM F P V o n k ≠ 0)) (fun k => F (flM F P V o n k - 1) - T k) k) * (Wt 1))), (2, .int ((smC (fun k => decide (flM F P V o n k ≠ 0)) (fun k => if P k < P (flM F P V o n k - 1) then P (flM F P V o n k - 1) - P k else P k - P (flM F P V o n k - 1)) k) * (Wt 0))), (0, .ref (a 0)), (1, .int kd)]) hx hb dX8_cost_158 hl (by decide) rfl (fun ls hl => ?_)
              refine lv_aload_n hx hb dX8_cost_160 rfl (lv_at hl 3 rfl) ?_
              refine vp_callSi (gk_run (va_runV (As := []) (rest := []) ⟨hx, hb, hml, hown, hts⟩ (c_X8_used l dC dI cI a n F T P V Wt (fun j => nI (o j)) G L R hn) (cwV 0 hts gX8_cost_X8_used rfl rfl rfl (by decide +kernel) ⟨Nat.le_of_ble_eq_true rfl, Nat.le_of_ble_eq_true rfl⟩) ⟨gk_fb, va_recv hK hP (ci := 8) (q0 := 0) rfl rfl, fun U hU hW => ⟨rfl, by rw [hU]; exact hP, va_K.moved hW.alike hK⟩⟩ rfl rfl hl.1 rfl (lv_room (Nat.le_of_ble_eq_true rfl)) dX8_cost_161 ⟨Nat.zero_le _, Nat.zero_le _⟩)) (fun r_7 er_7 => ?_)
              subst er_7
              refine lv_aload_n hx hb dX8_cost_164 rfl (lv_at hl 3 rfl) ?_
              refine va_get (D := (dC, dI)) (ci := 8) (v := .ref (a 5)) (C := RX8) (T := TX8) (N := 10) hx hb hts i_X8 hown hK hP 0 rfl rfl 5 (by decide) k_1 (fun _ h9 => h9) rfl dX8_cost_165 ?_
              refine lv_iconst (v := 3) hx hb dX8_cost_168 (by decide) ?_
              refine gk_ld hx hb hK hP 5 0 rfl rfl 3 (by omega) (by omega) (v := Wt 3) (rfl) dX8_cost_169 ?_
              refine lv_imul hx hb dX8_cost_170 ?_
              refine lv_istore (lv' := [(5, .int ((nI (usN V n)) * (Wt 3))), (4, .int ((nI (totc (qM F T P V o 0) n n)) * (Wt 2))), (3, .int ((smC (fun k => decide (flM F P V o n k ≠ 0)) (fun k => F (flM F P V o n k - 1) - T k) k) * (Wt 1))), (2, .int ((smC (fun k => decide (flM F P V o n k ≠ 0)) (fun k => if P k < P (flM F P V o n k - 1) then P (flM F P V o n k - 1) - P k else P k - P (flM F P V o n k - 1)) k) * (Wt 0))), (0, .ref (a 0)), (1, .int kd)]) hx hb dX8_cost_171 hl (by decide) rfl (fun ls hl => ?_)
              refine lv_iload_n hx hb dX8_cost_173 rfl (lv_at hl 5 rfl) ?_
              refine lv_if_ne (tgt := 189) hx hb dX8_cost_174 (by decide) (fun c_8 => ?_) (fun c_8 => ?_)
              · skip
                refine lv_iload_n hx hb dX8_cost_189 rfl (lv_at hl 5 rfl) ?_
                refine lv_iconst (v := 1) hx hb dX8_cost_190 (by decide) ?_
                refine lv_icmp_ne (tgt := 198) hx hb dX8_cost_191 (by decide) (fun c_9 => ?_) (fun c_9 => ?_)
                · skip
                  refine lv_iload_n hx hb dX8_cost_198 rfl (lv_at hl 5 rfl) ?_
                  refine lv_iconst (v := 2) hx hb dX8_cost_199 (by decide) ?_
                  refine lv_icmp_ne (tgt := 207) hx hb dX8_cost_200 (by decide) (fun c_10 => ?_) (fun c_10 => ?_)
                  · skip
                    refine lv_iload_n hx hb dX8_cost_207 rfl (lv_at hl 5 rfl) ?_
                    refine lv_iconst (v := 3) hx hb dX8_cost_208 (by decide) ?_
                    refine lv_icmp_ne (tgt := 217) hx hb dX8_cost_209 (by decide) (fun c_11 => ?_) (fun c_11 => ?_)
                    · skip
                      refine lv_iload hx hb dX8_cost_217 (lv_at hl 0 rfl) ?_
                      exact W.iret (v := (nI (usN V n)) * (Wt 3)) hx hb hr (fun t ht _ => ⟨_, rfl, by (obtain rfl : k = n := by omega); exact ite_t (by (simp only [decide_eq_true_eq, decide_eq_false_iff_not, Bool.and_eq_true, Bool.and_eq_false_iff, Bool.or_eq_true, Bool.or_eq_false_iff, Bool.not_eq_true, Bool.not_eq_false, ne_eq, not_and, not_or, tog_t, tog_f, ahd_t, ahd_f, isoB_t, isoB_f, ixB_t, ixB_f, vOK_t, vOK_f, wOK_t, wOK_f, tn4, Int32.lt_iff_toInt_lt, Int32.le_iff_toInt_le, ← Int32.toInt_inj, tI0, tI1, tI2, tI3, tI4, tI6, tI14, tI59, tI60, tI127, tI1000, tI100000, tIm1, tIm2, tIm3, tIm4, tIbig] at c_1 c_2 c_4 c_5 c_8 c_9 c_10 c_11 ⊢ <;> omega)) (ite_t (by assumption) (by exact prt_4 (by (simp only [decide_eq_true_eq, decide_eq_false_iff_not, Bool.and_eq_true, Bool.and_eq_false_iff, Bool.or_eq_true, Bool.or_eq_false_iff, Bool.not_eq_true, Bool.not_eq_false, ne_eq, not_and, not_or, tog_t, tog_f, ahd_t, ahd_f, isoB_t, isoB_f, ixB_t, ixB_f, vOK_t, vOK_f, wOK_t, wOK_f, tn4, Int32.lt_iff_toInt_lt, Int32.le_iff_toInt_le, ← Int32.toInt_inj, tI0, tI1, tI2, tI3, tI4, tI6, tI14, tI59, tI60, tI127, tI1000, tI100000, tIm1, tIm2, tIm3, tIm4, tIbig] at c_1 c_2 c_4 c_5 c_8 c_9 c_10 c_11 ⊢ <;> omega)))), ht⟩) (fun q h => by cases h) dX8_cost_219
                    · skip
                      refine lv_iload hx hb dX8_cost_212 (lv_at hl 1 rfl) ?_
                      refine lv_goto (tgt := 219) hx hb dX8_cost_214 (by decide) ?_
                      exact W.iret (v := (nI (totc (qM F T P V o 0) n n)) * (Wt 2)) hx hb hr (fun t ht _ => ⟨_, rfl, by (obtain rfl : k = n := by omega); exact ite_t (by (simp only [decide_eq_true_eq, decide_eq_false_iff_not, Bool.and_eq_true, Bool.and_eq_false_iff, Bool.or_eq_true, Bool.or_eq_false_iff, Bool.not_eq_true, Bool.not_eq_false, ne_eq, not_and, not_or, tog_t, tog_f, ahd_t, ahd_f, isoB_t, isoB_f, ixB_t, ixB_f, vOK_t, vOK_f, wOK_t, wOK_f, tn4, Int32.lt_iff_toInt_lt, Int32.le_iff_toInt_le, ← Int32.toInt_inj, tI0, tI1, tI2, tI3, tI4, tI6, tI14, tI59, tI60, tI127, tI1000, tI100000, tIm1, tIm2, tIm3, tIm4, tIbig] at c_1 c_2 c_4 c_5 c_8 c_9 c_10 c_11 ⊢ <;> omega)) (ite_t (by assumption) (by exact prt_3 (by (simp only [decide_eq_true_eq, decide_eq_false_iff_not, Bool.and_eq_true, Bool.and_eq_false_iff, Bool.or_eq_true, Bool.or_eq_false_iff, Bool.not_eq_true, Bool.not_eq_false, ne_eq, not_and, not_or, tog_t, tog_f, ahd_t, ahd_f, isoB_t, isoB_f, ixB_t, ixB_f, vOK_t, vOK_f, wOK_t, wOK_f, tn4, Int32.lt_iff_toInt_lt, Int32.le_iff_toInt_le, ← Int32.toInt_inj, tI0, tI1, tI2, tI3, tI4, tI6, tI14, tI59, tI60, tI127, tI1000, tI100000, tIm1, tIm2, tIm3, tIm4, tIbig] at c_1 c_2 c_4 c_5 c_8 c_9 c_10 c_11 ⊢ <;> omega)))), ht⟩) (fun q h => by cases h) dX8_cost_219
                  · skip
                    refine lv_iload_n hx hb dX8_cost_203 rfl (lv_at hl 2 rfl) ?_
                    refine lv_goto (tgt := 219) hx hb dX8_cost_204 (by decide) ?_
                    exact W.iret (v := (smC (fun k => decide (flM F P V o n k ≠ 0)) (fun k => F (flM F P V o n k - 1) - T k) k) * (Wt 1)) hx hb hr (fun t ht _ => ⟨_, rfl, by (obtain rfl : k = n := by omega); exact ite_t (by (simp only [decide_eq_true_eq, decide_eq_false_iff_not, Bool.and_eq_true, Bool.and_eq_false_iff, Bool.or_eq_true, Bool.or_eq_false_iff, Bool.not_eq_true, Bool.not_eq_false, ne_eq, not_and, not_or, tog_t, tog_f, ahd_t, ahd_f, isoB_t, isoB_f, ixB_t, ixB_f, vOK_t, vOK_f, wOK_t, wOK_f, tn4, Int32.lt_iff_toInt_lt, Int32.le_iff_toInt_le, ← Int32.toInt_inj, tI0, tI1, tI2, tI3, tI4, tI6, tI14, tI59, tI60, tI127, tI1000, tI100000, tIm1, tIm2, tIm3, tIm4, tIbig] at c_1 c_2 c_4 c_5 c_8 c_9 c_10 ⊢ <;> omega)) (ite_t (by assumption) (by exact prt_2 (by (simp only [decide_eq_true_eq, decide_eq_false_iff_not, Bool.and_eq_true, Bool.and_eq_false_iff, Bool.or_eq_true, Bool.or_eq_false_iff, Bool.not_eq_true, Bool.not_eq_false, ne_eq, not_and, not_or, tog_t, tog_f, ahd_t, ahd_f, isoB_t, isoB_f, ixB_t, ixB_f, vOK_t, vOK_f, wOK_t, wOK_f, tn4, Int32.lt_iff_toInt_lt, Int32.le_iff_toInt_le, ← Int32.toInt_inj, tI0, tI1, tI2, tI3, tI4, tI6, tI14, tI59, tI60, tI127, tI1000, tI100000, tIm1, tIm2, tIm3, tIm4, tIbig] at c_1 c_2 c_4 c_5 c_8 c_9 c_10 ⊢ <;> omega)))), ht⟩) (fun q h => by cases h) dX8_cost_219
                · skip
                  refine lv_iload_n hx hb dX8_cost_194 rfl (lv_at hl 3 rfl) ?_
                  refine lv_goto (tgt := 219) hx hb dX8_cost_195 (by decide) ?_
                  exact W.iret (v := (smC (fun k => decide (flM F P V o n k ≠ 0)) (fun k => if P k < P (flM F P V o n k - 1) then P (flM F P V o n k - 1) - P k else P k - P (flM F P V o n k - 1)) k) * (Wt 0)) hx hb hr (fun t ht _ => ⟨_, rfl, by (obtain rfl : k = n := by omega); exact ite_t (by (simp only [decide_eq_true_eq, decide_eq_false_iff_not, Bool.and_eq_true, Bool.and_eq_false_iff, Bool.or_eq_true, Bool.or_eq_false_iff, Bool.not_eq_true, Bool.not_eq_false, ne_eq, not_and, not_or, tog_t, tog_f, ahd_t, ahd_f, isoB_t, isoB_f, ixB_t, ixB_f, vOK_t, vOK_f, wOK_t, wOK_f, tn4, Int32.lt_iff_toInt_lt, Int32.le_iff_toInt_le, ← Int32.toInt_inj, tI0, tI1, tI2, tI3, tI4, tI6, tI14, tI59, tI60, tI127, tI1000, tI100000, tIm1, tIm2, tIm3, tIm4, tIbig] at c_1 c_2 c_4 c_5 c_8 c_9 ⊢ <;> omega)) (ite_t (by assumption) (by exact prt_1 (by (simp only [decide_eq_true_eq, decide_eq_false_iff_not, Bool.and_eq_true, Bool.and_eq_false_iff, Bool.or_eq_true, Bool.or_eq_false_iff, Bool.not_eq_true, Bool.not_eq_false, ne_eq, not_and, not_or, tog_t, tog_f, ahd_t, ahd_f, isoB_t, isoB_f, ixB_t, ixB_f, vOK_t, vOK_f, wOK_t, wOK_f, tn4, Int32.lt_iff_toInt_lt, Int32.le_iff_toInt_le, ← Int32.toInt_inj, tI0, tI1, tI2, tI3, tI4, tI6, tI14, tI59, tI60, tI127, tI1000, tI100000, tIm1, tIm2, tIm3, tIm4, tIbig] at c_1 c_2 c_4 c_5 c_8 c_9 ⊢ <;> omega)))), ht⟩) (fun q h => by cases h) dX8_cost_219
              · skip
                refine lv_iload_n hx hb dX8_cost_177 rfl (lv_at hl 3 rfl) ?_
                refine lv_iload_n hx hb dX8_cost_178 rfl (lv_at hl 2 rfl) ?_
                refine lv_iadd hx hb dX8_cost_179 ?_
                refine lv_iload hx hb dX8_cost_180 (lv_at hl 1 rfl) ?_
                refine lv_iadd hx hb dX8_cost_182 ?_
                refine lv_iload hx hb dX8_cost_183 (lv_at hl 0 rfl) ?_
                refine lv_iadd hx hb dX8_cost_185 ?_
                refine lv_goto (tgt := 219) hx hb dX8_cost_186 (by decide) ?_
                exact W.iret (v := ((((smC (fun k => decide (flM F P V o n k ≠ 0)) (fun k => if P k < P (flM F P V o n k - 1) then P (flM F P V o n k - 1) - P k else P k - P (flM F P V o n k - 1)) k) * (Wt 0)) + ((smC (fun k => decide (flM F P V o n k ≠ 0)) (fun k => F (flM F P V o n k - 1) - T k) k) * (Wt 1))) + ((nI (totc (qM F T P V o 0) n n)) * (Wt 2))) + ((nI (usN V n)) * (Wt 3))) hx hb hr (fun t ht _ => ⟨_, rfl, by (obtain rfl : k = n := by omega); exact ite_t (by (simp only [decide_eq_true_eq, decide_eq_false_iff_not, Bool.and_eq_true, Bool.and_eq_false_iff, Bool.or_eq_true, Bool.or_eq_false_iff, Bool.not_eq_true, Bool.not_eq_false, ne_eq, not_and, not_or, tog_t, tog_f, ahd_t, ahd_f, isoB_t, isoB_f, ixB_t, ixB_f, vOK_t, vOK_f, wOK_t, wOK_f, tn4, Int32.lt_iff_toInt_lt, Int32.le_iff_toInt_le, ← Int32.toInt_inj, tI0, tI1, tI2, tI3, tI4, tI6, tI14, tI59, tI60, tI127, tI1000, tI100000, tIm1, tIm2, tIm3, tIm4, tIbig] at c_1 c_2 c_4 c_5 c_8 ⊢ <;> omega)) (ite_t (by assumption) (by exact prt_0 (by (simp only [decide_eq_true_eq, decide_eq_false_iff_not, Bool.and_eq_true, Bool.and_eq_false_iff, Bool.or_eq_true, Bool.or_eq_false_iff, Bool.not_eq_true, Bool.not_eq_false, ne_eq, not_and, not_or, tog_t, tog_f, ahd_t, ahd_f, isoB_t, isoB_f, ixB_t, ixB_f, vOK_t, vOK_f, wOK_t, wOK_f, tn4, Int32.lt_iff_toInt_lt, Int32.le_iff_toInt_le, ← Int32.toInt_inj, tI0, tI1, tI2, tI3, tI4, tI6, tI14, tI59, tI60, tI127, tI1000, tI100000, tIm1, tIm2, tIm3, tIm4, tIbig] at c_1 c_2 c_4 c_5 c_8 ⊢ <;> omega)) (by (simp only [decide_eq_true_eq, decide_eq_false_iff_not, Bool.and_eq_true, Bool.and_eq_false_iff, Bool.or_eq_true, Bool.or_eq_false_iff, Bool.not_eq_true, Bool.not_eq_false, ne_eq, not_and, not_or, tog_t, tog_f, ahd_t, ahd_f, isoB_t, isoB_f, ixB_t, ixB_f, vOK_t, vOK_f, wOK_t, wOK_f, tn4, Int32.lt_iff_toInt_lt, Int32.le_iff_toInt_le, ← Int32.toInt_inj, tI0, tI1, tI2, tI3, tI4, tI6, tI14, tI59, tI60, tI127, tI1000, tI100000, tIm1, tIm2, tIm3, tIm4, tIbig] at c_1 c_2 c_4 c_5 c_8 ⊢ <;> omega)) (by (simp only [decide_eq_true_eq, decide_eq_false_iff_not, Bool.and_eq_true, Bool.and_eq_false_iff, Bool.or_eq_true, Bool.or_eq_false_iff, Bool.not_eq_true, Bool.not_eq_false, ne_eq, not_and, not_or, tog_t, tog_f, ahd_t, ahd_f, isoB_t, isoB_f, ixB_t, ixB_f, vOK_t, vOK_f, wOK_t, wOK_f, tn4, Int32.lt_iff_toInt_lt, Int32.le_iff_toInt_le, ← Int32.toInt_inj, tI0, tI1, tI2, tI3, tI4, tI6, tI14, tI59, tI60, tI127, tI1000, tI100000, tIm1, tIm2, tIm3, tIm4, tIbig] at c_1 c_2 c_4 c_5 c_8 ⊢ <;> omega)) (by (simp only [decide_eq_true_eq, decide_eq_false_iff_not, Bool.and_eq_true, Bool.and_eq_false_iff, Bool.or_eq_true, Bool.or_eq_false_iff, Bool.not_eq_true, Bool.not_eq_false, ne_eq, not_and, not_or, tog_t, tog_f, ahd_t, ahd_f, isoB_t, isoB_f, ixB_t, ixB_f, vOK_t, vOK_f, wOK_t, wOK_f, tn4, Int32.lt_iff_toInt_lt, Int32.le_iff_toInt_le, ← Int32.toInt_inj, tI0, tI1, tI2, tI3, tI4, tI6, tI14, tI59, tI60, tI127, tI1000, tI100000, tIm1, tIm2, tIm3, tIm4, tIbig] at c_1 c_2 c_4 c_5 c_8 ⊢ <;> omega)))), ht⟩) (fun q h => by cases h) dX8_cost_219
            · skip
              have c_5 : k < n := gk_geF (a := k) (b := n) (by first | omega | exact Nat.lt_of_le_of_lt atN_le (by omega) | exact Nat.lt_of_le_of_lt szN_le (by omega) | exact Nat.lt_of_le_of_lt clM_le (by omega) | exact Nat.lt_of_le_of_lt rkN_le (by omega) | exact Nat.lt_of_le_of_lt (cnt_le _ _) (by omega)) (by first | omega | exact Nat.lt_of_le_of_lt atN_le (by omega) | exact Nat.lt_of_le_of_lt szN_le (by omega) | exact Nat.lt_of_le_of_lt clM_le (by omega) | exact Nat.lt_of_le_of_lt rkN_le (by omega) | exact Nat.lt_of_le_of_lt (cnt_le _ _) (by omega)) c_5
              refine lv_aload_n hx hb dX8_cost_38 rfl (lv_at hl 0 rfl) ?_
              refine lv_iload hx hb dX8_cost_39 (lv_at hl 4 rfl) ?_
              refine vp_callSi (gk_run (va_runV (As := [.int (nI k)]) (rest := []) ⟨hx, hb, hml, hown, hts⟩ (c_X8_nextOf l dC dI cI a n F T P V Wt o G L R hn ho k (by omega)) (cwV 1 hts gX8_cost_X8_nextOf rfl rfl rfl (by decide +kernel) ⟨Nat.le_of_ble_eq_true rfl, Nat.le_of_ble_eq_true rfl⟩) ⟨gk_fb, va_recv hK hP (ci := 8) (q0 := 0) rfl rfl, fun U hU hW => ⟨rfl, by rw [hU]; exact hP, va_K.moved hW.alike hK⟩⟩ rfl rfl hl.1 rfl (lv_room (Nat.le_of_ble_eq_true rfl)) dX8_cost_41 ⟨Nat.zero_le _, Nat.zero_le _⟩)) (fun r_12 er_12 => ?_)
              subst er_12
              refine lv_istore (lv' := [(5, .int (oi (flM F P V o n k))), (0, .ref (a 0)), (1, .int kd), (2, .int (smC (fun k => decide (flM F P V o n k ≠ 0)) (fun k => if P k < P (flM F P V o n k - 1) then P (flM F P V o n k - 1) - P k else P k - P (flM F P V o n k - 1)) k)), (3, .int (smC (fun k => decide (flM F P V o n k ≠ 0)) (fun k => F (flM F P V o n k - 1) - T k) k)), (4, .int (nI k))]) hx hb dX8_cost_44 hl (by decide) rfl (fun ls hl => ?_)
              refine lv_iload hx hb dX8_cost_46 (lv_at hl 0 rfl) ?_
              refine lv_if_lt (tgt := 122) hx hb dX8_cost_48 (by decide) (fun c_13 => ?_) (fun c_13 => ?_)
              · skip
                have c_13 : (flM F P V o n k) = 0 := Decidable.not_not.mp (fun q => absurd c_13 (by first | exact Int32.not_lt.mpr ((oi_ge (by exact Nat.lt_of_le_of_lt (flM_le ho) (by decide))).mpr q) | exact fun w => w ((oi_ge (by exact Nat.lt_of_le_of_lt (flM_le ho) (by decide))).mpr q)))
                refine lv_iinc (v := nI (k + 1)) (lv' := [(4, .int (nI (k + 1))), (5, .int (oi (flM F P V o n k))), (0, .ref (a 0)), (1, .int kd), (2, .int (smC (fun k => decide (flM F P V o n k ≠ 0)) (fun k => if P k < P (flM F P V o n k - 1) then P (flM F P V o n k - 1) - P k else P k - P (flM F P V o n k - 1)) k)), (3, .int (smC (fun k => decide (flM F P V o n k ≠ 0)) (fun k => F (flM F P V o n k - 1) - T k) k))]) hx hb dX8_cost_122 hl (k := 5) rfl (gk_inc1 _) (by decide) rfl (fun ls hl => ?_)
                refine lv_goto (tgt := 29) hx hb dX8_cost_125 (by decide) ?_
                exact ih29 (k + 1) _ _ _ ls (by first | rfl | exact smI_a (c := (fun k => decide (flM F P V o n k ≠ 0))) (f := (fun k => if P k < P (flM F P V o n k - 1) then P (flM F P V o n k - 1) - P k else P k - P (flM F P V o n k - 1))) (by simp [*]) (by first | rfl | exact ite_t (by (simp only [decide_eq_true_eq, decide_eq_false_iff_not, Bool.and_eq_true, Bool.and_eq_false_iff, Bool.or_eq_true, Bool.or_eq_false_iff, Bool.not_eq_true, Bool.not_eq_false, ne_eq, not_and, not_or, tog_t, tog_f, ahd_t, ahd_f, isoB_t, isoB_f, ixB_t, ixB_f, vOK_t, vOK_f, wOK_t, wOK_f, tn4, Int32.lt_iff_toInt_lt, Int32.le_iff_toInt_le, ← Int32.toInt_inj, tI0, tI1, tI2, tI3, tI4, tI6, tI14, tI59, tI60, tI127, tI1000, tI100000, tIm1, tIm2, tIm3, tIm4, tIbig] at c_1 c_2 c_4 c_5 c_13 ⊢ <;> omega)) rfl | exact ite_f (by (simp only [decide_eq_true_eq, decide_eq_false_iff_not, Bool.and_eq_true, Bool.and_eq_false_iff, Bool.or_eq_true, Bool.or_eq_false_iff, Bool.not_eq_true, Bool.not_eq_false, ne_eq, not_and, not_or, tog_t, tog_f, ahd_t, ahd_f, isoB_t, isoB_f, ixB_t, ixB_f, vOK_t, vOK_f, wOK_t, wOK_f, tn4, Int32.lt_iff_toInt_lt, Int32.le_iff_toInt_le, ← Int32.toInt_inj, tI0, tI1, tI2, tI3, tI4, tI6, tI14, tI59, tI60, tI127, tI1000, tI100000, tIm1, tIm2, tIm3, tIm4, tIbig] at c_1 c_2 c_4 c_5 c_13 ⊢ <;> omega)) rfl) | exact smC_n (c := (fun k => decide (flM F P V o n k ≠ 0))) (f := (fun k => if P k < P (flM F P V o n k - 1) then P (flM F P V o n k - 1) - P k else P k - P (flM F P V o n k - 1))) (by simp [*])) (by first | rfl | exact smI_a (c := (fun k => decide (flM F P V o n k ≠ 0))) (f := (fun k => F (flM F P V o n k - 1) - T k)) (by simp [*]) (by first | rfl | exact ite_t (by (simp only [decide_eq_true_eq, decide_eq_false_iff_not, Bool.and_eq_true, Bool.and_eq_false_iff, Bool.or_eq_true, Bool.or_eq_false_iff, Bool.not_eq_true, Bool.not_eq_false, ne_eq, not_and, not_or, tog_t, tog_f, ahd_t, ahd_f, isoB_t, isoB_f, ixB_t, ixB_f, vOK_t, vOK_f, wOK_t, wOK_f, tn4, Int32.lt_iff_toInt_lt, Int32.le_iff_toInt_le, ← Int32.toInt_inj, tI0, tI1, tI2, tI3, tI4, tI6, tI14, tI59, tI60, tI127, tI1000, tI100000, tIm1, tIm2, tIm3, tIm4, tIbig] at c_1 c_2 c_4 c_5 c_13 ⊢ <;> omega)) rfl | exact ite_f (by (simp only [decide_eq_true_eq, decide_eq_false_iff_not, Bool.and_eq_true, Bool.and_eq_false_iff, Bool.or_eq_true, Bool.or_eq_false_iff, Bool.not_eq_true, Bool.not_eq_false, ne_eq, not_and, not_or, tog_t, tog_f, ahd_t, ahd_f, isoB_t, isoB_f, ixB_t, ixB_f, vOK_t, vOK_f, wOK_t, wOK_f, tn4, Int32.lt_iff_toInt_lt, Int32.le_iff_toInt_le, ← Int32.toInt_inj, tI0, tI1, tI2, tI3, tI4, tI6, tI14, tI59, tI60, tI127, tI1000, tI100000, tIm1, tIm2, tIm3, tIm4, tIbig] at c_1 c_2 c_4 c_5 c_13 ⊢ <;> omega)) rfl) | exact smC_n (c := (fun k => decide (flM F P V o n k ≠ 0))) (f := (fun k => F (flM F P V o n k - 1) - T k)) (by simp [*])) (by rfl) (by omega) (by omega) (lv_sub hl [2, 3, 4, 5, 0] rfl)
              · skip
                have c_13 : (flM F P V o n k) ≠ 0 := (oi_ge (by exact Nat.lt_of_le_of_lt (flM_le ho) (by decide))).mp (by first | exact c_13 | exact Int32.not_lt.mp c_13)
                refine lv_iload_n hx hb dX8_cost_51 rfl (lv_at hl 3 rfl) ?_
                refine lv_aload_n hx hb dX8_cost_52 rfl (lv_at hl 1 rfl) ?_
                refine va_get (D := (dC, dI)) (ci := 8) (v := .ref (a 3)) (C := RX8) (T := TX8) (N := 10) hx hb hts i_X8 hown hK hP 0 rfl rfl 2 (by decide) k_2 (fun _ h9 => h9) rfl dX8_cost_53 ?_
                refine lv_iload hx hb dX8_cost_56 (lv_at hl 0 rfl) ?_
                refine gk_top (y := nI (flM F P V o n k - 1)) (oi_pos (by assumption)) ?_
                refine gk_ld hx hb hK hP 3 0 rfl rfl (flM F P V o n k - 1) (by have := hfl k; omega) (by omega) (v := P (flM F P V o n k - 1)) (rfl) dX8_cost_58 ?_
                refine lv_aload_n hx hb dX8_cost_59 rfl (lv_at hl 1 rfl) ?_
                refine va_get (D := (dC, dI)) (ci := 8) (v := .ref (a 3)) (C := RX8) (T := TX8) (N := 10) hx hb hts i_X8 hown hK hP 0 rfl rfl 2 (by decide) k_2 (fun _ h9 => h9) rfl dX8_cost_60 ?_
                refine lv_iload hx hb dX8_cost_63 (lv_at hl 5 rfl) ?_
                refine gk_ld hx hb hK hP 3 0 rfl rfl k (by omega) (by omega) (v := P k) (rfl) dX8_cost_65 ?_
                refine lv_icmp_le (tgt := 87) hx hb dX8_cost_66 (by decide) (fun c_14 => ?_) (fun c_14 => ?_)
                · skip
                  refine lv_aload_n hx hb dX8_cost_87 rfl (lv_at hl 1 rfl) ?_
                  refine va_get (D := (dC, dI)) (ci := 8) (v := .ref (a 3)) (C := RX8) (T := TX8) (N := 10) hx hb hts i_X8 hown hK hP 0 rfl rfl 2 (by decide) k_2 (fun _ h9 => h9) rfl dX8_cost_88 ?_
                  refine lv_iload hx hb dX8_cost_91 (lv_at hl 5 rfl) ?_
                  refine gk_ld hx hb hK hP 3 0 rfl rfl k (by omega) (by omega) (v := P k) (rfl) dX8_cost_93 ?_
                  refine lv_aload_n hx hb dX8_cost_94 rfl (lv_at hl 1 rfl) ?_
                  refine va_get (D := (dC, dI)) (ci := 8) (v := .ref (a 3)) (C := RX8) (T := TX8) (N := 10) hx hb hts i_X8 hown hK hP 0 rfl rfl 2 (by decide) k_2 (fun _ h9 => h9) rfl dX8_cost_95 ?_
                  refine lv_iload hx hb dX8_cost_98 (lv_at hl 0 rfl) ?_
                  refine gk_top (y := nI (flM F P V o n k - 1)) (oi_pos (by assumption)) ?_
                  refine gk_ld hx hb hK hP 3 0 rfl rfl (flM F P V o n k - 1) (by have := hfl k; omega) (by omega) (v := P (flM F P V o n k - 1)) (rfl) dX8_cost_100 ?_
                  refine lv_isub hx hb dX8_cost_101 ?_
                  refine lv_iadd hx hb dX8_cost_102 ?_
                  refine lv_istore_n (lv' := [(2, .int ((smC (fun k => decide (flM F P V o n k ≠ 0)) (fun k => if P k < P (flM F P V o n k - 1) then P (flM F P V o n k - 1) - P k else P k - P (flM F P V o n k - 1)) k) + ((P k) - (P (flM F P V o n k - 1))))), (5, .int (oi (flM F P V o n k))), (0, .ref (a 0)), (1, .int kd), (3, .int (smC (fun k => decide (flM F P V o n k ≠ 0)) (fun k => F (flM F P V o n k - 1) - T k) k)), (4, .int (nI k))]) hx hb dX8_cost_103 rfl hl (by decide) rfl (fun ls hl => ?_)
                  refine lv_iload_n hx hb dX8_cost_104 rfl (lv_at hl 4 rfl) ?_
                  refine lv_aload_n hx hb dX8_cost_105 rfl (lv_at hl 2 rfl) ?_
                  refine va_get (D := (dC, dI)) (ci := 8) (v := .ref (a 1)) (C := RX8) (T := TX8) (N := 10) hx hb hts i_X8 hown hK hP 0 rfl rfl 0 (by decide) k_3 (fun _ h9 => h9) rfl dX8_cost_106 ?_
                  refine lv_iload hx hb dX8_cost_109 (lv_at hl 1 rfl) ?_
                  refine gk_top (y := nI (flM F P V o n k - 1)) (oi_pos (by assumption)) ?_
                  refine gk_ld hx hb hK hP 1 0 rfl rfl (flM F P V o n k - 1) (by have := hfl k; omega) (by omega) (v := F (flM F P V o n k - 1)) (rfl) dX8_cost_111 ?_
                  refine lv_aload_n hx hb dX8_cost_112 rfl (lv_at hl 2 rfl) ?_
                  refine va_get (D := (dC, dI)) (ci := 8) (v := .ref (a 2)) (C := RX8) (T := TX8) (N := 10) hx hb hts i_X8 hown hK hP 0 rfl rfl 1 (by decide) k_4 (fun _ h9 => h9) rfl dX8_cost_113 ?_
                  refine lv_iload hx hb dX8_cost_116 (lv_at hl 5 rfl) ?_
                  refine gk_ld hx hb hK hP 2 0 rfl rfl k (by omega) (by omega) (v := T k) (rfl) dX8_cost_118 ?_
                  refine lv_isub hx hb dX8_cost_119 ?_
                  refine lv_iadd hx hb dX8_cost_120 ?_
                  refine lv_istore_n (lv' := [(3, .int ((smC (fun k => decide (flM F P V o n k ≠ 0)) (fun k => F (flM F P V o n k - 1) - T k) k) + ((F (flM F P V o n k - 1)) - (T k)))), (2, .int ((smC (fun k => decide (flM F P V o n k ≠ 0)) (fun k => if P k < P (flM F P V o n k - 1) then P (flM F P V o n k - 1) - P k else P k - P (flM F P V o n k - 1)) k) + ((P k) - (P (flM F P V o n k - 1))))), (5, .int (oi (flM F P V o n k))), (0, .ref (a 0)), (1, .int kd), (4, .int (nI k))]) hx hb dX8_cost_121 rfl hl (by decide) rfl (fun ls hl => ?_)
                  refine lv_iinc (v := nI (k + 1)) (lv' := [(4, .int (nI (k + 1))), (3, .int ((smC (fun k => decide (flM F P V o n k ≠ 0)) (fun k => F (flM F P V o n k - 1) - T k) k) + ((F (flM F P V o n k - 1)) - (T k)))), (2, .int ((smC (fun k => decide (flM F P V o n k ≠ 0)) (fun k => if P k < P (flM F P V o n k - 1) then P (flM F P V o n k - 1) - P k else P k - P (flM F P V o n k - 1)) k) + ((P k) - (P (flM F P V o n k - 1))))), (5, .int (oi (flM F P V o n k))), (0, .ref (a 0)), (1, .int kd)]) hx hb dX8_cost_122 hl (k := 5) rfl (gk_inc1 _) (by decide) rfl (fun ls hl => ?_)
                  refine lv_goto (tgt := 29) hx hb dX8_cost_125 (by decide) ?_
                  exact ih29 (k + 1) _ _ _ ls (by first | rfl | exact smI_a (c := (fun k => decide (flM F P V o n k ≠ 0))) (f := (fun k => if P k < P (flM F P V o n k - 1) then P (flM F P V o n k - 1) - P k else P k - P (flM F P V o n k - 1))) (by simp [*]) (by first | rfl | exact ite_t (by (simp only [decide_eq_true_eq, decide_eq_false_iff_not, Bool.and_eq_true, Bool.and_eq_false_iff, Bool.or_eq_true, Bool.or_eq_false_iff, Bool.not_eq_true, Bool.not_eq_false, ne_eq, not_and, not_or, tog_t, tog_f, ahd_t, ahd_f, isoB_t, isoB_f, ixB_t, ixB_f, vOK_t, vOK_f, wOK_t, wOK_f, tn4, Int32.lt_iff_toInt_lt, Int32.le_iff_toInt_le, ← Int32.toInt_inj, tI0, tI1, tI2, tI3, tI4, tI6, tI14, tI59, tI60, tI127, tI1000, tI100000, tIm1, tIm2, tIm3, tIm4, tIbig] at c_1 c_2 c_4 c_5 c_13 c_14 ⊢ <;> omega)) rfl | exact ite_f (by (simp only [decide_eq_true_eq, decide_eq_false_iff_not, Bool.and_eq_true, Bool.and_eq_false_iff, Bool.or_eq_true, Bool.or_eq_false_iff, Bool.not_eq_true, Bool.not_eq_false, ne_eq, not_and, not_or, tog_t, tog_f, ahd_t, ahd_f, isoB_t, isoB_f, ixB_t, ixB_f, vOK_t, vOK_f, wOK_t, wOK_f, tn4, Int32.lt_iff_toInt_lt, Int32.le_iff_toInt_le, ← Int32.toInt_inj, tI0, tI1, tI2, tI3, tI4, tI6, tI14, tI59, tI60, tI127, tI1000, tI100000, tIm1, tIm2, tIm3, tIm4, tIbig] at c_1 c_2 c_4 c_5 c_13 c_14 ⊢ <;> omega)) rfl) | exact smC_n (c := (fun k => decide (flM F P V o n k ≠ 0))) (f := (fun k => if P k < P (flM F P V o n k - 1) then P (flM F P V o n k - 1) - P k else P k - P (flM F P V o n k - 1))) (by simp [*])) (by first | rfl | exact smI_a (c := (fun k => decide (flM F P V o n k ≠ 0))) (f := (fun k => F (flM F P V o n k - 1) - T k)) (by simp [*]) (by first | rfl | exact ite_t (by (simp only [decide_eq_true_eq, decide_eq_false_iff_not, Bool.and_eq_true, Bool.and_eq_false_iff, Bool.or_eq_true, Bool.or_eq_false_iff, Bool.not_eq_true, Bool.not_eq_false, ne_eq, not_and, not_or, tog_t, tog_f, ahd_t, ahd_f, isoB_t, isoB_f, ixB_t, ixB_f, vOK_t, vOK_f, wOK_t, wOK_f, tn4, Int32.lt_iff_toInt_lt, Int32.le_iff_toInt_le, ← Int32.toInt_inj, tI0, tI1, tI2, tI3, tI4, tI6, tI14, tI59, tI60, tI127, tI1000, tI100000, tIm1, tIm2, tIm3, tIm4, tIbig] at c_1 c_2 c_4 c_5 c_13 c_14 ⊢ <;> omega)) rfl | exact ite_f (by (simp only [decide_eq_true_eq, decide_eq_false_iff_not, Bool.and_eq_true, Bool.and_eq_false_iff, Bool.or_eq_true, Bool.or_eq_false_iff, Bool.not_eq_true, Bool.not_eq_false, ne_eq, not_and, not_or, tog_t, tog_f, ahd_t, ahd_f, isoB_t, isoB_f, ixB_t, ixB_f, vOK_t, vOK_f, wOK_t, wOK_f, tn4, Int32.lt_iff_toInt_lt, Int32.le_iff_toInt_le, ← Int32.toInt_inj, tI0, tI1, tI2, tI3, tI4, tI6, tI14, tI59, tI60, tI127, tI1000, tI100000, tIm1, tIm2, tIm3, tIm4, tIbig] at c_1 c_2 c_4 c_5 c_13 c_14 ⊢ <;> omega)) rfl) | exact smC_n (c := (fun k => decide (flM F P V o n k ≠ 0))) (f := (fun k => F (flM F P V o n k - 1) - T k)) (by simp [*])) (by rfl) (by omega) (by omega) (lv_sub hl [4, 5, 2, 1, 0] rfl)
                · skip
                  refine lv_aload_n hx hb dX8_cost_69 rfl (lv_at hl 1 rfl) ?_
                  refine va_get (D := (dC, dI)) (ci := 8) (v := .ref (a 3)) (C := RX8) (T := TX8) (N := 10) hx hb hts i_X8 hown hK hP 0 rfl rfl 2 (by decide) k_2 (fun _ h9 => h9) rfl dX8_cost_70 ?_
                  refine lv_iload hx hb dX8_cost_73 (lv_at hl 0 rfl) ?_
                  refine gk_top (y := nI (flM F P V o n k - 1)) (oi_pos (by assumption)) ?_
                  refine gk_ld hx hb hK hP 3 0 rfl rfl (flM F P V o n k - 1) (by have := hfl k; omega) (by omega) (v := P (flM F P V o n k - 1)) (rfl) dX8_cost_75 ?_
                  refine lv_aload_n hx hb dX8_cost_76 rfl (lv_at hl 1 rfl) ?_
                  refine va_get (D := (dC, dI)) (ci := 8) (v := .ref (a 3)) (C := RX8) (T := TX8) (N := 10) hx hb hts i_X8 hown hK hP 0 rfl rfl 2 (by decide) k_2 (fun _ h9 => h9) rfl dX8_cost_77 ?_
                  refine lv_iload hx hb dX8_cost_80 (lv_at hl 5 rfl) ?_
                  refine gk_ld hx hb hK hP 3 0 rfl rfl k (by omega) (by omega) (v := P k) (rfl) dX8_cost_82 ?_
                  refine lv_isub hx hb dX8_cost_83 ?_
                  refine lv_goto (tgt := 102) hx hb dX8_cost_84 (by decide) ?_
                  refine lv_iadd hx hb dX8_cost_102 ?_
                  refine lv_istore_n (lv' := [(2, .int ((smC (fun k => decide (flM F P V o n k ≠ 0)) (fun k => if P k < P (flM F P V o n k - 1) then P (flM F P V o n k - 1) - P k else P k - P (flM F P V o n k - 1)) k) + ((P (flM F P V o n k - 1)) - (P k)))), (5, .int (oi (flM F P V o n k))), (0, .ref (a 0)), (1, .int kd), (3, .int (smC (fun k => decide (flM F P V o n k ≠ 0)) (fun k => F (flM F P V o n k - 1) - T k) k)), (4, .int (nI k))]) hx hb dX8_cost_103 rfl hl (by decide) rfl (fun ls hl => ?_)
                  refine lv_iload_n hx hb dX8_cost_104 rfl (lv_at hl 4 rfl) ?_
                  refine lv_aload_n hx hb dX8_cost_105 rfl (lv_at hl 2 rfl) ?_
                  refine va_get (D := (dC, dI)) (ci := 8) (v := .ref (a 1)) (C := RX8) (T := TX8) (N := 10) hx hb hts i_X8 hown hK hP 0 rfl rfl 0 (by decide) k_3 (fun _ h9 => h9) rfl dX8_cost_106 ?_
                  refine lv_iload hx hb dX8_cost_109 (lv_at hl 1 rfl) ?_
                  refine gk_top (y := nI (flM F P V o n k - 1)) (oi_pos (by assumption)) ?_
                  refine gk_ld hx hb hK hP 1 0 rfl rfl (flM F P V o n k - 1) (by have := hfl k; omega) (by omega) (v := F (flM F P V o n k - 1)) (rfl) dX8_cost_111 ?_
                  refine lv_aload_n hx hb dX8_cost_112 rfl (lv_at hl 2 rfl) ?_
                  refine va_get (D := (dC, dI)) (ci := 8) (v := .ref (a 2)) (C := RX8) (T := TX8) (N := 10) hx hb hts i_X8 hown hK hP 0 rfl rfl 1 (by decide) k_4 (fun _ h9 => h9) rfl dX8_cost_113 ?_
                  refine lv_iload hx hb dX8_cost_116 (lv_at hl 5 rfl) ?_
                  refine gk_ld hx hb hK hP 2 0 rfl rfl k (by omega) (by omega) (v := T k) (rfl) dX8_cost_118 ?_
                  refine lv_isub hx hb dX8_cost_119 ?_
                  refine lv_iadd hx hb dX8_cost_120 ?_
                  refine lv_istore_n (lv' := [(3, .int ((smC (fun k => decide (flM F P V o n k ≠ 0)) (fun k => F (flM F P V o n k - 1) - T k) k) + ((F (flM F P V o n k - 1)) - (T k)))), (2, .int ((smC (fun k => decide (flM F P V o n k ≠ 0)) (fun k => if P k < P (flM F P V o n k - 1) then P (flM F P V o n k - 1) - P k else P k - P (flM F P V o n k - 1)) k) + ((P (flM F P V o n k - 1)) - (P k)))), (5, .int (oi (flM F P V o n k))), (0, .ref (a 0)), (1, .int kd), (4, .int (nI k))]) hx hb dX8_cost_121 rfl hl (by decide) rfl (fun ls hl => ?_)
                  refine lv_iinc (v := nI (k + 1)) (lv' := [(4, .int (nI (k + 1))), (3, .int ((smC (fun k => decide (flM F P V o n k ≠ 0)) (fun k => F (flM F P V o n k - 1) - T k) k) + ((F (flM F P V o n k - 1)) - (T k)))), (2, .int ((smC (fun k => decide (flM F P V o n k ≠ 0)) (fun k => if P k < P (flM F P V o n k - 1) then P (flM F P V o n k - 1) - P k else P k - P (flM F P V o n k - 1)) k) + ((P (flM F P V o n k - 1)) - (P k)))), (5, .int (oi (flM F P V o n k))), (0, .ref (a 0)), (1, .int kd)]) hx hb dX8_cost_122 hl (k := 5) rfl (gk_inc1 _) (by decide) rfl (fun ls hl => ?_)
                  refine lv_goto (tgt := 29) hx hb dX8_cost_125 (by decide) ?_
                  exact ih29 (k + 1) _ _ _ ls (by first | rfl | exact smI_a (c := (fun k => decide (flM F P V o n k ≠ 0))) (f := (fun k => if P k < P (flM F P V o n k - 1) then P (flM F P V o n k - 1) - P k else P k - P (flM F P V o n k - 1))) (by simp [*]) (by first | rfl | exact ite_t (by (simp only [decide_eq_true_eq, decide_eq_false_iff_not, Bool.and_eq_true, Bool.and_eq_false_iff, Bool.or_eq_true, Bool.or_eq_false_iff, Bool.not_eq_true, Bool.not_eq_false, ne_eq, not_and, not_or, tog_t, tog_f, ahd_t, ahd_f, isoB_t, isoB_f, ixB_t, ixB_f, vOK_t, vOK_f, wOK_t, wOK_f, tn4, Int32.lt_iff_toInt_lt, Int32.le_iff_toInt_le, ← Int32.toInt_inj, tI0, tI1, tI2, tI3, tI4, tI6, tI14, tI59, tI60, tI127, tI1000, tI100000, tIm1, tIm2, tIm3, tIm4, tIbig] at c_1 c_2 c_4 c_5 c_13 c_14 ⊢ <;> omega)) rfl | exact ite_f (by (simp only [decide_eq_true_eq, decide_eq_false_iff_not, Bool.and_eq_true, Bool.and_eq_false_iff, Bool.or_eq_true, Bool.or_eq_false_iff, Bool.not_eq_true, Bool.not_eq_false, ne_eq, not_and, not_or, tog_t, tog_f, ahd_t, ahd_f, isoB_t, isoB_f, ixB_t, ixB_f, vOK_t, vOK_f, wOK_t, wOK_f, tn4, Int32.lt_iff_toInt_lt, Int32.le_iff_toInt_le, ← Int32.toInt_inj, tI0, tI1, tI2, tI3, tI4, tI6, tI14, tI59, tI60, tI127, tI1000, tI100000, tIm1, tIm2, tIm3, tIm4, tIbig] at c_1 c_2 c_4 c_5 c_13 c_14 ⊢ <;> omega)) rfl) | exact smC_n (c := (fun k => decide (flM F P V o n k ≠ 0))) (f := (fun k => if P k < P (flM F P V o n k - 1) then P (flM F P V o n k - 1) - P k else P k - P (flM F P V o n k - 1))) (by simp [*])) (by first | rfl | exact smI_a (c := (fun k => decide (flM F P V o n k ≠ 0))) (f := (fun k => F (flM F P V o n k - 1) - T k)) (by simp [*]) (by first | rfl | exact ite_t (by (simp only [decide_eq_true_eq, decide_eq_false_iff_not, Bool.and_eq_true, Bool.and_eq_false_iff, Bool.or_eq_true, Bool.or_eq_false_iff, Bool.not_eq_true, Bool.not_eq_false, ne_eq, not_and, not_or, tog_t, tog_f, ahd_t, ahd_f, isoB_t, isoB_f, ixB_t, ixB_f, vOK_t, vOK_f, wOK_t, wOK_f, tn4, Int32.lt_iff_toInt_lt, Int32.le_iff_toInt_le, ← Int32.toInt_inj, tI0, tI1, tI2, tI3, tI4, tI6, tI14, tI59, tI60, tI127, tI1000, tI100000, tIm1, tIm2, tIm3, tIm4, tIbig] at c_1 c_2 c_4 c_5 c_13 c_14 ⊢ <;> omega)) rfl | exact ite_f (by (simp only [decide_eq_true_eq, decide_eq_false_iff_not, Bool.and_eq_true, Bool.and_eq_false_iff, Bool.or_eq_true, Bool.or_eq_false_iff, Bool.not_eq_true, Bool.not_eq_false, ne_eq, not_and, not_or, tog_t, tog_f, ahd_t, ahd_f, isoB_t, isoB_f, ixB_t, ixB_f, vOK_t, vOK_f, wOK_t, wOK_f, tn4, Int32.lt_iff_toInt_lt, Int32.le_iff_toInt_le, ← Int32.toInt_inj, tI0, tI1, tI2, tI3, tI4, tI6, tI14, tI59, tI60, tI127, tI1000, tI100000, tIm1, tIm2, tIm3, tIm4, tIbig] at c_1 c_2 c_4 c_5 c_13 c_14 ⊢ <;> omega)) rfl) | exact smC_n (c := (fun k => decide (flM F P V o n k ≠ 0))) (f := (fun k => F (flM F P V o n k - 1) - T k)) (by simp [*])) (by rfl) (by omega) (by omega) (lv_sub hl [4, 5, 2, 1, 0] rfl)
        exact L29 ((n) + 1) 0 _ _ _ ls (by first | rfl | exact smI_a (c := (fun k => decide (flM F P V o n k ≠ 0))) (f := (fun k => if P k < P (flM F P V o n k - 1) then P (flM F P V o n k - 1) - P k else P k - P (flM F P V o n k - 1))) (by simp [*]) (by first | rfl | exact ite_t (by (simp only [decide_eq_true_eq, decide_eq_false_iff_not, Bool.and_eq_true, Bool.and_eq_false_iff, Bool.or_eq_true, Bool.or_eq_false_iff, Bool.not_eq_true, Bool.not_eq_false, ne_eq, not_and, not_or, tog_t, tog_f, ahd_t, ahd_f, isoB_t, isoB_f, ixB_t, ixB_f, vOK_t, vOK_f, wOK_t, wOK_f, tn4, Int32.lt_iff_toInt_lt, Int32.le_iff_toInt_le, ← Int32.toInt_inj, tI0, tI1, tI2, tI3, tI4, tI6, tI14, tI59, tI60, tI127, tI1000, tI100000, tIm1, tIm2, tIm3, tIm4, tIbig] at c_1 c_2 c_4 ⊢ <;> omega)) rfl | exact ite_f (by (simp only [decide_eq_true_eq, decide_eq_false_iff_not, Bool.and_eq_true, Bool.and_eq_false_iff, Bool.or_eq_true, Bool.or_eq_false_iff, Bool.not_eq_true, Bool.not_eq_false, ne_eq, not_and, not_or, tog_t, tog_f, ahd_t, ahd_f, isoB_t, isoB_f, ixB_t, ixB_f, vOK_t, vOK_f, wOK_t, wOK_f, tn4, Int32.lt_iff_toInt_lt, Int32.le_iff_toInt_le, ← Int32.toInt_inj, tI0, tI1, tI2, tI3, tI4, tI6, tI14, tI59, tI60, tI127, tI1000, tI100000, tIm1, tIm2, tIm3, tIm4, tIbig] at c_1 c_2 c_4 ⊢ <;> omega)) rfl) | exact smC_n (c := (fun k => decide (flM F P V o n k ≠ 0))) (f := (fun k => if P k < P (flM F P V o n k - 1) then P (flM F P V o n k - 1) - P k else P k - P (flM F P V o n k - 1))) (by simp [*])) (by first | rfl | exact smI_a (c := (fun k => decide (flM F P V o n k ≠ 0))) (f := (fun k => F (flM F P V o n k - 1) - T k)) (by simp [*]) (by first | rfl | exact ite_t (by (simp only [decide_eq_true_eq, decide_eq_false_iff_not, Bool.and_eq_true, Bool.and_eq_false_iff, Bool.or_eq_true, Bool.or_eq_false_iff, Bool.not_eq_true, Bool.not_eq_false, ne_eq, not_and, not_or, tog_t, tog_f, ahd_t, ahd_f, isoB_t, isoB_f, ixB_t, ixB_f, vOK_t, vOK_f, wOK_t, wOK_f, tn4, Int32.lt_iff_toInt_lt, Int32.le_iff_toInt_le, ← Int32.toInt_inj, tI0, tI1, tI2, tI3, tI4, tI6, tI14, tI59, tI60, tI127, tI1000, tI100000, tIm1, tIm2, tIm3, tIm4, tIbig] at c_1 c_2 c_4 ⊢ <;> omega)) rfl | exact ite_f (by (simp only [decide_eq_true_eq, decide_eq_false_iff_not, Bool.and_eq_true, Bool.and_eq_false_iff, Bool.or_eq_true, Bool.or_eq_false_iff, Bool.not_eq_true, Bool.not_eq_false, ne_eq, not_and, not_or, tog_t, tog_f, ahd_t, ahd_f, isoB_t, isoB_f, ixB_t, ixB_f, vOK_t, vOK_f, wOK_t, wOK_f, tn4, Int32.lt_iff_toInt_lt, Int32.le_iff_toInt_le, ← Int32.toInt_inj, tI0, tI1, tI2, tI3, tI4, tI6, tI14, tI59, tI60, tI127, tI1000, tI100000, tIm1, tIm2, tIm3, tIm4, tIbig] at c_1 c_2 c_4 ⊢ <;> omega)) rfl) | exact smC_n (c := (fun k => decide (flM F P V o n k ≠ 0))) (f := (fun k => F (flM F P V o n k - 1) - T k)) (by simp [*])) (by rfl) (by omega) (by omega) (lv_sub hl [3, 4, 2, 1, 0] rfl)
      · skip
        have c_4 : (whM F T V n) = false := b2i_0.mp c_4
        refine lv_bipush (v := (-3)) hx hb dX8_cost_19 (by decide) ?_
        exact W.iret (v := (-3)) hx hb hr (fun t ht _ => ⟨_, rfl, by exact ite_t (by (simp only [decide_eq_true_eq, decide_eq_false_iff_not, Bool.and_eq_true, Bool.and_eq_false_iff, Bool.or_eq_true, Bool.or_eq_false_iff, Bool.not_eq_true, Bool.not_eq_false, ne_eq, not_and, not_or, tog_t, tog_f, ahd_t, ahd_f, isoB_t, isoB_f, ixB_t, ixB_f, vOK_t, vOK_f, wOK_t, wOK_f, tn4, Int32.lt_iff_toInt_lt, Int32.le_iff_toInt_le, ← Int32.toInt_inj, tI0, tI1, tI2, tI3, tI4, tI6, tI14, tI59, tI60, tI127, tI1000, tI100000, tIm1, tIm2, tIm3, tIm4, tIbig] at c_1 c_2 c_4 ⊢ <;> omega)) (ite_f (by simp [*]) rfl), ht⟩) (fun q h => by cases h) dX8_cost_21
    · skip
      refine lv_bipush (v := (-2)) hx hb dX8_cost_9 (by decide) ?_
      exact W.iret (v := (-2)) hx hb hr (fun t ht _ => ⟨_, rfl, by exact ite_f (by (simp only [decide_eq_true_eq, decide_eq_false_iff_not, Bool.and_eq_true, Bool.and_eq_false_iff, Bool.or_eq_true, Bool.or_eq_false_iff, Bool.not_eq_true, Bool.not_eq_false, ne_eq, not_and, not_or, tog_t, tog_f, ahd_t, ahd_f, isoB_t, isoB_f, ixB_t, ixB_f, vOK_t, vOK_f, wOK_t, wOK_f, tn4, Int32.lt_iff_toInt_lt, Int32.le_iff_toInt_le, ← Int32.toInt_inj, tI0, tI1, tI2, tI3, tI4, tI6, tI14, tI59, tI60, tI127, tI1000, tI100000, tIm1, tIm2, tIm3, tIm4, tIbig] at c_1 c_2 ⊢ <;> omega)) rfl, ht⟩) (fun q h => by cases h) dX8_cost_11
