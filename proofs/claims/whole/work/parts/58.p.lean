set_option maxHeartbeats 1000000 in
set_option maxRecDepth 100000 in
theorem c_X8_level (l : Launch) (dC : Nat → ClassId) (dI : Nat → Nat → Nat) (cI : ClassId) (sz : Nat) (a : Nat → Nat) (n : Nat) (F T P V Wt : Nat → Int32) (o : Nat → Nat) (G L R : Nat → Int32) (hn : n ≤ 60) (ho : ∀ j, o j < 60) (r nv : Nat) (hr0 : r ≤ n) (hn4 : n ≤ 14) (hv0 : nv ≤ 4) : Met l yX8_level wsX8_level ({ frames := 4, cells := 0, slots := 0, locals := 98 } : Room) (va_Pc [.ref (a 0), .int (nI r), .int (nI nv)] (fun U => U.heap.size = sz ∧ va_P (dC, dI) vwCl (mW cI a (nI n) F T P V Wt (fun j => nI (o j)) G L R) U.heap ∧ va_K (dC, dI) vwCl [(cI, .int)] U ∧ va_D (fun _ => True) (mW cI a (nI n) F T P V Wt (fun j => nI (o j)) G L R))) (va_Qv (fun u : (Nat → Int32) × (Nat → Int32) => lvP F T P Wt o n nv r R u.2 ((r + 1) ^ nv)) (fun u t => va_P (dC, dI) vwCl (mW cI a (nI n) F T P V Wt (fun j => nI (o j)) G u.1 u.2) t.heap ∧ va_K (dC, dI) vwCl [(cI, .int)] t ∧ va_D (va_A (mW cI a (nI n) F T P V Wt (fun j => nI (o j)) G L R) sz) (mW cI a (nI n) F T P V Wt (fun j => nI (o j)) G u.1 u.2)) (va_A (mW cI a (nI n) F T P V Wt (fun j => nI (o j)) G L R) sz)) 0 0 (va_A (mW cI a (nI n) F T P V Wt (fun j => nI (o j)) G L R) sz) := by
  refine Met.ofW (cc := cX8_level) (maxL := 8) (ret := none) (by decide) rfl ?_
  intro p e s m args below meth c s₁ B hml hv
  obtain ⟨rfl, hsz, hP, hK, hD0⟩ := hv
  have hx := B.exec
  have hb := B.bytes
  have hr := B.returns
  have hts := atoms_spec (ws := wsX8_level) B.pre
  have hown : s.vm.findClass RX8 = some m.cls := findClass_of_methodNamed B.named
  have hlocks := B.notSynchronized
  subst hsz
  have hD := hD0.self (sz := s.heap.size)
  generalize hAe : va_A (mW cI a (nI n) F T P V Wt (fun j => nI (o j)) G L R) s.heap.size = A at hD ⊢
  have hA : ∀ q : Nat, s.heap.size ≤ q → A q := fun q h => by rw [← hAe]; exact Or.inr h
  have hS : va_S A s.heap s.heap [] := va_S.rf
  have i_X8 : ∀ w ∈ u_ws RX8 TX8 10, w ∈ wsX8_level := by decide +kernel
  have k_0 := hts (.fieldLink RX8 35 "VoiceRowsModel" "rest" "[I") (by decide +kernel)
  have k_1 := hts (.fieldLink RX8 38 "VoiceRowsModel" "notes" "I") (by decide +kernel)
  have k_2 := hts (.fieldLink RX8 31 "VoiceRowsModel" "last" "[I") (by decide +kernel)
  have hl := lv_entry ([.ref (a 0), .int (nI r), .int (nI nv)]) (n := 8) (Nat.le_of_ble_eq_true rfl)
  rw [lg_entry_eq]
  generalize (lg_sl ([.ref (a 0), .int (nI r), .int (nI nv)]) ++ List.replicate (8 - (lg_sl ([.ref (a 0), .int (nI r), .int (nI nv)])).length) Slot.unset).toArray = ls at hl ⊢
  have hl : lv_has ls 8 [(0, .ref (a 0)), (1, .int (nI r)), (2, .int (nI nv))] := hl
  have hpw : (r + 1) ^ nv ≤ 50625 := pw_le (by omega) hv0
  refine lv_iconst (v := 1) hx hb dX8_level_0 (by decide) ?_
  refine lv_istore_n (lv' := [(3, .int 1), (0, .ref (a 0)), (1, .int (nI r)), (2, .int (nI nv))]) hx hb dX8_level_1 rfl hl (by decide) rfl (fun ls hl => ?_)
  refine lv_iconst (v := 0) hx hb dX8_level_2 (by decide) ?_
  refine lv_istore (lv' := [(4, .int 0), (3, .int 1), (0, .ref (a 0)), (1, .int (nI r)), (2, .int (nI nv))]) hx hb dX8_level_3 hl (by decide) rfl (fun ls hl => ?_)
  have L5 : ∀ (fu : Nat) (k : Nat) (x3 x4 : Int32) (H : Heap) (locs : List Loc) (ls : Array Slot), x3 = nI ((r + 1) ^ k) → x4 = nI k → k ≤ nv → nv - k < fu → va_P (dC, dI) vwCl [(a 0, .inr (8, [.ref (a 1), .ref (a 2), .ref (a 3), .ref (a 4), .int (nI n), .ref (a 5), .ref (a 6), .ref (a 7), .ref (a 8), .ref (a 9)])), (a 1, .inl (cI, 60, .inl F)), (a 2, .inl (cI, 60, .inl T)), (a 3, .inl (cI, 60, .inl P)), (a 4, .inl (cI, 60, .inl V)), (a 5, .inl (cI, 4, .inl Wt)), (a 6, .inl (cI, 60, .inl (fun j => nI (o j)))), (a 7, .inl (cI, 60, .inl G)), (a 8, .inl (cI, 4, .inl L)), (a 9, .inl (cI, 759375, .inl R))] H → va_D A [(a 0, .inr (8, [.ref (a 1), .ref (a 2), .ref (a 3), .ref (a 4), .int (nI n), .ref (a 5), .ref (a 6), .ref (a 7), .ref (a 8), .ref (a 9)])), (a 1, .inl (cI, 60, .inl F)), (a 2, .inl (cI, 60, .inl T)), (a 3, .inl (cI, 60, .inl P)), (a 4, .inl (cI, 60, .inl V)), (a 5, .inl (cI, 4, .inl Wt)), (a 6, .inl (cI, 60, .inl (fun j => nI (o j)))), (a 7, .inl (cI, 60, .inl G)), (a 8, .inl (cI, 4, .inl L)), (a 9, .inl (cI, 759375, .inl R))] → va_S A s.heap H locs → lv_has ls 8 [(0, .ref (a 0)), (1, .int (nI r)), (2, .int (nI nv)), (3, .int x3), (4, .int x4)] → W p l e (headSpec wsX8_level ({ frames := 4, cells := 0, slots := 0, locals := 98 } : Room)).room s m [.ref (a 0), .int (nI r), .int (nI nv)].toArray below meth c H locs 0 0 (MQ below (va_Qv (fun u : (Nat → Int32) × (Nat → Int32) => lvP F T P Wt o n nv r R u.2 ((r + 1) ^ nv)) (fun u t => va_P (dC, dI) vwCl (mW cI a (nI n) F T P V Wt (fun j => nI (o j)) G u.1 u.2) t.heap ∧ va_K (dC, dI) vwCl [(cI, .int)] t ∧ va_D A (mW cI a (nI n) F T P V Wt (fun j => nI (o j)) G u.1 u.2)) A) [.ref (a 0), .int (nI r), .int (nI nv)].toArray s 0 0 A) (F0 m 5 ls []) := by
    intro fu
    induction fu with
    | zero =>
      intro k x3 x4 H locs ls e3 e4 hk1 hfu5 hP hD hS hl
      exact absurd hfu5 (Nat.not_lt_zero _)
    | succ fu ih5 =>
      intro k x3 x4 H locs ls e3 e4 hk1 hfu5 hP hD hS hl
      subst e3
      subst e4
      refine lv_iload hx hb dX8_level_5 (lv_at hl 4 rfl) ?_
      refine lv_iload_n hx hb dX8_level_7 rfl (lv_at hl 2 rfl) ?_
      refine lv_icmp_ge (tgt := 23) hx hb dX8_level_8 (by decide) (fun c_1 => ?_) (fun c_1 => ?_)
      · skip
        have c_1 : k ≥ nv := gk_geT (a := k) (b := nv) (by first | omega | exact Nat.lt_trans (ho _) (by decide) | exact Nat.lt_of_le_of_lt atN_le (by omega) | exact Nat.lt_of_le_of_lt szN_le (by omega) | exact Nat.lt_of_le_of_lt clM_le (by omega) | exact Nat.lt_of_le_of_lt rkN_le (by omega) | exact Nat.lt_of_le_of_lt (cnt_le _ _) (by omega)) (by first | omega | exact Nat.lt_trans (ho _) (by decide) | exact Nat.lt_of_le_of_lt atN_le (by omega) | exact Nat.lt_of_le_of_lt szN_le (by omega) | exact Nat.lt_of_le_of_lt clM_le (by omega) | exact Nat.lt_of_le_of_lt rkN_le (by omega) | exact Nat.lt_of_le_of_lt (cnt_le _ _) (by omega)) c_1
        obtain rfl : nv = k := by omega
        have hl : lv_has ls 8 [(0, .ref (a 0)), (1, .int (nI r)), (2, .int (nI nv)), (3, .int (nI ((r + 1) ^ nv))), (4, .int (nI nv))] := hl
        refine lv_iconst (v := 0) hx hb dX8_level_23 (by decide) ?_
        refine lv_istore (lv' := [(4, .int 0), (0, .ref (a 0)), (1, .int (nI r)), (2, .int (nI nv)), (3, .int (nI ((r + 1) ^ nv)))]) hx hb dX8_level_24 hl (by decide) rfl (fun ls hl => ?_)
        have L26 : ∀ (fu : Nat) (c2 : Nat) (x4 : Int32) (L1 R1 : Nat → Int32) (H : Heap) (locs : List Loc) (ls : Array Slot), x4 = nI c2 → c2 ≤ (r + 1) ^ nv → lvP F T P Wt o n nv r R R1 c2 → (r + 1) ^ nv - c2 < fu → va_P (dC, dI) vwCl [(a 0, .inr (8, [.ref (a 1), .ref (a 2), .ref (a 3), .ref (a 4), .int (nI n), .ref (a 5), .ref (a 6), .ref (a 7), .ref (a 8), .ref (a 9)])), (a 1, .inl (cI, 60, .inl F)), (a 2, .inl (cI, 60, .inl T)), (a 3, .inl (cI, 60, .inl P)), (a 4, .inl (cI, 60, .inl V)), (a 5, .inl (cI, 4, .inl Wt)), (a 6, .inl (cI, 60, .inl (fun j => nI (o j)))), (a 7, .inl (cI, 60, .inl G)), (a 8, .inl (cI, 4, .inl L1)), (a 9, .inl (cI, 759375, .inl R1))] H → va_D A [(a 0, .inr (8, [.ref (a 1), .ref (a 2), .ref (a 3), .ref (a 4), .int (nI n), .ref (a 5), .ref (a 6), .ref (a 7), .ref (a 8), .ref (a 9)])), (a 1, .inl (cI, 60, .inl F)), (a 2, .inl (cI, 60, .inl T)), (a 3, .inl (cI, 60, .inl P)), (a 4, .inl (cI, 60, .inl V)), (a 5, .inl (cI, 4, .inl Wt)), (a 6, .inl (cI, 60, .inl (fun j => nI (o j)))), (a 7, .inl (cI, 60, .inl G)), (a 8, .inl (cI, 4, .inl L1)), (a 9, .inl (cI, 759375, .inl R1))] → va_S A s.heap H locs → lv_has ls 8 [(0, .ref (a 0)), (1, .int (nI r)), (2, .int (nI nv)), (3, .int (nI ((r + 1) ^ nv))), (4, .int x4)] → W p l e (headSpec wsX8_level ({ frames := 4, cells := 0, slots := 0, locals := 98 } : Room)).room s m [.ref (a 0), .int (nI r), .int (nI nv)].toArray below meth c H locs 0 0 (MQ below (va_Qv (fun u : (Nat → Int32) × (Nat → Int32) => lvP F T P Wt o n nv r R u.2 ((r + 1) ^ nv)) (fun u t => va_P (dC, dI) vwCl (mW cI a (nI n) F T P V Wt (fun j => nI (o j)) G u.1 u.2) t.heap ∧ va_K (dC, dI) vwCl [(cI, .int)] t ∧ va_D A (mW cI a (nI n) F T P V Wt (fun j => nI (o j)) G u.1 u.2)) A) [.ref (a 0), .int (nI r), .int (nI nv)].toArray s 0 0 A) (F0 m 26 ls []) := by
          intro fu
          induction fu with
          | zero =>
            intro c2 x4 L1 R1 H locs ls e4 hc1 hp1 hfu26 hP hD hS hl
            exact absurd hfu26 (Nat.not_lt_zero _)
          | succ fu ih26 =>
            intro c2 x4 L1 R1 H locs ls e4 hc1 hp1 hfu26 hP hD hS hl
            subst e4
            refine lv_iload hx hb dX8_level_26 (lv_at hl 4 rfl) ?_
            refine lv_iload_n hx hb dX8_level_28 rfl (lv_at hl 3 rfl) ?_
            refine lv_icmp_ge (tgt := 164) hx hb dX8_level_29 (by decide) (fun c_2 => ?_) (fun c_2 => ?_)
            · skip
              have c_2 : c2 ≥ (r + 1) ^ nv := gk_geT (a := c2) (b := (r + 1) ^ nv) (by first | omega | exact Nat.lt_trans (ho _) (by decide) | exact Nat.lt_of_le_of_lt atN_le (by omega) | exact Nat.lt_of_le_of_lt szN_le (by omega) | exact Nat.lt_of_le_of_lt clM_le (by omega) | exact Nat.lt_of_le_of_lt rkN_le (by omega) | exact Nat.lt_of_le_of_lt (cnt_le _ _) (by omega)) (by first | omega | exact Nat.lt_trans (ho _) (by decide) | exact Nat.lt_of_le_of_lt atN_le (by omega) | exact Nat.lt_of_le_of_lt szN_le (by omega) | exact Nat.lt_of_le_of_lt clM_le (by omega) | exact Nat.lt_of_le_of_lt rkN_le (by omega) | exact Nat.lt_of_le_of_lt (cnt_le _ _) (by omega)) c_2
              exact W.vret hx hb hr (fun t ht hW => ⟨⟨(L1, R1), rfl, (by (obtain rfl : c2 = (r + 1) ^ nv := by omega); exact hp1), by rw [ht]; exact hP, va_K.moved hW.alike hK, hD⟩, hS.F ht⟩) hS.2.2 dX8_level_164
            · skip
              have c_2 : c2 < (r + 1) ^ nv := gk_geF (a := c2) (b := (r + 1) ^ nv) (by first | omega | exact Nat.lt_trans (ho _) (by decide) | exact Nat.lt_of_le_of_lt atN_le (by omega) | exact Nat.lt_of_le_of_lt szN_le (by omega) | exact Nat.lt_of_le_of_lt clM_le (by omega) | exact Nat.lt_of_le_of_lt rkN_le (by omega) | exact Nat.lt_of_le_of_lt (cnt_le _ _) (by omega)) (by first | omega | exact Nat.lt_trans (ho _) (by decide) | exact Nat.lt_of_le_of_lt atN_le (by omega) | exact Nat.lt_of_le_of_lt szN_le (by omega) | exact Nat.lt_of_le_of_lt clM_le (by omega) | exact Nat.lt_of_le_of_lt rkN_le (by omega) | exact Nat.lt_of_le_of_lt (cnt_le _ _) (by omega)) c_2
              refine lv_iload hx hb dX8_level_32 (lv_at hl 4 rfl) ?_
              refine lv_istore (lv' := [(5, .int (nI c2)), (0, .ref (a 0)), (1, .int (nI r)), (2, .int (nI nv)), (3, .int (nI ((r + 1) ^ nv))), (4, .int (nI c2))]) hx hb dX8_level_34 hl (by decide) rfl (fun ls hl => ?_)
              refine lv_iload_n hx hb dX8_level_36 rfl (lv_at hl 2 rfl) ?_
              refine lv_if_ne (tgt := 44) hx hb dX8_level_37 (by decide) (fun c_3 => ?_) (fun c_3 => ?_)
              · skip
                have c_3 : r ≠ 0 := gk_neT (a := r) (b := 0) (by first | omega | exact Nat.lt_trans (ho _) (by decide) | exact Nat.lt_of_le_of_lt atN_le (by omega) | exact Nat.lt_of_le_of_lt szN_le (by omega) | exact Nat.lt_of_le_of_lt clM_le (by omega) | exact Nat.lt_of_le_of_lt rkN_le (by omega) | exact Nat.lt_of_le_of_lt (cnt_le _ _) (by omega)) (by first | omega | exact Nat.lt_trans (ho _) (by decide) | exact Nat.lt_of_le_of_lt atN_le (by omega) | exact Nat.lt_of_le_of_lt szN_le (by omega) | exact Nat.lt_of_le_of_lt clM_le (by omega) | exact Nat.lt_of_le_of_lt rkN_le (by omega) | exact Nat.lt_of_le_of_lt (cnt_le _ _) (by omega)) c_3
                refine lv_iconst (v := 0) hx hb dX8_level_44 (by decide) ?_
                refine lv_istore (lv' := [(6, .int 0), (5, .int (nI c2)), (0, .ref (a 0)), (1, .int (nI r)), (2, .int (nI nv)), (3, .int (nI ((r + 1) ^ nv))), (4, .int (nI c2))]) hx hb dX8_level_45 hl (by decide) rfl (fun ls hl => ?_)
                refine lv_iconst (v := 0) hx hb dX8_level_47 (by decide) ?_
                refine lv_istore (lv' := [(7, .int 0), (6, .int 0), (5, .int (nI c2)), (0, .ref (a 0)), (1, .int (nI r)), (2, .int (nI nv)), (3, .int (nI ((r + 1) ^ nv))), (4, .int (nI c2))]) hx hb dX8_level_48 hl (by decide) rfl (fun ls hl => ?_)
                have L50 : ∀ (fu : Nat) (v : Nat) (x5 x6 x7 : Int32) (L2 : Nat → Int32) (H : Heap) (locs : List Loc) (ls : Array Slot), x5 = nI (c2 / (r + 1) ^ min v nv) → x6 = b2i (oneN r (laD (r + 1) nv c2) v) → x7 = nI v → v ≤ 4 → (∀ j, j < v → L2 j = nI (laD (r + 1) nv c2 j)) → 4 - v < fu → va_P (dC, dI) vwCl [(a 0, .inr (8, [.ref (a 1), .ref (a 2), .ref (a 3), .ref (a 4), .int (nI n), .ref (a 5), .ref (a 6), .ref (a 7), .ref (a 8), .ref (a 9)])), (a 1, .inl (cI, 60, .inl F)), (a 2, .inl (cI, 60, .inl T)), (a 3, .inl (cI, 60, .inl P)), (a 4, .inl (cI, 60, .inl V)), (a 5, .inl (cI, 4, .inl Wt)), (a 6, .inl (cI, 60, .inl (fun j => nI (o j)))), (a 7, .inl (cI, 60, .inl G)), (a 8, .inl (cI, 4, .inl L2)), (a 9, .inl (cI, 759375, .inl R1))] H → va_D A [(a 0, .inr (8, [.ref (a 1), .ref (a 2), .ref (a 3), .ref (a 4), .int (nI n), .ref (a 5), .ref (a 6), .ref (a 7), .ref (a 8), .ref (a 9)])), (a 1, .inl (cI, 60, .inl F)), (a 2, .inl (cI, 60, .inl T)), (a 3, .inl (cI, 60, .inl P)), (a 4, .inl (cI, 60, .inl V)), (a 5, .inl (cI, 4, .inl Wt)), (a 6, .inl (cI, 60, .inl (fun j => nI (o j)))), (a 7, .inl (cI, 60, .inl G)), (a 8, .inl (cI, 4, .inl L2)), (a 9, .inl (cI, 759375, .inl R1))] → va_S A s.heap H locs → lv_has ls 8 [(0, .ref (a 0)), (1, .int (nI r)), (2, .int (nI nv)), (3, .int (nI ((r + 1) ^ nv))), (4, .int (nI c2)), (5, .int x5), (6, .int x6), (7, .int x7)] → W p l e (headSpec wsX8_level ({ frames := 4, cells := 0, slots := 0, locals := 98 } : Room)).room s m [.ref (a 0), .int (nI r), .int (nI nv)].toArray below meth c H locs 0 0 (MQ below (va_Qv (fun u : (Nat → Int32) × (Nat → Int32) => lvP F T P Wt o n nv r R u.2 ((r + 1) ^ nv)) (fun u t => va_P (dC, dI) vwCl (mW cI a (nI n) F T P V Wt (fun j => nI (o j)) G u.1 u.2) t.heap ∧ va_K (dC, dI) vwCl [(cI, .int)] t ∧ va_D A (mW cI a (nI n) F T P V Wt (fun j => nI (o j)) G u.1 u.2)) A) [.ref (a 0), .int (nI r), .int (nI nv)].toArray s 0 0 A) (F0 m 50 ls []) := by
                  intro fu
                  induction fu with
                  | zero =>
                    intro v x5 x6 x7 L2 H locs ls e5 e6 e7 hv1 hL2 hfu50 hP hD hS hl
                    exact absurd hfu50 (Nat.not_lt_zero _)
                  | succ fu ih50 =>
                    intro v x5 x6 x7 L2 H locs ls e5 e6 e7 hv1 hL2 hfu50 hP hD hS hl
                    subst e5
                    subst e6
                    subst e7
                    have hdv := laD_le (b := r + 1) (nv := nv) (c := c2) (by omega) v
                    refine lv_iload hx hb dX8_level_50 (lv_at hl 7 rfl) ?_
                    refine lv_iconst (v := 4) hx hb dX8_level_52 (by decide) ?_
                    refine lv_icmp_ge (tgt := 125) hx hb dX8_level_53 (by decide) (fun c_4 => ?_) (fun c_4 => ?_)
                    · skip
                      have c_4 : v ≥ 4 := gk_geT (a := v) (b := 4) (by first | omega | exact Nat.lt_trans (ho _) (by decide) | exact Nat.lt_of_le_of_lt atN_le (by omega) | exact Nat.lt_of_le_of_lt szN_le (by omega) | exact Nat.lt_of_le_of_lt clM_le (by omega) | exact Nat.lt_of_le_of_lt rkN_le (by omega) | exact Nat.lt_of_le_of_lt (cnt_le _ _) (by omega)) (by first | omega | exact Nat.lt_trans (ho _) (by decide) | exact Nat.lt_of_le_of_lt atN_le (by omega) | exact Nat.lt_of_le_of_lt szN_le (by omega) | exact Nat.lt_of_le_of_lt clM_le (by omega) | exact Nat.lt_of_le_of_lt rkN_le (by omega) | exact Nat.lt_of_le_of_lt (cnt_le _ _) (by omega)) c_4
                      obtain rfl : v = 4 := by omega
                      have hl : lv_has ls 8 [(0, .ref (a 0)), (1, .int (nI r)), (2, .int (nI nv)), (3, .int (nI ((r + 1) ^ nv))), (4, .int (nI c2)), (5, .int (nI (c2 / (r + 1) ^ min 4 nv))), (6, .int (b2i (oneN r (laD (r + 1) nv c2) 4))), (7, .int (nI 4))] := hl
                      have hP := gk_extP (g := (fun j => nI (laD (r + 1) nv c2 j))) hP 8 rfl (fun j hj => hL2 j hj)
                      have hD := gk_extD (e := .inl (cI, 4, .inl (fun j => nI (laD (r + 1) nv c2 j)))) hD 8 rfl
                      have hP : va_P (dC, dI) vwCl [(a 0, .inr (8, [.ref (a 1), .ref (a 2), .ref (a 3), .ref (a 4), .int (nI n), .ref (a 5), .ref (a 6), .ref (a 7), .ref (a 8), .ref (a 9)])), (a 1, .inl (cI, 60, .inl F)), (a 2, .inl (cI, 60, .inl T)), (a 3, .inl (cI, 60, .inl P)), (a 4, .inl (cI, 60, .inl V)), (a 5, .inl (cI, 4, .inl Wt)), (a 6, .inl (cI, 60, .inl (fun j => nI (o j)))), (a 7, .inl (cI, 60, .inl G)), (a 8, .inl (cI, 4, .inl (fun j => nI (laD (r + 1) nv c2 j)))), (a 9, .inl (cI, 759375, .inl R1))] H := hP
                      have hD : va_D A [(a 0, .inr (8, [.ref (a 1), .ref (a 2), .ref (a 3), .ref (a 4), .int (nI n), .ref (a 5), .ref (a 6), .ref (a 7), .ref (a 8), .ref (a 9)])), (a 1, .inl (cI, 60, .inl F)), (a 2, .inl (cI, 60, .inl T)), (a 3, .inl (cI, 60, .inl P)), (a 4, .inl (cI, 60, .inl V)), (a 5, .inl (cI, 4, .inl Wt)), (a 6, .inl (cI, 60, .inl (fun j => nI (o j)))), (a 7, .inl (cI, 60, .inl G)), (a 8, .inl (cI, 4, .inl (fun j => nI (laD (r + 1) nv c2 j)))), (a 9, .inl (cI, 759375, .inl R1))] := hD
                      refine lv_iload hx hb dX8_level_125 (lv_at hl 6 rfl) ?_
                      refine lv_if_eq (tgt := 158) hx hb dX8_level_127 (by decide) (fun c_5 => ?_) (fun c_5 => ?_)
                      · skip
                        have c_5 : (oneN r (laD (r + 1) nv c2) 4) = false := b2i_0.mp c_5
                        refine lv_iinc (v := nI (c2 + 1)) (lv' := [(4, .int (nI (c2 + 1))), (0, .ref (a 0)), (1, .int (nI r)), (2, .int (nI nv)), (3, .int (nI ((r + 1) ^ nv))), (5, .int (nI (c2 / (r + 1) ^ min 4 nv))), (6, .int (b2i (oneN r (laD (r + 1) nv c2) 4))), (7, .int (nI 4))]) hx hb dX8_level_158 hl (k := 4) rfl (gk_inc1 _) (by decide) rfl (fun ls hl => ?_)
                        refine lv_goto (tgt := 26) hx hb dX8_level_161 (by decide) ?_
                        exact ih26 (c2 + 1) _ _ _ _ _ ls (by rfl) (by omega) (by exact lvP_no hp1 (by assumption)) (by omega) hP hD hS (lv_sub hl [1, 2, 3, 4, 0] rfl)
                      · skip
                        have c_5 : (oneN r (laD (r + 1) nv c2) 4) = true := b2i_1.mp c_5
                        refine lv_aload_n hx hb dX8_level_130 rfl (lv_at hl 0 rfl) ?_
                        refine va_get (D := (dC, dI)) (ci := 8) (v := .ref (a 9)) (C := RX8) (T := TX8) (N := 10) hx hb hts i_X8 hown hK hP 0 rfl rfl 9 (by decide) k_0 (fun _ h9 => h9) rfl dX8_level_131 ?_
                        refine lv_aload_n hx hb dX8_level_134 rfl (lv_at hl 0 rfl) ?_
                        refine lv_iload_n hx hb dX8_level_135 rfl (lv_at hl 1 rfl) ?_
                        refine vp_callSi (gk_run (va_runV (As := [.int (nI r)]) (rest := [.ref (a 9)]) ⟨hx, hb, hml, hown, hts⟩ (c_X8_place l dC dI cI a n F T P V Wt o G (laD (r + 1) nv c2) R1 hn ho (fun j => Nat.le_trans (laD14 (by omega) j) (by decide)) (laD14 (by omega)) r) (cwV 1 hts gX8_level_X8_place rfl rfl rfl (by decide +kernel) ⟨Nat.le_of_ble_eq_true rfl, Nat.le_of_ble_eq_true rfl⟩) ⟨gk_fb, va_recv hK hP (ci := 8) (q0 := 0) rfl rfl, fun U hU hW => ⟨rfl, by rw [hU]; exact hP, va_K.moved hW.alike hK⟩⟩ rfl rfl hl.1 rfl (lv_room (Nat.le_of_ble_eq_true rfl)) dX8_level_136 ⟨Nat.zero_le _, Nat.zero_le _⟩)) (fun r_6 er_6 => ?_)
                        subst er_6
                        refine lv_iload_n hx hb dX8_level_139 rfl (lv_at hl 1 rfl) ?_
                        refine lv_aload_n hx hb dX8_level_140 rfl (lv_at hl 0 rfl) ?_
                        refine va_get (D := (dC, dI)) (ci := 8) (v := .int (nI n)) (C := RX8) (T := TX8) (N := 10) hx hb hts i_X8 hown hK hP 0 rfl rfl 4 (by decide) k_1 (fun _ h9 => h9) rfl dX8_level_141 ?_
                        refine lv_icmp_ne (tgt := 151) hx hb dX8_level_144 (by decide) (fun c_7 => ?_) (fun c_7 => ?_)
                        · skip
                          have c_7 : r ≠ n := gk_neT (a := r) (b := n) (by first | omega | exact Nat.lt_trans (ho _) (by decide) | exact Nat.lt_of_le_of_lt atN_le (by omega) | exact Nat.lt_of_le_of_lt szN_le (by omega) | exact Nat.lt_of_le_of_lt clM_le (by omega) | exact Nat.lt_of_le_of_lt rkN_le (by omega) | exact Nat.lt_of_le_of_lt (cnt_le _ _) (by omega)) (by first | omega | exact Nat.lt_trans (ho _) (by decide) | exact Nat.lt_of_le_of_lt atN_le (by omega) | exact Nat.lt_of_le_of_lt szN_le (by omega) | exact Nat.lt_of_le_of_lt clM_le (by omega) | exact Nat.lt_of_le_of_lt rkN_le (by omega) | exact Nat.lt_of_le_of_lt (cnt_le _ _) (by omega)) c_7
                          refine lv_aload_n hx hb dX8_level_151 rfl (lv_at hl 0 rfl) ?_
                          refine lv_iload_n hx hb dX8_level_152 rfl (lv_at hl 1 rfl) ?_
                          refine lv_iload_n hx hb dX8_level_153 rfl (lv_at hl 2 rfl) ?_
                          have hPc := hP.sub (ws' := [(a 0, .inr (8, [.ref (a 1), .ref (a 2), .ref (a 3), .ref (a 4), .int (nI n), .ref (a 5), .ref (a 6), .ref (a 7), .ref (a 8), .ref (a 9)])), (a 1, .inl (cI, 60, .inl F)), (a 2, .inl (cI, 60, .inl T)), (a 3, .inl (cI, 60, .inl P)), (a 4, .inl (cI, 60, .inl V)), (a 5, .inl (cI, 4, .inl Wt)), (a 6, .inl (cI, 60, .inl (fun j => nI (o j)))), (a 7, .inl (cI, 60, .inl G)), (a 8, .inl (cI, 4, .inl (fun j => nI (laD (r + 1) nv c2 j)))), (a 9, .inl (cI, 759375, .inl R1))]) [0, 1, 2, 3, 4, 5, 6, 7, 8, 9] rfl
                          have hDc := hD.sub (ws' := [(a 0, .inr (8, [.ref (a 1), .ref (a 2), .ref (a 3), .ref (a 4), .int (nI n), .ref (a 5), .ref (a 6), .ref (a 7), .ref (a 8), .ref (a 9)])), (a 1, .inl (cI, 60, .inl F)), (a 2, .inl (cI, 60, .inl T)), (a 3, .inl (cI, 60, .inl P)), (a 4, .inl (cI, 60, .inl V)), (a 5, .inl (cI, 4, .inl Wt)), (a 6, .inl (cI, 60, .inl (fun j => nI (o j)))), (a 7, .inl (cI, 60, .inl G)), (a 8, .inl (cI, 4, .inl (fun j => nI (laD (r + 1) nv c2 j)))), (a 9, .inl (cI, 759375, .inl R1))]) [0, 1, 2, 3, 4, 5, 6, 7, 8, 9] (by decide) rfl
                          have hFc := va_free (wc := [(a 0, .inr (8, [.ref (a 1), .ref (a 2), .ref (a 3), .ref (a 4), .int (nI n), .ref (a 5), .ref (a 6), .ref (a 7), .ref (a 8), .ref (a 9)])), (a 1, .inl (cI, 60, .inl F)), (a 2, .inl (cI, 60, .inl T)), (a 3, .inl (cI, 60, .inl P)), (a 4, .inl (cI, 60, .inl V)), (a 5, .inl (cI, 4, .inl Wt)), (a 6, .inl (cI, 60, .inl (fun j => nI (o j)))), (a 7, .inl (cI, 60, .inl G)), (a 8, .inl (cI, 4, .inl (fun j => nI (laD (r + 1) nv c2 j)))), (a 9, .inl (cI, 759375, .inl R1))]) hD hS hA [0, 1, 2, 3, 4, 5, 6, 7, 8, 9] rfl
                          refine va_calli (va_runV (As := [.int (nI r), .int (nI nv)]) (rest := [.int (nI (plc r (laD (r + 1) nv c2))), .ref (a 9)]) ⟨hx, hb, hml, hown, hts⟩ (c_X8_leastOf l dC dI cI H.size a n F T P V Wt o G (laD (r + 1) nv c2) R1 hn ho (fun j => Nat.le_trans (laD14 (by omega) j) (by decide)) (laD14 (by omega)) r nv (by omega) hv0) (cwV 2 hts gX8_level_X8_leastOf rfl rfl rfl (by decide +kernel) ⟨Nat.le_of_ble_eq_true rfl, Nat.le_of_ble_eq_true rfl⟩) ⟨gk_fbW, va_recv hK hPc (ci := 8) (q0 := 0) rfl rfl, fun U hU hW => ⟨rfl, by rw [hU], by rw [hU]; exact hPc, va_K.moved hW.alike hK, hDc.weaken (fun _ _ _ _ => trivial)⟩⟩ rfl rfl hl.1 rfl (lv_room (Nat.le_of_ble_eq_true rfl)) dX8_level_154 ⟨Nat.zero_le _, Nat.zero_le _⟩) hS (fun q _ h => hFc q h) hFc (fun r_8 u t H1 locs ht hvm hw hB hz1 hk1 hS => ?_)
                          obtain ⟨hP1, hK1, hD1⟩ := hB
                          rw [ht] at hP1
                          try dsimp only at hw
                          obtain ⟨hP, hD⟩ := va_join (wr := []) (w1 := [(a 0, .inr (8, [.ref (a 1), .ref (a 2), .ref (a 3), .ref (a 4), .int (nI n), .ref (a 5), .ref (a 6), .ref (a 7), .ref (a 8), .ref (a 9)])), (a 1, .inl (cI, 60, .inl F)), (a 2, .inl (cI, 60, .inl T)), (a 3, .inl (cI, 60, .inl P)), (a 4, .inl (cI, 60, .inl V)), (a 5, .inl (cI, 4, .inl Wt)), (a 6, .inl (cI, 60, .inl (fun j => nI (o j)))), (a 7, .inl (cI, 60, .inl G)), (a 8, .inl (cI, 4, .inl (fun j => nI (laD (r + 1) nv c2 j)))), (a 9, .inl (cI, 759375, .inl R1))]) hP hD [0, 1, 2, 3, 4, 5, 6, 7, 8, 9] [] rfl rfl (by decide) (by decide) hk1 hFc hP1 hD1
                          generalize H1 = H at hP hS ⊢
                          have hP : va_P (dC, dI) vwCl [(a 0, .inr (8, [.ref (a 1), .ref (a 2), .ref (a 3), .ref (a 4), .int (nI n), .ref (a 5), .ref (a 6), .ref (a 7), .ref (a 8), .ref (a 9)])), (a 1, .inl (cI, 60, .inl F)), (a 2, .inl (cI, 60, .inl T)), (a 3, .inl (cI, 60, .inl P)), (a 4, .inl (cI, 60, .inl V)), (a 5, .inl (cI, 4, .inl Wt)), (a 6, .inl (cI, 60, .inl (fun j => nI (o j)))), (a 7, .inl (cI, 60, .inl G)), (a 8, .inl (cI, 4, .inl (fun j => nI (laD (r + 1) nv c2 j)))), (a 9, .inl (cI, 759375, .inl R1))] H := hP
                          have hD : va_D A [(a 0, .inr (8, [.ref (a 1), .ref (a 2), .ref (a 3), .ref (a 4), .int (nI n), .ref (a 5), .ref (a 6), .ref (a 7), .ref (a 8), .ref (a 9)])), (a 1, .inl (cI, 60, .inl F)), (a 2, .inl (cI, 60, .inl T)), (a 3, .inl (cI, 60, .inl P)), (a 4, .inl (cI, 60, .inl V)), (a 5, .inl (cI, 4, .inl Wt)), (a 6, .inl (cI, 60, .inl (fun j => nI (o j)))), (a 7, .inl (cI, 60, .inl G)), (a 8, .inl (cI, 4, .inl (fun j => nI (laD (r + 1) nv c2 j)))), (a 9, .inl (cI, 759375, .inl R1))] := hD
                          subst hw
                          refine gk_st hx hb hK hP hD hS 9 0 rfl rfl (plc r (laD (r + 1) nv c2)) (plc_lt (by omega) (laD14 (by omega))) (by omega) dX8_level_157 (fun H locs hP hD hS => ?_)
                          have hP : va_P (dC, dI) vwCl [(a 0, .inr (8, [.ref (a 1), .ref (a 2), .ref (a 3), .ref (a 4), .int (nI n), .ref (a 5), .ref (a 6), .ref (a 7), .ref (a 8), .ref (a 9)])), (a 1, .inl (cI, 60, .inl F)), (a 2, .inl (cI, 60, .inl T)), (a 3, .inl (cI, 60, .inl P)), (a 4, .inl (cI, 60, .inl V)), (a 5, .inl (cI, 4, .inl Wt)), (a 6, .inl (cI, 60, .inl (fun j => nI (o j)))), (a 7, .inl (cI, 60, .inl G)), (a 8, .inl (cI, 4, .inl (fun j => nI (laD (r + 1) nv c2 j)))), (a 9, .inl (cI, 759375, .inl (upd R1 (plc r (laD (r + 1) nv c2)) ((mn (thr (fun w => R1 (plc (r + 1) w)) (prc F T P Wt o (laD (r + 1) nv c2) r) (laD (r + 1) nv c2) r) nv).2))))] H := hP
                          have hD : va_D A [(a 0, .inr (8, [.ref (a 1), .ref (a 2), .ref (a 3), .ref (a 4), .int (nI n), .ref (a 5), .ref (a 6), .ref (a 7), .ref (a 8), .ref (a 9)])), (a 1, .inl (cI, 60, .inl F)), (a 2, .inl (cI, 60, .inl T)), (a 3, .inl (cI, 60, .inl P)), (a 4, .inl (cI, 60, .inl V)), (a 5, .inl (cI, 4, .inl Wt)), (a 6, .inl (cI, 60, .inl (fun j => nI (o j)))), (a 7, .inl (cI, 60, .inl G)), (a 8, .inl (cI, 4, .inl (fun j => nI (laD (r + 1) nv c2 j)))), (a 9, .inl (cI, 759375, .inl (upd R1 (plc r (laD (r + 1) nv c2)) ((mn (thr (fun w => R1 (plc (r + 1) w)) (prc F T P Wt o (laD (r + 1) nv c2) r) (laD (r + 1) nv c2) r) nv).2))))] := hD
                          refine lv_iinc (v := nI (c2 + 1)) (lv' := [(4, .int (nI (c2 + 1))), (0, .ref (a 0)), (1, .int (nI r)), (2, .int (nI nv)), (3, .int (nI ((r + 1) ^ nv))), (5, .int (nI (c2 / (r + 1) ^ min 4 nv))), (6, .int (b2i (oneN r (laD (r + 1) nv c2) 4))), (7, .int (nI 4))]) hx hb dX8_level_158 hl (k := 4) rfl (gk_inc1 _) (by decide) rfl (fun ls hl => ?_)
                          refine lv_goto (tgt := 26) hx hb dX8_level_161 (by decide) ?_
                          exact ih26 (c2 + 1) _ _ _ _ _ ls (by rfl) (by omega) (by exact lvP_yes (by omega) hv0 hp1 (lvV_1 (by omega) hp1 (by assumption))) (by omega) hP hD hS (lv_sub hl [1, 2, 3, 4, 0] rfl)
                        · skip
                          have c_7 : r = n := gk_neF (a := r) (b := n) (by first | omega | exact Nat.lt_trans (ho _) (by decide) | exact Nat.lt_of_le_of_lt atN_le (by omega) | exact Nat.lt_of_le_of_lt szN_le (by omega) | exact Nat.lt_of_le_of_lt clM_le (by omega) | exact Nat.lt_of_le_of_lt rkN_le (by omega) | exact Nat.lt_of_le_of_lt (cnt_le _ _) (by omega)) (by first | omega | exact Nat.lt_trans (ho _) (by decide) | exact Nat.lt_of_le_of_lt atN_le (by omega) | exact Nat.lt_of_le_of_lt szN_le (by omega) | exact Nat.lt_of_le_of_lt clM_le (by omega) | exact Nat.lt_of_le_of_lt rkN_le (by omega) | exact Nat.lt_of_le_of_lt (cnt_le _ _) (by omega)) c_7
                          refine lv_iconst (v := 0) hx hb dX8_level_147 (by decide) ?_
                          refine lv_goto (tgt := 157) hx hb dX8_level_148 (by decide) ?_
                          refine gk_st hx hb hK hP hD hS 9 0 rfl rfl (plc r (laD (r + 1) nv c2)) (plc_lt (by omega) (laD14 (by omega))) (by omega) dX8_level_157 (fun H locs hP hD hS => ?_)
                          have hP : va_P (dC, dI) vwCl [(a 0, .inr (8, [.ref (a 1), .ref (a 2), .ref (a 3), .ref (a 4), .int (nI n), .ref (a 5), .ref (a 6), .ref (a 7), .ref (a 8), .ref (a 9)])), (a 1, .inl (cI, 60, .inl F)), (a 2, .inl (cI, 60, .inl T)), (a 3, .inl (cI, 60, .inl P)), (a 4, .inl (cI, 60, .inl V)), (a 5, .inl (cI, 4, .inl Wt)), (a 6, .inl (cI, 60, .inl (fun j => nI (o j)))), (a 7, .inl (cI, 60, .inl G)), (a 8, .inl (cI, 4, .inl (fun j => nI (laD (r + 1) nv c2 j)))), (a 9, .inl (cI, 759375, .inl (upd R1 (plc r (laD (r + 1) nv c2)) 0)))] H := hP
                          have hD : va_D A [(a 0, .inr (8, [.ref (a 1), .ref (a 2), .ref (a 3), .ref (a 4), .int (nI n), .ref (a 5), .ref (a 6), .ref (a 7), .ref (a 8), .ref (a 9)])), (a 1, .inl (cI, 60, .inl F)), (a 2, .inl (cI, 60, .inl T)), (a 3, .inl (cI, 60, .inl P)), (a 4, .inl (cI, 60, .inl V)), (a 5, .inl (cI, 4, .inl Wt)), (a 6, .inl (cI, 60, .inl (fun j => nI (o j)))), (a 7, .inl (cI, 60, .inl G)), (a 8, .inl (cI, 4, .inl (fun j => nI (laD (r + 1) nv c2 j)))), (a 9, .inl (cI, 759375, .inl (upd R1 (plc r (laD (r + 1) nv c2)) 0)))] := hD
                          refine lv_iinc (v := nI (c2 + 1)) (lv' := [(4, .int (nI (c2 + 1))), (0, .ref (a 0)), (1, .int (nI r)), (2, .int (nI nv)), (3, .int (nI ((r + 1) ^ nv))), (5, .int (nI (c2 / (r + 1) ^ min 4 nv))), (6, .int (b2i (oneN r (laD (r + 1) nv c2) 4))), (7, .int (nI 4))]) hx hb dX8_level_158 hl (k := 4) rfl (gk_inc1 _) (by decide) rfl (fun ls hl => ?_)
                          refine lv_goto (tgt := 26) hx hb dX8_level_161 (by decide) ?_
                          exact ih26 (c2 + 1) _ _ _ _ _ ls (by rfl) (by omega) (by exact lvP_yes (by omega) hv0 hp1 (lvV_0 (by assumption))) (by omega) hP hD hS (lv_sub hl [1, 2, 3, 4, 0] rfl)
                    · skip
                      have c_4 : v < 4 := gk_geF (a := v) (b := 4) (by first | omega | exact Nat.lt_trans (ho _) (by decide) | exact Nat.lt_of_le_of_lt atN_le (by omega) | exact Nat.lt_of_le_of_lt szN_le (by omega) | exact Nat.lt_of_le_of_lt clM_le (by omega) | exact Nat.lt_of_le_of_lt rkN_le (by omega) | exact Nat.lt_of_le_of_lt (cnt_le _ _) (by omega)) (by first | omega | exact Nat.lt_trans (ho _) (by decide) | exact Nat.lt_of_le_of_lt atN_le (by omega) | exact Nat.lt_of_le_of_lt szN_le (by omega) | exact Nat.lt_of_le_of_lt clM_le (by omega) | exact Nat.lt_of_le_of_lt rkN_le (by omega) | exact Nat.lt_of_le_of_lt (cnt_le _ _) (by omega)) c_4
                      refine lv_aload_n hx hb dX8_level_56 rfl (lv_at hl 0 rfl) ?_
                      refine va_get (D := (dC, dI)) (ci := 8) (v := .ref (a 8)) (C := RX8) (T := TX8) (N := 10) hx hb hts i_X8 hown hK hP 0 rfl rfl 8 (by decide) k_2 (fun _ h9 => h9) rfl dX8_level_57 ?_
                      refine lv_iload hx hb dX8_level_60 (lv_at hl 7 rfl) ?_
                      refine lv_iload hx hb dX8_level_62 (lv_at hl 7 rfl) ?_
                      refine lv_iload_n hx hb dX8_level_64 rfl (lv_at hl 2 rfl) ?_
                      refine lv_icmp_ge (tgt := 77) hx hb dX8_level_65 (by decide) (fun c_9 => ?_) (fun c_9 => ?_)
                      · skip
                        have c_9 : v ≥ nv := gk_geT (a := v) (b := nv) (by first | omega | exact Nat.lt_trans (ho _) (by decide) | exact Nat.lt_of_le_of_lt atN_le (by omega) | exact Nat.lt_of_le_of_lt szN_le (by omega) | exact Nat.lt_of_le_of_lt clM_le (by omega) | exact Nat.lt_of_le_of_lt rkN_le (by omega) | exact Nat.lt_of_le_of_lt (cnt_le _ _) (by omega)) (by first | omega | exact Nat.lt_trans (ho _) (by decide) | exact Nat.lt_of_le_of_lt atN_le (by omega) | exact Nat.lt_of_le_of_lt szN_le (by omega) | exact Nat.lt_of_le_of_lt clM_le (by omega) | exact Nat.lt_of_le_of_lt rkN_le (by omega) | exact Nat.lt_of_le_of_lt (cnt_le _ _) (by omega)) c_9
                        refine lv_iconst (v := 0) hx hb dX8_level_77 (by decide) ?_
                        refine gk_top (y := nI (laD (r + 1) nv c2 v)) (by rw [laD_z (by omega)]; rfl) ?_
                        refine gk_st hx hb hK hP hD hS 8 0 rfl rfl v (by omega) (by omega) dX8_level_78 (fun H locs hP hD hS => ?_)
                        have hP : va_P (dC, dI) vwCl [(a 0, .inr (8, [.ref (a 1), .ref (a 2), .ref (a 3), .ref (a 4), .int (nI n), .ref (a 5), .ref (a 6), .ref (a 7), .ref (a 8), .ref (a 9)])), (a 1, .inl (cI, 60, .inl F)), (a 2, .inl (cI, 60, .inl T)), (a 3, .inl (cI, 60, .inl P)), (a 4, .inl (cI, 60, .inl V)), (a 5, .inl (cI, 4, .inl Wt)), (a 6, .inl (cI, 60, .inl (fun j => nI (o j)))), (a 7, .inl (cI, 60, .inl G)), (a 8, .inl (cI, 4, .inl (upd L2 v (nI (laD (r + 1) nv c2 v))))), (a 9, .inl (cI, 759375, .inl R1))] H := hP
                        have hD : va_D A [(a 0, .inr (8, [.ref (a 1), .ref (a 2), .ref (a 3), .ref (a 4), .int (nI n), .ref (a 5), .ref (a 6), .ref (a 7), .ref (a 8), .ref (a 9)])), (a 1, .inl (cI, 60, .inl F)), (a 2, .inl (cI, 60, .inl T)), (a 3, .inl (cI, 60, .inl P)), (a 4, .inl (cI, 60, .inl V)), (a 5, .inl (cI, 4, .inl Wt)), (a 6, .inl (cI, 60, .inl (fun j => nI (o j)))), (a 7, .inl (cI, 60, .inl G)), (a 8, .inl (cI, 4, .inl (upd L2 v (nI (laD (r + 1) nv c2 v))))), (a 9, .inl (cI, 759375, .inl R1))] := hD
                        refine lv_iload hx hb dX8_level_79 (lv_at hl 7 rfl) ?_
                        refine lv_iload_n hx hb dX8_level_81 rfl (lv_at hl 2 rfl) ?_
                        refine lv_icmp_ge (tgt := 94) hx hb dX8_level_82 (by decide) (fun c_10 => ?_) (fun c_10 => ?_)
                        · skip
                          have c_10 : v ≥ nv := gk_geT (a := v) (b := nv) (by first | omega | exact Nat.lt_trans (ho _) (by decide) | exact Nat.lt_of_le_of_lt atN_le (by omega) | exact Nat.lt_of_le_of_lt szN_le (by omega) | exact Nat.lt_of_le_of_lt clM_le (by omega) | exact Nat.lt_of_le_of_lt rkN_le (by omega) | exact Nat.lt_of_le_of_lt (cnt_le _ _) (by omega)) (by first | omega | exact Nat.lt_trans (ho _) (by decide) | exact Nat.lt_of_le_of_lt atN_le (by omega) | exact Nat.lt_of_le_of_lt szN_le (by omega) | exact Nat.lt_of_le_of_lt clM_le (by omega) | exact Nat.lt_of_le_of_lt rkN_le (by omega) | exact Nat.lt_of_le_of_lt (cnt_le _ _) (by omega)) c_10
                          refine lv_iload hx hb dX8_level_94 (lv_at hl 5 rfl) ?_
                          refine gk_top (y := nI (c2 / (r + 1) ^ min (v + 1) nv)) (by rw [show min (v + 1) nv = min v nv by omega]) ?_
                          refine lv_istore (lv' := [(5, .int (nI (c2 / (r + 1) ^ min (v + 1) nv))), (0, .ref (a 0)), (1, .int (nI r)), (2, .int (nI nv)), (3, .int (nI ((r + 1) ^ nv))), (4, .int (nI c2)), (6, .int (b2i (oneN r (laD (r + 1) nv c2) v))), (7, .int (nI v))]) hx hb dX8_level_96 hl (by decide) rfl (fun ls hl => ?_)
                          refine lv_iload hx hb dX8_level_98 (lv_at hl 6 rfl) ?_
                          refine lv_aload_n hx hb dX8_level_100 rfl (lv_at hl 1 rfl) ?_
                          refine va_get (D := (dC, dI)) (ci := 8) (v := .ref (a 8)) (C := RX8) (T := TX8) (N := 10) hx hb hts i_X8 hown hK hP 0 rfl rfl 8 (by decide) k_2 (fun _ h9 => h9) rfl dX8_level_101 ?_
                          refine lv_iload hx hb dX8_level_104 (lv_at hl 7 rfl) ?_
                          refine gk_ld hx hb hK hP 8 0 rfl rfl v (by omega) (by omega) (v := (upd L2 v (nI (laD (r + 1) nv c2 v))) v) (rfl) dX8_level_106 ?_
                          refine gk_top (y := nI (laD (r + 1) nv c2 v)) (pk_us) ?_
                          refine lv_iload_n hx hb dX8_level_107 rfl (lv_at hl 2 rfl) ?_
                          refine lv_icmp_ne (tgt := 115) hx hb dX8_level_108 (by decide) (fun c_11 => ?_) (fun c_11 => ?_)
                          · skip
                            have c_11 : laD (r + 1) nv c2 v ≠ r := gk_neT (a := laD (r + 1) nv c2 v) (b := r) (by first | omega | exact Nat.lt_trans (ho _) (by decide) | exact Nat.lt_of_le_of_lt atN_le (by omega) | exact Nat.lt_of_le_of_lt szN_le (by omega) | exact Nat.lt_of_le_of_lt clM_le (by omega) | exact Nat.lt_of_le_of_lt rkN_le (by omega) | exact Nat.lt_of_le_of_lt (cnt_le _ _) (by omega)) (by first | omega | exact Nat.lt_trans (ho _) (by decide) | exact Nat.lt_of_le_of_lt atN_le (by omega) | exact Nat.lt_of_le_of_lt szN_le (by omega) | exact Nat.lt_of_le_of_lt clM_le (by omega) | exact Nat.lt_of_le_of_lt rkN_le (by omega) | exact Nat.lt_of_le_of_lt (cnt_le _ _) (by omega)) c_11
                            refine lv_iconst (v := 0) hx hb dX8_level_115 (by decide) ?_
                            refine lv_ior hx hb dX8_level_116 ?_
                            refine lv_istore (lv' := [(6, .int ((b2i (oneN r (laD (r + 1) nv c2) v)) ||| 0)), (5, .int (nI (c2 / (r + 1) ^ min (v + 1) nv))), (0, .ref (a 0)), (1, .int (nI r)), (2, .int (nI nv)), (3, .int (nI ((r + 1) ^ nv))), (4, .int (nI c2)), (7, .int (nI v))]) hx hb dX8_level_117 hl (by decide) rfl (fun ls hl => ?_)
                            refine lv_iinc (v := nI (v + 1)) (lv' := [(7, .int (nI (v + 1))), (6, .int ((b2i (oneN r (laD (r + 1) nv c2) v)) ||| 0)), (5, .int (nI (c2 / (r + 1) ^ min (v + 1) nv))), (0, .ref (a 0)), (1, .int (nI r)), (2, .int (nI nv)), (3, .int (nI ((r + 1) ^ nv))), (4, .int (nI c2))]) hx hb dX8_level_119 hl (k := 7) rfl (gk_inc1 _) (by decide) rfl (fun ls hl => ?_)
                            refine lv_goto (tgt := 50) hx hb dX8_level_122 (by decide) ?_
                            exact ih50 (v + 1) _ _ _ _ _ _ ls (by rfl) (by exact one_n (by assumption)) (by rfl) (by omega) (by exact row_step (f := fun j => nI (laD (r + 1) nv c2 j)) hL2) (by omega) hP hD hS (lv_sub hl [3, 4, 5, 6, 7, 2, 1, 0] rfl)
                          · skip
                            have c_11 : laD (r + 1) nv c2 v = r := gk_neF (a := laD (r + 1) nv c2 v) (b := r) (by first | omega | exact Nat.lt_trans (ho _) (by decide) | exact Nat.lt_of_le_of_lt atN_le (by omega) | exact Nat.lt_of_le_of_lt szN_le (by omega) | exact Nat.lt_of_le_of_lt clM_le (by omega) | exact Nat.lt_of_le_of_lt rkN_le (by omega) | exact Nat.lt_of_le_of_lt (cnt_le _ _) (by omega)) (by first | omega | exact Nat.lt_trans (ho _) (by decide) | exact Nat.lt_of_le_of_lt atN_le (by omega) | exact Nat.lt_of_le_of_lt szN_le (by omega) | exact Nat.lt_of_le_of_lt clM_le (by omega) | exact Nat.lt_of_le_of_lt rkN_le (by omega) | exact Nat.lt_of_le_of_lt (cnt_le _ _) (by omega)) c_11
                            refine lv_iconst (v := 1) hx hb dX8_level_111 (by decide) ?_
                            refine lv_goto (tgt := 116) hx hb dX8_level_112 (by decide) ?_
                            refine lv_ior hx hb dX8_level_116 ?_
                            refine lv_istore (lv' := [(6, .int ((b2i (oneN r (laD (r + 1) nv c2) v)) ||| 1)), (5, .int (nI (c2 / (r + 1) ^ min (v + 1) nv))), (0, .ref (a 0)), (1, .int (nI r)), (2, .int (nI nv)), (3, .int (nI ((r + 1) ^ nv))), (4, .int (nI c2)), (7, .int (nI v))]) hx hb dX8_level_117 hl (by decide) rfl (fun ls hl => ?_)
                            refine lv_iinc (v := nI (v + 1)) (lv' := [(7, .int (nI (v + 1))), (6, .int ((b2i (oneN r (laD (r + 1) nv c2) v)) ||| 1)), (5, .int (nI (c2 / (r + 1) ^ min (v + 1) nv))), (0, .ref (a 0)), (1, .int (nI r)), (2, .int (nI nv)), (3, .int (nI ((r + 1) ^ nv))), (4, .int (nI c2))]) hx hb dX8_level_119 hl (k := 7) rfl (gk_inc1 _) (by decide) rfl (fun ls hl => ?_)
                            refine lv_goto (tgt := 50) hx hb dX8_level_122 (by decide) ?_
                            exact ih50 (v + 1) _ _ _ _ _ _ ls (by rfl) (by exact one_y (by assumption)) (by rfl) (by omega) (by exact row_step (f := fun j => nI (laD (r + 1) nv c2 j)) hL2) (by omega) hP hD hS (lv_sub hl [3, 4, 5, 6, 7, 2, 1, 0] rfl)
                        · skip
                          exact absurd (gk_geF (a := v) (b := nv) (by omega) (by omega) c_10) (by omega)
                      · skip
                        have c_9 : v < nv := gk_geF (a := v) (b := nv) (by first | omega | exact Nat.lt_trans (ho _) (by decide) | exact Nat.lt_of_le_of_lt atN_le (by omega) | exact Nat.lt_of_le_of_lt szN_le (by omega) | exact Nat.lt_of_le_of_lt clM_le (by omega) | exact Nat.lt_of_le_of_lt rkN_le (by omega) | exact Nat.lt_of_le_of_lt (cnt_le _ _) (by omega)) (by first | omega | exact Nat.lt_trans (ho _) (by decide) | exact Nat.lt_of_le_of_lt atN_le (by omega) | exact Nat.lt_of_le_of_lt szN_le (by omega) | exact Nat.lt_of_le_of_lt clM_le (by omega) | exact Nat.lt_of_le_of_lt rkN_le (by omega) | exact Nat.lt_of_le_of_lt (cnt_le _ _) (by omega)) c_9
                        refine lv_iload hx hb dX8_level_68 (lv_at hl 5 rfl) ?_
                        refine lv_iload_n hx hb dX8_level_70 rfl (lv_at hl 1 rfl) ?_
                        refine lv_iconst (v := 1) hx hb dX8_level_71 (by decide) ?_
                        refine lv_iadd hx hb dX8_level_72 ?_
                        refine gk_top (y := nI (r + 1)) (gk_addl _ _ _ (by decide)) ?_
                        refine lv_irem hx hb dX8_level_73 (nI_ne0 (by omega) (by omega)) ?_
                        refine gk_top (y := nI (laD (r + 1) nv c2 v)) (rem_dg (by omega) (by omega) (by omega) (by omega)) ?_
                        refine lv_goto (tgt := 78) hx hb dX8_level_74 (by decide) ?_
                        refine gk_st hx hb hK hP hD hS 8 0 rfl rfl v (by omega) (by omega) dX8_level_78 (fun H locs hP hD hS => ?_)
                        have hP : va_P (dC, dI) vwCl [(a 0, .inr (8, [.ref (a 1), .ref (a 2), .ref (a 3), .ref (a 4), .int (nI n), .ref (a 5), .ref (a 6), .ref (a 7), .ref (a 8), .ref (a 9)])), (a 1, .inl (cI, 60, .inl F)), (a 2, .inl (cI, 60, .inl T)), (a 3, .inl (cI, 60, .inl P)), (a 4, .inl (cI, 60, .inl V)), (a 5, .inl (cI, 4, .inl Wt)), (a 6, .inl (cI, 60, .inl (fun j => nI (o j)))), (a 7, .inl (cI, 60, .inl G)), (a 8, .inl (cI, 4, .inl (upd L2 v (nI (laD (r + 1) nv c2 v))))), (a 9, .inl (cI, 759375, .inl R1))] H := hP
                        have hD : va_D A [(a 0, .inr (8, [.ref (a 1), .ref (a 2), .ref (a 3), .ref (a 4), .int (nI n), .ref (a 5), .ref (a 6), .ref (a 7), .ref (a 8), .ref (a 9)])), (a 1, .inl (cI, 60, .inl F)), (a 2, .inl (cI, 60, .inl T)), (a 3, .inl (cI, 60, .inl P)), (a 4, .inl (cI, 60, .inl V)), (a 5, .inl (cI, 4, .inl Wt)), (a 6, .inl (cI, 60, .inl (fun j => nI (o j)))), (a 7, .inl (cI, 60, .inl G)), (a 8, .inl (cI, 4, .inl (upd L2 v (nI (laD (r + 1) nv c2 v))))), (a 9, .inl (cI, 759375, .inl R1))] := hD
                        refine lv_iload hx hb dX8_level_79 (lv_at hl 7 rfl) ?_
                        refine lv_iload_n hx hb dX8_level_81 rfl (lv_at hl 2 rfl) ?_
                        refine lv_icmp_ge (tgt := 94) hx hb dX8_level_82 (by decide) (fun c_12 => ?_) (fun c_12 => ?_)
                        · skip
                          exact absurd (gk_geT (a := v) (b := nv) (by omega) (by omega) c_12) (by omega)
                        · skip
                          have c_12 : v < nv := gk_geF (a := v) (b := nv) (by first | omega | exact Nat.lt_trans (ho _) (by decide) | exact Nat.lt_of_le_of_lt atN_le (by omega) | exact Nat.lt_of_le_of_lt szN_le (by omega) | exact Nat.lt_of_le_of_lt clM_le (by omega) | exact Nat.lt_of_le_of_lt rkN_le (by omega) | exact Nat.lt_of_le_of_lt (cnt_le _ _) (by omega)) (by first | omega | exact Nat.lt_trans (ho _) (by decide) | exact Nat.lt_of_le_of_lt atN_le (by omega) | exact Nat.lt_of_le_of_lt szN_le (by omega) | exact Nat.lt_of_le_of_lt clM_le (by omega) | exact Nat.lt_of_le_of_lt rkN_le (by omega) | exact Nat.lt_of_le_of_lt (cnt_le _ _) (by omega)) c_12
                          refine lv_iload hx hb dX8_level_85 (lv_at hl 5 rfl) ?_
                          refine lv_iload_n hx hb dX8_level_87 rfl (lv_at hl 1 rfl) ?_
                          refine lv_iconst (v := 1) hx hb dX8_level_88 (by decide) ?_
                          refine lv_iadd hx hb dX8_level_89 ?_
                          refine gk_top (y := nI (r + 1)) (gk_addl _ _ _ (by decide)) ?_
                          refine lv_idiv hx hb dX8_level_90 (nI_ne0 (by omega) (by omega)) ?_
                          refine gk_top (y := nI (c2 / (r + 1) ^ min (v + 1) nv)) (div_dg (by omega) (by omega) (by omega) (by omega)) ?_
                          refine lv_goto (tgt := 96) hx hb dX8_level_91 (by decide) ?_
                          refine lv_istore (lv' := [(5, .int (nI (c2 / (r + 1) ^ min (v + 1) nv))), (0, .ref (a 0)), (1, .int (nI r)), (2, .int (nI nv)), (3, .int (nI ((r + 1) ^ nv))), (4, .int (nI c2)), (6, .int (b2i (oneN r (laD (r + 1) nv c2) v))), (7, .int (nI v))]) hx hb dX8_level_96 hl (by decide) rfl (fun ls hl => ?_)
                          refine lv_iload hx hb dX8_level_98 (lv_at hl 6 rfl) ?_
                          refine lv_aload_n hx hb dX8_level_100 rfl (lv_at hl 1 rfl) ?_
                          refine va_get (D := (dC, dI)) (ci := 8) (v := .ref (a 8)) (C := RX8) (T := TX8) (N := 10) hx hb hts i_X8 hown hK hP 0 rfl rfl 8 (by decide) k_2 (fun _ h9 => h9) rfl dX8_level_101 ?_
                          refine lv_iload hx hb dX8_level_104 (lv_at hl 7 rfl) ?_
                          refine gk_ld hx hb hK hP 8 0 rfl rfl v (by omega) (by omega) (v := (upd L2 v (nI (laD (r + 1) nv c2 v))) v) (rfl) dX8_level_106 ?_
                          refine gk_top (y := nI (laD (r + 1) nv c2 v)) (pk_us) ?_
                          refine lv_iload_n hx hb dX8_level_107 rfl (lv_at hl 2 rfl) ?_
                          refine lv_icmp_ne (tgt := 115) hx hb dX8_level_108 (by decide) (fun c_13 => ?_) (fun c_13 => ?_)
                          · skip
                            have c_13 : laD (r + 1) nv c2 v ≠ r := gk_neT (a := laD (r + 1) nv c2 v) (b := r) (by first | omega | exact Nat.lt_trans (ho _) (by decide) | exact Nat.lt_of_le_of_lt atN_le (by omega) | exact Nat.lt_of_le_of_lt szN_le (by omega) | exact Nat.lt_of_le_of_lt clM_le (by omega) | exact Nat.lt_of_le_of_lt rkN_le (by omega) | exact Nat.lt_of_le_of_lt (cnt_le _ _) (by omega)) (by first | omega | exact Nat.lt_trans (ho _) (by decide) | exact Nat.lt_of_le_of_lt atN_le (by omega) | exact Nat.lt_of_le_of_lt szN_le (by omega) | exact Nat.lt_of_le_of_lt clM_le (by omega) | exact Nat.lt_of_le_of_lt rkN_le (by omega) | exact Nat.lt_of_le_of_lt (cnt_le _ _) (by omega)) c_13
                            refine lv_iconst (v := 0) hx hb dX8_level_115 (by decide) ?_
                            refine lv_ior hx hb dX8_level_116 ?_
                            refine lv_istore (lv' := [(6, .int ((b2i (oneN r (laD (r + 1) nv c2) v)) ||| 0)), (5, .int (nI (c2 / (r + 1) ^ min (v + 1) nv))), (0, .ref (a 0)), (1, .int (nI r)), (2, .int (nI nv)), (3, .int (nI ((r + 1) ^ nv))), (4, .int (nI c2)), (7, .int (nI v))]) hx hb dX8_level_117 hl (by decide) rfl (fun ls hl => ?_)
                            refine lv_iinc (v := nI (v + 1)) (lv' := [(7, .int (nI (v + 1))), (6, .int ((b2i (oneN r (laD (r + 1) nv c2) v)) ||| 0)), (5, .int (nI (c2 / (r + 1) ^ min (v + 1) nv))), (0, .ref (a 0)), (1, .int (nI r)), (2, .int (nI nv)), (3, .int (nI ((r + 1) ^ nv))), (4, .int (nI c2))]) hx hb dX8_level_119 hl (k := 7) rfl (gk_inc1 _) (by decide) rfl (fun ls hl => ?_)
                            refine lv_goto (tgt := 50) hx hb dX8_level_122 (by decide) ?_
                            exact ih50 (v + 1) _ _ _ _ _ _ ls (by rfl) (by exact one_n (by assumption)) (by rfl) (by omega) (by exact row_step (f := fun j => nI (laD (r + 1) nv c2 j)) hL2) (by omega) hP hD hS (lv_sub hl [3, 4, 5, 6, 7, 2, 1, 0] rfl)
                          · skip
                            have c_13 : laD (r + 1) nv c2 v = r := gk_neF (a := laD (r + 1) nv c2 v) (b := r) (by first | omega | exact Nat.lt_trans (ho _) (by decide) | exact Nat.lt_of_le_of_lt atN_le (by omega) | exact Nat.lt_of_le_of_lt szN_le (by omega) | exact Nat.lt_of_le_of_lt clM_le (by omega) | exact Nat.lt_of_le_of_lt rkN_le (by omega) | exact Nat.lt_of_le_of_lt (cnt_le _ _) (by omega)) (by first | omega | exact Nat.lt_trans (ho _) (by decide) | exact Nat.lt_of_le_of_lt atN_le (by omega) | exact Nat.lt_of_le_of_lt szN_le (by omega) | exact Nat.lt_of_le_of_lt clM_le (by omega) | exact Nat.lt_of_le_of_lt rkN_le (by omega) | exact Nat.lt_of_le_of_lt (cnt_le _ _) (by omega)) c_13
                            refine lv_iconst (v := 1) hx hb dX8_level_111 (by decide) ?_
                            refine lv_goto (tgt := 116) hx hb dX8_level_112 (by decide) ?_
                            refine lv_ior hx hb dX8_level_116 ?_
                            refine lv_istore (lv' := [(6, .int ((b2i (oneN r (laD (r + 1) nv c2) v)) ||| 1)), (5, .int (nI (c2 / (r + 1) ^ min (v + 1) nv))), (0, .ref (a 0)), (1, .int (nI r)), (2, .int (nI nv)), (3, .int (nI ((r + 1) ^ nv))), (4, .int (nI c2)), (7, .int (nI v))]) hx hb dX8_level_117 hl (by decide) rfl (fun ls hl => ?_)
                            refine lv_iinc (v := nI (v + 1)) (lv' := [(7, .int (nI (v + 1))), (6, .int ((b2i (oneN r (laD (r + 1) nv c2) v)) ||| 1)), (5, .int (nI (c2 / (r + 1) ^ min (v + 1) nv))), (0, .ref (a 0)), (1, .int (nI r)), (2, .int (nI nv)), (3, .int (nI ((r + 1) ^ nv))), (4, .int (nI c2))]) hx hb dX8_level_119 hl (k := 7) rfl (gk_inc1 _) (by decide) rfl (fun ls hl => ?_)
                            refine lv_goto (tgt := 50) hx hb dX8_level_122 (by decide) ?_
                            exact ih50 (v + 1) _ _ _ _ _ _ ls (by rfl) (by exact one_y (by assumption)) (by rfl) (by omega) (by exact row_step (f := fun j => nI (laD (r + 1) nv c2 j)) hL2) (by omega) hP hD hS (lv_sub hl [3, 4, 5, 6, 7, 2, 1, 0] rfl)
                exact L50 ((4) + 1) 0 _ _ _ _ _ _ ls (by exact congrArg nI (by rw [show min 0 nv = 0 by omega, Nat.pow_zero, Nat.div_one])) (by exact b2i_f (by simp only [oneN, decide_eq_false_iff_not]; assumption)) (by rfl) (by omega) (by exact fun j hj => absurd hj (Nat.not_lt_zero j)) (by omega) hP hD hS (lv_sub hl [3, 4, 5, 6, 7, 2, 1, 0] rfl)
              · skip
                have c_3 : r = 0 := gk_neF (a := r) (b := 0) (by first | omega | exact Nat.lt_trans (ho _) (by decide) | exact Nat.lt_of_le_of_lt atN_le (by omega) | exact Nat.lt_of_le_of_lt szN_le (by omega) | exact Nat.lt_of_le_of_lt clM_le (by omega) | exact Nat.lt_of_le_of_lt rkN_le (by omega) | exact Nat.lt_of_le_of_lt (cnt_le _ _) (by omega)) (by first | omega | exact Nat.lt_trans (ho _) (by decide) | exact Nat.lt_of_le_of_lt atN_le (by omega) | exact Nat.lt_of_le_of_lt szN_le (by omega) | exact Nat.lt_of_le_of_lt clM_le (by omega) | exact Nat.lt_of_le_of_lt rkN_le (by omega) | exact Nat.lt_of_le_of_lt (cnt_le _ _) (by omega)) c_3
                refine lv_iconst (v := 1) hx hb dX8_level_40 (by decide) ?_
                refine lv_goto (tgt := 45) hx hb dX8_level_41 (by decide) ?_
                refine lv_istore (lv' := [(6, .int 1), (5, .int (nI c2)), (0, .ref (a 0)), (1, .int (nI r)), (2, .int (nI nv)), (3, .int (nI ((r + 1) ^ nv))), (4, .int (nI c2))]) hx hb dX8_level_45 hl (by decide) rfl (fun ls hl => ?_)
                refine lv_iconst (v := 0) hx hb dX8_level_47 (by decide) ?_
                refine lv_istore (lv' := [(7, .int 0), (6, .int 1), (5, .int (nI c2)), (0, .ref (a 0)), (1, .int (nI r)), (2, .int (nI nv)), (3, .int (nI ((r + 1) ^ nv))), (4, .int (nI c2))]) hx hb dX8_level_48 hl (by decide) rfl (fun ls hl => ?_)
                have L50 : ∀ (fu : Nat) (v : Nat) (x5 x6 x7 : Int32) (L2 : Nat → Int32) (H : Heap) (locs : List Loc) (ls : Array Slot), x5 = nI (c2 / (r + 1) ^ min v nv) → x6 = b2i (oneN r (laD (r + 1) nv c2) v) → x7 = nI v → v ≤ 4 → (∀ j, j < v → L2 j = nI (laD (r + 1) nv c2 j)) → 4 - v < fu → va_P (dC, dI) vwCl [(a 0, .inr (8, [.ref (a 1), .ref (a 2), .ref (a 3), .ref (a 4), .int (nI n), .ref (a 5), .ref (a 6), .ref (a 7), .ref (a 8), .ref (a 9)])), (a 1, .inl (cI, 60, .inl F)), (a 2, .inl (cI, 60, .inl T)), (a 3, .inl (cI, 60, .inl P)), (a 4, .inl (cI, 60, .inl V)), (a 5, .inl (cI, 4, .inl Wt)), (a 6, .inl (cI, 60, .inl (fun j => nI (o j)))), (a 7, .inl (cI, 60, .inl G)), (a 8, .inl (cI, 4, .inl L2)), (a 9, .inl (cI, 759375, .inl R1))] H → va_D A [(a 0, .inr (8, [.ref (a 1), .ref (a 2), .ref (a 3), .ref (a 4), .int (nI n), .ref (a 5), .ref (a 6), .ref (a 7), .ref (a 8), .ref (a 9)])), (a 1, .inl (cI, 60, .inl F)), (a 2, .inl (cI, 60, .inl T)), (a 3, .inl (cI, 60, .inl P)), (a 4, .inl (cI, 60, .inl V)), (a 5, .inl (cI, 4, .inl Wt)), (a 6, .inl (cI, 60, .inl (fun j => nI (o j)))), (a 7, .inl (cI, 60, .inl G)), (a 8, .inl (cI, 4, .inl L2)), (a 9, .inl (cI, 759375, .inl R1))] → va_S A s.heap H locs → lv_has ls 8 [(0, .ref (a 0)), (1, .int (nI r)), (2, .int (nI nv)), (3, .int (nI ((r + 1) ^ nv))), (4, .int (nI c2)), (5, .int x5), (6, .int x6), (7, .int x7)] → W p l e (headSpec wsX8_level ({ frames := 4, cells := 0, slots := 0, locals := 98 } : Room)).room s m [.ref (a 0), .int (nI r), .int (nI nv)].toArray below meth c H locs 0 0 (MQ below (va_Qv (fun u : (Nat → Int32) × (Nat → Int32) => lvP F T P Wt o n nv r R u.2 ((r + 1) ^ nv)) (fun u t => va_P (dC, dI) vwCl (mW cI a (nI n) F T P V Wt (fun j => nI (o j)) G u.1 u.2) t.heap ∧ va_K (dC, dI) vwCl [(cI, .int)] t ∧ va_D A (mW cI a (nI n) F T P V Wt (fun j => nI (o j)) G u.1 u.2)) A) [.ref (a 0), .int (nI r), .int (nI nv)].toArray s 0 0 A) (F0 m 50 ls []) := by
                  intro fu
                  induction fu with
                  | zero =>
                    intro v x5 x6 x7 L2 H locs ls e5 e6 e7 hv1 hL2 hfu50 hP hD hS hl
                    exact absurd hfu50 (Nat.not_lt_zero _)
                  | succ fu ih50 =>
                    intro v x5 x6 x7 L2 H locs ls e5 e6 e7 hv1 hL2 hfu50 hP hD hS hl
                    subst e5
                    subst e6
                    subst e7
                    have hdv := laD_le (b := r + 1) (nv := nv) (c := c2) (by omega) v
                    refine lv_iload hx hb dX8_level_50 (lv_at hl 7 rfl) ?_
                    refine lv_iconst (v := 4) hx hb dX8_level_52 (by decide) ?_
                    refine lv_icmp_ge (tgt := 125) hx hb dX8_level_53 (by decide) (fun c_14 => ?_) (fun c_14 => ?_)
                    · skip
                      have c_14 : v ≥ 4 := gk_geT (a := v) (b := 4) (by first | omega | exact Nat.lt_trans (ho _) (by decide) | exact Nat.lt_of_le_of_lt atN_le (by omega) | exact Nat.lt_of_le_of_lt szN_le (by omega) | exact Nat.lt_of_le_of_lt clM_le (by omega) | exact Nat.lt_of_le_of_lt rkN_le (by omega) | exact Nat.lt_of_le_of_lt (cnt_le _ _) (by omega)) (by first | omega | exact Nat.lt_trans (ho _) (by decide) | exact Nat.lt_of_le_of_lt atN_le (by omega) | exact Nat.lt_of_le_of_lt szN_le (by omega) | exact Nat.lt_of_le_of_lt clM_le (by omega) | exact Nat.lt_of_le_of_lt rkN_le (by omega) | exact Nat.lt_of_le_of_lt (cnt_le _ _) (by omega)) c_14
                      obtain rfl : v = 4 := by omega
                      have hl : lv_has ls 8 [(0, .ref (a 0)), (1, .int (nI r)), (2, .int (nI nv)), (3, .int (nI ((r + 1) ^ nv))), (4, .int (nI c2)), (5, .int (nI (c2 / (r + 1) ^ min 4 nv))), (6, .int (b2i (oneN r (laD (r + 1) nv c2) 4))), (7, .int (nI 4))] := hl
                      have hP := gk_extP (g := (fun j => nI (laD (r + 1) nv c2 j))) hP 8 rfl (fun j hj => hL2 j hj)
                      have hD := gk_extD (e := .inl (cI, 4, .inl (fun j => nI (laD (r + 1) nv c2 j)))) hD 8 rfl
                      have hP : va_P (dC, dI) vwCl [(a 0, .inr (8, [.ref (a 1), .ref (a 2), .ref (a 3), .ref (a 4), .int (nI n), .ref (a 5), .ref (a 6), .ref (a 7), .ref (a 8), .ref (a 9)])), (a 1, .inl (cI, 60, .inl F)), (a 2, .inl (cI, 60, .inl T)), (a 3, .inl (cI, 60, .inl P)), (a 4, .inl (cI, 60, .inl V)), (a 5, .inl (cI, 4, .inl Wt)), (a 6, .inl (cI, 60, .inl (fun j => nI (o j)))), (a 7, .inl (cI, 60, .inl G)), (a 8, .inl (cI, 4, .inl (fun j => nI (laD (r + 1) nv c2 j)))), (a 9, .inl (cI, 759375, .inl R1))] H := hP
                      have hD : va_D A [(a 0, .inr (8, [.ref (a 1), .ref (a 2), .ref (a 3), .ref (a 4), .int (nI n), .ref (a 5), .ref (a 6), .ref (a 7), .ref (a 8), .ref (a 9)])), (a 1, .inl (cI, 60, .inl F)), (a 2, .inl (cI, 60, .inl T)), (a 3, .inl (cI, 60, .inl P)), (a 4, .inl (cI, 60, .inl V)), (a 5, .inl (cI, 4, .inl Wt)), (a 6, .inl (cI, 60, .inl (fun j => nI (o j)))), (a 7, .inl (cI, 60, .inl G)), (a 8, .inl (cI, 4, .inl (fun j => nI (laD (r + 1) nv c2 j)))), (a 9, .inl (cI, 759375, .inl R1))] := hD
                      refine lv_iload hx hb dX8_level_125 (lv_at hl 6 rfl) ?_
                      refine lv_if_eq (tgt := 158) hx hb dX8_level_127 (by decide) (fun c_15 => ?_) (fun c_15 => ?_)
                      · skip
                        have c_15 : (oneN r (laD (r + 1) nv c2) 4) = false := b2i_0.mp c_15
                        refine lv_iinc (v := nI (c2 + 1)) (lv' := [(4, .int (nI (c2 + 1))), (0, .ref (a 0)), (1, .int (nI r)), (2, .int (nI nv)), (3, .int (nI ((r + 1) ^ nv))), (5, .int (nI (c2 / (r + 1) ^ min 4 nv))), (6, .int (b2i (oneN r (laD (r + 1) nv c2) 4))), (7, .int (nI 4))]) hx hb dX8_level_158 hl (k := 4) rfl (gk_inc1 _) (by decide) rfl (fun ls hl => ?_)
                        refine lv_goto (tgt := 26) hx hb dX8_level_161 (by decide) ?_
                        exact ih26 (c2 + 1) _ _ _ _ _ ls (by rfl) (by omega) (by exact lvP_no hp1 (by assumption)) (by omega) hP hD hS (lv_sub hl [1, 2, 3, 4, 0] rfl)
                      · skip
                        have c_15 : (oneN r (laD (r + 1) nv c2) 4) = true := b2i_1.mp c_15
                        refine lv_aload_n hx hb dX8_level_130 rfl (lv_at hl 0 rfl) ?_
                        refine va_get (D := (dC, dI)) (ci := 8) (v := .ref (a 9)) (C := RX8) (T := TX8) (N := 10) hx hb hts i_X8 hown hK hP 0 rfl rfl 9 (by decide) k_0 (fun _ h9 => h9) rfl dX8_level_131 ?_
                        refine lv_aload_n hx hb dX8_level_134 rfl (lv_at hl 0 rfl) ?_
                        refine lv_iload_n hx hb dX8_level_135 rfl (lv_at hl 1 rfl) ?_
                        refine vp_callSi (gk_run (va_runV (As := [.int (nI r)]) (rest := [.ref (a 9)]) ⟨hx, hb, hml, hown, hts⟩ (c_X8_place l dC dI cI a n F T P V Wt o G (laD (r + 1) nv c2) R1 hn ho (fun j => Nat.le_trans (laD14 (by omega) j) (by decide)) (laD14 (by omega)) r) (cwV 1 hts gX8_level_X8_place rfl rfl rfl (by decide +kernel) ⟨Nat.le_of_ble_eq_true rfl, Nat.le_of_ble_eq_true rfl⟩) ⟨gk_fb, va_recv hK hP (ci := 8) (q0 := 0) rfl rfl, fun U hU hW => ⟨rfl, by rw [hU]; exact hP, va_K.moved hW.alike hK⟩⟩ rfl rfl hl.1 rfl (lv_room (Nat.le_of_ble_eq_true rfl)) dX8_level_136 ⟨Nat.zero_le _, Nat.zero_le _⟩)) (fun r_16 er_16 => ?_)
                        subst er_16
                        refine lv_iload_n hx hb dX8_level_139 rfl (lv_at hl 1 rfl) ?_
                        refine lv_aload_n hx hb dX8_level_140 rfl (lv_at hl 0 rfl) ?_
                        refine va_get (D := (dC, dI)) (ci := 8) (v := .int (nI n)) (C := RX8) (T := TX8) (N := 10) hx hb hts i_X8 hown hK hP 0 rfl rfl 4 (by decide) k_1 (fun _ h9 => h9) rfl dX8_level_141 ?_
                        refine lv_icmp_ne (tgt := 151) hx hb dX8_level_144 (by decide) (fun c_17 => ?_) (fun c_17 => ?_)
                        · skip
                          have c_17 : r ≠ n := gk_neT (a := r) (b := n) (by first | omega | exact Nat.lt_trans (ho _) (by decide) | exact Nat.lt_of_le_of_lt atN_le (by omega) | exact Nat.lt_of_le_of_lt szN_le (by omega) | exact Nat.lt_of_le_of_lt clM_le (by omega) | exact Nat.lt_of_le_of_lt rkN_le (by omega) | exact Nat.lt_of_le_of_lt (cnt_le _ _) (by omega)) (by first | omega | exact Nat.lt_trans (ho _) (by decide) | exact Nat.lt_of_le_of_lt atN_le (by omega) | exact Nat.lt_of_le_of_lt szN_le (by omega) | exact Nat.lt_of_le_of_lt clM_le (by omega) | exact Nat.lt_of_le_of_lt rkN_le (by omega) | exact Nat.lt_of_le_of_lt (cnt_le _ _) (by omega)) c_17
                          refine lv_aload_n hx hb dX8_level_151 rfl (lv_at hl 0 rfl) ?_
                          refine lv_iload_n hx hb dX8_level_152 rfl (lv_at hl 1 rfl) ?_
                          refine lv_iload_n hx hb dX8_level_153 rfl (lv_at hl 2 rfl) ?_
                          have hPc := hP.sub (ws' := [(a 0, .inr (8, [.ref (a 1), .ref (a 2), .ref (a 3), .ref (a 4), .int (nI n), .ref (a 5), .ref (a 6), .ref (a 7), .ref (a 8), .ref (a 9)])), (a 1, .inl (cI, 60, .inl F)), (a 2, .inl (cI, 60, .inl T)), (a 3, .inl (cI, 60, .inl P)), (a 4, .inl (cI, 60, .inl V)), (a 5, .inl (cI, 4, .inl Wt)), (a 6, .inl (cI, 60, .inl (fun j => nI (o j)))), (a 7, .inl (cI, 60, .inl G)), (a 8, .inl (cI, 4, .inl (fun j => nI (laD (r + 1) nv c2 j)))), (a 9, .inl (cI, 759375, .inl R1))]) [0, 1, 2, 3, 4, 5, 6, 7, 8, 9] rfl
                          have hDc := hD.sub (ws' := [(a 0, .inr (8, [.ref (a 1), .ref (a 2), .ref (a 3), .ref (a 4), .int (nI n), .ref (a 5), .ref (a 6), .ref (a 7), .ref (a 8), .ref (a 9)])), (a 1, .inl (cI, 60, .inl F)), (a 2, .inl (cI, 60, .inl T)), (a 3, .inl (cI, 60, .inl P)), (a 4, .inl (cI, 60, .inl V)), (a 5, .inl (cI, 4, .inl Wt)), (a 6, .inl (cI, 60, .inl (fun j => nI (o j)))), (a 7, .inl (cI, 60, .inl G)), (a 8, .inl (cI, 4, .inl (fun j => nI (laD (r + 1) nv c2 j)))), (a 9, .inl (cI, 759375, .inl R1))]) [0, 1, 2, 3, 4, 5, 6, 7, 8, 9] (by decide) rfl
                          have hFc := va_free (wc := [(a 0, .inr (8, [.ref (a 1), .ref (a 2), .ref (a 3), .ref (a 4), .int (nI n), .ref (a 5), .ref (a 6), .ref (a 7), .ref (a 8), .ref (a 9)])), (a 1, .inl (cI, 60, .inl F)), (a 2, .inl (cI, 60, .inl T)), (a 3, .inl (cI, 60, .inl P)), (a 4, .inl (cI, 60, .inl V)), (a 5, .inl (cI, 4, .inl Wt)), (a 6, .inl (cI, 60, .inl (fun j => nI (o j)))), (a 7, .inl (cI, 60, .inl G)), (a 8, .inl (cI, 4, .inl (fun j => nI (laD (r + 1) nv c2 j)))), (a 9, .inl (cI, 759375, .inl R1))]) hD hS hA [0, 1, 2, 3, 4, 5, 6, 7, 8, 9] rfl
                          refine va_calli (va_runV (As := [.int (nI r), .int (nI nv)]) (rest := [.int (nI (plc r (laD (r + 1) nv c2))), .ref (a 9)]) ⟨hx, hb, hml, hown, hts⟩ (c_X8_leastOf l dC dI cI H.size a n F T P V Wt o G (laD (r + 1) nv c2) R1 hn ho (fun j => Nat.le_trans (laD14 (by omega) j) (by decide)) (laD14 (by omega)) r nv (by omega) hv0) (cwV 2 hts gX8_level_X8_leastOf rfl rfl rfl (by decide +kernel) ⟨Nat.le_of_ble_eq_true rfl, Nat.le_of_ble_eq_true rfl⟩) ⟨gk_fbW, va_recv hK hPc (ci := 8) (q0 := 0) rfl rfl, fun U hU hW => ⟨rfl, by rw [hU], by rw [hU]; exact hPc, va_K.moved hW.alike hK, hDc.weaken (fun _ _ _ _ => trivial)⟩⟩ rfl rfl hl.1 rfl (lv_room (Nat.le_of_ble_eq_true rfl)) dX8_level_154 ⟨Nat.zero_le _, Nat.zero_le _⟩) hS (fun q _ h => hFc q h) hFc (fun r_18 u t H1 locs ht hvm hw hB hz1 hk1 hS => ?_)
                          obtain ⟨hP1, hK1, hD1⟩ := hB
                          rw [ht] at hP1
                          try dsimp only at hw
                          obtain ⟨hP, hD⟩ := va_join (wr := []) (w1 := [(a 0, .inr (8, [.ref (a 1), .ref (a 2), .ref (a 3), .ref (a 4), .int (nI n), .ref (a 5), .ref (a 6), .ref (a 7), .ref (a 8), .ref (a 9)])), (a 1, .inl (cI, 60, .inl F)), (a 2, .inl (cI, 60, .inl T)), (a 3, .inl (cI, 60, .inl P)), (a 4, .inl (cI, 60, .inl V)), (a 5, .inl (cI, 4, .inl Wt)), (a 6, .inl (cI, 60, .inl (fun j => nI (o j)))), (a 7, .inl (cI, 60, .inl G)), (a 8, .inl (cI, 4, .inl (fun j => nI (laD (r + 1) nv c2 j)))), (a 9, .inl (cI, 759375, .inl R1))]) hP hD [0, 1, 2, 3, 4, 5, 6, 7, 8, 9] [] rfl rfl (by decide) (by decide) hk1 hFc hP1 hD1
                          generalize H1 = H at hP hS ⊢
                          have hP : va_P (dC, dI) vwCl [(a 0, .inr (8, [.ref (a 1), .ref (a 2), .ref (a 3), .ref (a 4), .int (nI n), .ref (a 5), .ref (a 6), .ref (a 7), .ref (a 8), .ref (a 9)])), (a 1, .inl (cI, 60, .inl F)), (a 2, .inl (cI, 60, .inl T)), (a 3, .inl (cI, 60, .inl P)), (a 4, .inl (cI, 60, .inl V)), (a 5, .inl (cI, 4, .inl Wt)), (a 6, .inl (cI, 60, .inl (fun j => nI (o j)))), (a 7, .inl (cI, 60, .inl G)), (a 8, .inl (cI, 4, .inl (fun j => nI (laD (r + 1) nv c2 j)))), (a 9, .inl (cI, 759375, .inl R1))] H := hP
                          have hD : va_D A [(a 0, .inr (8, [.ref (a 1), .ref (a 2), .ref (a 3), .ref (a 4), .int (nI n), .ref (a 5), .ref (a 6), .ref (a 7), .ref (a 8), .ref (a 9)])), (a 1, .inl (cI, 60, .inl F)), (a 2, .inl (cI, 60, .inl T)), (a 3, .inl (cI, 60, .inl P)), (a 4, .inl (cI, 60, .inl V)), (a 5, .inl (cI, 4, .inl Wt)), (a 6, .inl (cI, 60, .inl (fun j => nI (o j)))), (a 7, .inl (cI, 60, .inl G)), (a 8, .inl (cI, 4, .inl (fun j => nI (laD (r + 1) nv c2 j)))), (a 9, .inl (cI, 759375, .inl R1))] := hD
                          subst hw
                          refine gk_st hx hb hK hP hD hS 9 0 rfl rfl (plc r (laD (r + 1) nv c2)) (plc_lt (by omega) (laD14 (by omega))) (by omega) dX8_level_157 (fun H locs hP hD hS => ?_)
                          have hP : va_P (dC, dI) vwCl [(a 0, .inr (8, [.ref (a 1), .ref (a 2), .ref (a 3), .ref (a 4), .int (nI n), .ref (a 5), .ref (a 6), .ref (a 7), .ref (a 8), .ref (a 9)])), (a 1, .inl (cI, 60, .inl F)), (a 2, .inl (cI, 60, .inl T)), (a 3, .inl (cI, 60, .inl P)), (a 4, .inl (cI, 60, .inl V)), (a 5, .inl (cI, 4, .inl Wt)), (a 6, .inl (cI, 60, .inl (fun j => nI (o j)))), (a 7, .inl (cI, 60, .inl G)), (a 8, .inl (cI, 4, .inl (fun j => nI (laD (r + 1) nv c2 j)))), (a 9, .inl (cI, 759375, .inl (upd R1 (plc r (laD (r + 1) nv c2)) ((mn (thr (fun w => R1 (plc (r + 1) w)) (prc F T P Wt o (laD (r + 1) nv c2) r) (laD (r + 1) nv c2) r) nv).2))))] H := hP
                          have hD : va_D A [(a 0, .inr (8, [.ref (a 1), .ref (a 2), .ref (a 3), .ref (a 4), .int (nI n), .ref (a 5), .ref (a 6), .ref (a 7), .ref (a 8), .ref (a 9)])), (a 1, .inl (cI, 60, .inl F)), (a 2, .inl (cI, 60, .inl T)), (a 3, .inl (cI, 60, .inl P)), (a 4, .inl (cI, 60, .inl V)), (a 5, .inl (cI, 4, .inl Wt)), (a 6, .inl (cI, 60, .inl (fun j => nI (o j)))), (a 7, .inl (cI, 60, .inl G)), (a 8, .inl (cI, 4, .inl (fun j => nI (laD (r + 1) nv c2 j)))), (a 9, .inl (cI, 759375, .inl (upd R1 (plc r (laD (r + 1) nv c2)) ((mn (thr (fun w => R1 (plc (r + 1) w)) (prc F T P Wt o (laD (r + 1) nv c2) r) (laD (r + 1) nv c2) r) nv).2))))] := hD
                          refine lv_iinc (v := nI (c2 + 1)) (lv' := [(4, .int (nI (c2 + 1))), (0, .ref (a 0)), (1, .int (nI r)), (2, .int (nI nv)), (3, .int (nI ((r + 1) ^ nv))), (5, .int (nI (c2 / (r + 1) ^ min 4 nv))), (6, .int (b2i (oneN r (laD (r + 1) nv c2) 4))), (7, .int (nI 4))]) hx hb dX8_level_158 hl (k := 4) rfl (gk_inc1 _) (by decide) rfl (fun ls hl => ?_)
                          refine lv_goto (tgt := 26) hx hb dX8_level_161 (by decide) ?_
                          exact ih26 (c2 + 1) _ _ _ _ _ ls (by rfl) (by omega) (by exact lvP_yes (by omega) hv0 hp1 (lvV_1 (by omega) hp1 (by assumption))) (by omega) hP hD hS (lv_sub hl [1, 2, 3, 4, 0] rfl)
                        · skip
                          have c_17 : r = n := gk_neF (a := r) (b := n) (by first | omega | exact Nat.lt_trans (ho _) (by decide) | exact Nat.lt_of_le_of_lt atN_le (by omega) | exact Nat.lt_of_le_of_lt szN_le (by omega) | exact Nat.lt_of_le_of_lt clM_le (by omega) | exact Nat.lt_of_le_of_lt rkN_le (by omega) | exact Nat.lt_of_le_of_lt (cnt_le _ _) (by omega)) (by first | omega | exact Nat.lt_trans (ho _) (by decide) | exact Nat.lt_of_le_of_lt atN_le (by omega) | exact Nat.lt_of_le_of_lt szN_le (by omega) | exact Nat.lt_of_le_of_lt clM_le (by omega) | exact Nat.lt_of_le_of_lt rkN_le (by omega) | exact Nat.lt_of_le_of_lt (cnt_le _ _) (by omega)) c_17
                          refine lv_iconst (v := 0) hx hb dX8_level_147 (by decide) ?_
                          refine lv_goto (tgt := 157) hx hb dX8_level_148 (by decide) ?_
                          refine gk_st hx hb hK hP hD hS 9 0 rfl rfl (plc r (laD (r + 1) nv c2)) (plc_lt (by omega) (laD14 (by omega))) (by omega) dX8_level_157 (fun H locs hP hD hS => ?_)
                          have hP : va_P (dC, dI) vwCl [(a 0, .inr (8, [.ref (a 1), .ref (a 2), .ref (a 3), .ref (a 4), .int (nI n), .ref (a 5), .ref (a 6), .ref (a 7), .ref (a 8), .ref (a 9)])), (a 1, .inl (cI, 60, .inl F)), (a 2, .inl (cI, 60, .inl T)), (a 3, .inl (cI, 60, .inl P)), (a 4, .inl (cI, 60, .inl V)), (a 5, .inl (cI, 4, .inl Wt)), (a 6, .inl (cI, 60, .inl (fun j => nI (o j)))), (a 7, .inl (cI, 60, .inl G)), (a 8, .inl (cI, 4, .inl (fun j => nI (laD (r + 1) nv c2 j)))), (a 9, .inl (cI, 759375, .inl (upd R1 (plc r (laD (r + 1) nv c2)) 0)))] H := hP
                          have hD : va_D A [(a 0, .inr (8, [.ref (a 1), .ref (a 2), .ref (a 3), .ref (a 4), .int (nI n), .ref (a 5), .ref (a 6), .ref (a 7), .ref (a 8), .ref (a 9)])), (a 1, .inl (cI, 60, .inl F)), (a 2, .inl (cI, 60, .inl T)), (a 3, .inl (cI, 60, .inl P)), (a 4, .inl (cI, 60, .inl V)), (a 5, .inl (cI, 4, .inl Wt)), (a 6, .inl (cI, 60, .inl (fun j => nI (o j)))), (a 7, .inl (cI, 60, .inl G)), (a 8, .inl (cI, 4, .inl (fun j => nI (laD (r + 1) nv c2 j)))), (a 9, .inl (cI, 759375, .inl (upd R1 (plc r (laD (r + 1) nv c2)) 0)))] := hD
                          refine lv_iinc (v := nI (c2 + 1)) (lv' := [(4, .int (nI (c2 + 1))), (0, .ref (a 0)), (1, .int (nI r)), (2, .int (nI nv)), (3, .int (nI ((r + 1) ^ nv))), (5, .int (nI (c2 / (r + 1) ^ min 4 nv))), (6, .int (b2i (oneN r (laD (r + 1) nv c2) 4))), (7, .int (nI 4))]) hx hb dX8_level_158 hl (k := 4) rfl (gk_inc1 _) (by decide) rfl (fun ls hl => ?_)
                          refine lv_goto (tgt := 26) hx hb dX8_level_161 (by decide) ?_
                          exact ih26 (c2 + 1) _ _ _ _ _ ls (by rfl) (by omega) (by exact lvP_yes (by omega) hv0 hp1 (lvV_0 (by assumption))) (by omega) hP hD hS (lv_sub hl [1, 2, 3, 4, 0] rfl)
                    · skip
                      have c_14 : v < 4 := gk_geF (a := v) (b := 4) (by first | omega | exact Nat.lt_trans (ho _) (by decide) | exact Nat.lt_of_le_of_lt atN_le (by omega) | exact Nat.lt_of_le_of_lt szN_le (by omega) | exact Nat.lt_of_le_of_lt clM_le (by omega) | exact Nat.lt_of_le_of_lt rkN_le (by omega) | exact Nat.lt_of_le_of_lt (cnt_le _ _) (by omega)) (by first | omega | exact Nat.lt_trans (ho _) (by decide) | exact Nat.lt_of_le_of_lt atN_le (by omega) | exact Nat.lt_of_le_of_lt szN_le (by omega) | exact Nat.lt_of_le_of_lt clM_le (by omega) | exact Nat.lt_of_le_of_lt rkN_le (by omega) | exact Nat.lt_of_le_of_lt (cnt_le _ _) (by omega)) c_14
                      refine lv_aload_n hx hb dX8_level_56 rfl (lv_at hl 0 rfl) ?_
                      refine va_get (D := (dC, dI)) (ci := 8) (v := .ref (a 8)) (C := RX8) (T := TX8) (N := 10) hx hb hts i_X8 hown hK hP 0 rfl rfl 8 (by decide) k_2 (fun _ h9 => h9) rfl dX8_level_57 ?_
                      refine lv_iload hx hb dX8_level_60 (lv_at hl 7 rfl) ?_
                      refine lv_iload hx hb dX8_level_62 (lv_at hl 7 rfl) ?_
                      refine lv_iload_n hx hb dX8_level_64 rfl (lv_at hl 2 rfl) ?_
                      refine lv_icmp_ge (tgt := 77) hx hb dX8_level_65 (by decide) (fun c_19 => ?_) (fun c_19 => ?_)
                      · skip
                        have c_19 : v ≥ nv := gk_geT (a := v) (b := nv) (by first | omega | exact Nat.lt_trans (ho _) (by decide) | exact Nat.lt_of_le_of_lt atN_le (by omega) | exact Nat.lt_of_le_of_lt szN_le (by omega) | exact Nat.lt_of_le_of_lt clM_le (by omega) | exact Nat.lt_of_le_of_lt rkN_le (by omega) | exact Nat.lt_of_le_of_lt (cnt_le _ _) (by omega)) (by first | omega | exact Nat.lt_trans (ho _) (by decide) | exact Nat.lt_of_le_of_lt atN_le (by omega) | exact Nat.lt_of_le_of_lt szN_le (by omega) | exact Nat.lt_of_le_of_lt clM_le (by omega) | exact Nat.lt_of_le_of_lt rkN_le (by omega) | exact Nat.lt_of_le_of_lt (cnt_le _ _) (by omega)) c_19
                        refine lv_iconst (v := 0) hx hb dX8_level_77 (by decide) ?_
                        refine gk_top (y := nI (laD (r + 1) nv c2 v)) (by rw [laD_z (by omega)]; rfl) ?_
                        refine gk_st hx hb hK hP hD hS 8 0 rfl rfl v (by omega) (by omega) dX8_level_78 (fun H locs hP hD hS => ?_)
                        have hP : va_P (dC, dI) vwCl [(a 0, .inr (8, [.ref (a 1), .ref (a 2), .ref (a 3), .ref (a 4), .int (nI n), .ref (a 5), .ref (a 6), .ref (a 7), .ref (a 8), .ref (a 9)])), (a 1, .inl (cI, 60, .inl F)), (a 2, .inl (cI, 60, .inl T)), (a 3, .inl (cI, 60, .inl P)), (a 4, .inl (cI, 60, .inl V)), (a 5, .inl (cI, 4, .inl Wt)), (a 6, .inl (cI, 60, .inl (fun j => nI (o j)))), (a 7, .inl (cI, 60, .inl G)), (a 8, .inl (cI, 4, .inl (upd L2 v (nI (laD (r + 1) nv c2 v))))), (a 9, .inl (cI, 759375, .inl R1))] H := hP
                        have hD : va_D A [(a 0, .inr (8, [.ref (a 1), .ref (a 2), .ref (a 3), .ref (a 4), .int (nI n), .ref (a 5), .ref (a 6), .ref (a 7), .ref (a 8), .ref (a 9)])), (a 1, .inl (cI, 60, .inl F)), (a 2, .inl (cI, 60, .inl T)), (a 3, .inl (cI, 60, .inl P)), (a 4, .inl (cI, 60, .inl V)), (a 5, .inl (cI, 4, .inl Wt)), (a 6, .inl (cI, 60, .inl (fun j => nI (o j)))), (a 7, .inl (cI, 60, .inl G)), (a 8, .inl (cI, 4, .inl (upd L2 v (nI (laD (r + 1) nv c2 v))))), (a 9, .inl (cI, 759375, .inl R1))] := hD
                        refine lv_iload hx hb dX8_level_79 (lv_at hl 7 rfl) ?_
                        refine lv_iload_n hx hb dX8_level_81 rfl (lv_at hl 2 rfl) ?_
                        refine lv_icmp_ge (tgt := 94) hx hb dX8_level_82 (by decide) (fun c_20 => ?_) (fun c_20 => ?_)
                        · skip
                          have c_20 : v ≥ nv := gk_geT (a := v) (b := nv) (by first | omega | exact Nat.lt_trans (ho _) (by decide) | exact Nat.lt_of_le_of_lt atN_le (by omega) | exact Nat.lt_of_le_of_lt szN_le (by omega) | exact Nat.lt_of_le_of_lt clM_le (by omega) | exact Nat.lt_of_le_of_lt rkN_le (by omega) | exact Nat.lt_of_le_of_lt (cnt_le _ _) (by omega)) (by first | omega | exact Nat.lt_trans (ho _) (by decide) | exact Nat.lt_of_le_of_lt atN_le (by omega) | exact Nat.lt_of_le_of_lt szN_le (by omega) | exact Nat.lt_of_le_of_lt clM_le (by omega) | exact Nat.lt_of_le_of_lt rkN_le (by omega) | exact Nat.lt_of_le_of_lt (cnt_le _ _) (by omega)) c_20
                          refine lv_iload hx hb dX8_level_94 (lv_at hl 5 rfl) ?_
                          refine gk_top (y := nI (c2 / (r + 1) ^ min (v + 1) nv)) (by rw [show min (v + 1) nv = min v nv by omega]) ?_
                          refine lv_istore (lv' := [(5, .int (nI (c2 / (r + 1) ^ min (v + 1) nv))), (0, .ref (a 0)), (1, .int (nI r)), (2, .int (nI nv)), (3, .int (nI ((r + 1) ^ nv))), (4, .int (nI c2)), (6, .int (b2i (oneN r (laD (r + 1) nv c2) v))), (7, .int (nI v))]) hx hb dX8_level_96 hl (by decide) rfl (fun ls hl => ?_)
                          refine lv_iload hx hb dX8_level_98 (lv_at hl 6 rfl) ?_
                          refine lv_aload_n hx hb dX8_level_100 rfl (lv_at hl 1 rfl) ?_
                          refine va_get (D := (dC, dI)) (ci := 8) (v := .ref (a 8)) (C := RX8) (T := TX8) (N := 10) hx hb hts i_X8 hown hK hP 0 rfl rfl 8 (by decide) k_2 (fun _ h9 => h9) rfl dX8_level_101 ?_
                          refine lv_iload hx hb dX8_level_104 (lv_at hl 7 rfl) ?_
                          refine gk_ld hx hb hK hP 8 0 rfl rfl v (by omega) (by omega) (v := (upd L2 v (nI (laD (r + 1) nv c2 v))) v) (rfl) dX8_level_106 ?_
                          refine gk_top (y := nI (laD (r + 1) nv c2 v)) (pk_us) ?_
                          refine lv_iload_n hx hb dX8_level_107 rfl (lv_at hl 2 rfl) ?_
                          refine lv_icmp_ne (tgt := 115) hx hb dX8_level_108 (by decide) (fun c_21 => ?_) (fun c_21 => ?_)
                          · skip
                            have c_21 : laD (r + 1) nv c2 v ≠ r := gk_neT (a := laD (r + 1) nv c2 v) (b := r) (by first | omega | exact Nat.lt_trans (ho _) (by decide) | exact Nat.lt_of_le_of_lt atN_le (by omega) | exact Nat.lt_of_le_of_lt szN_le (by omega) | exact Nat.lt_of_le_of_lt clM_le (by omega) | exact Nat.lt_of_le_of_lt rkN_le (by omega) | exact Nat.lt_of_le_of_lt (cnt_le _ _) (by omega)) (by first | omega | exact Nat.lt_trans (ho _) (by decide) | exact Nat.lt_of_le_of_lt atN_le (by omega) | exact Nat.lt_of_le_of_lt szN_le (by omega) | exact Nat.lt_of_le_of_lt clM_le (by omega) | exact Nat.lt_of_le_of_lt rkN_le (by omega) | exact Nat.lt_of_le_of_lt (cnt_le _ _) (by omega)) c_21
                            refine lv_iconst (v := 0) hx hb dX8_level_115 (by decide) ?_
                            refine lv_ior hx hb dX8_level_116 ?_
                            refine lv_istore (lv' := [(6, .int ((b2i (oneN r (laD (r + 1) nv c2) v)) ||| 0)), (5, .int (nI (c2 / (r + 1) ^ min (v + 1) nv))), (0, .ref (a 0)), (1, .int (nI r)), (2, .int (nI nv)), (3, .int (nI ((r + 1) ^ nv))), (4, .int (nI c2)), (7, .int (nI v))]) hx hb dX8_level_117 hl (by decide) rfl (fun ls hl => ?_)
                            refine lv_iinc (v := nI (v + 1)) (lv' := [(7, .int (nI (v + 1))), (6, .int ((b2i (oneN r (laD (r + 1) nv c2) v)) ||| 0)), (5, .int (nI (c2 / (r + 1) ^ min (v + 1) nv))), (0, .ref (a 0)), (1, .int (nI r)), (2, .int (nI nv)), (3, .int (nI ((r + 1) ^ nv))), (4, .int (nI c2))]) hx hb dX8_level_119 hl (k := 7) rfl (gk_inc1 _) (by decide) rfl (fun ls hl => ?_)
                            refine lv_goto (tgt := 50) hx hb dX8_level_122 (by decide) ?_
                            exact ih50 (v + 1) _ _ _ _ _ _ ls (by rfl) (by exact one_n (by assumption)) (by rfl) (by omega) (by exact row_step (f := fun j => nI (laD (r + 1) nv c2 j)) hL2) (by omega) hP hD hS (lv_sub hl [3, 4, 5, 6, 7, 2, 1, 0] rfl)
                          · skip
                            have c_21 : laD (r + 1) nv c2 v = r := gk_neF (a := laD (r + 1) nv c2 v) (b := r) (by first | omega | exact Nat.lt_trans (ho _) (by decide) | exact Nat.lt_of_le_of_lt atN_le (by omega) | exact Nat.lt_of_le_of_lt szN_le (by omega) | exact Nat.lt_of_le_of_lt clM_le (by omega) | exact Nat.lt_of_le_of_lt rkN_le (by omega) | exact Nat.lt_of_le_of_lt (cnt_le _ _) (by omega)) (by first | omega | exact Nat.lt_trans (ho _) (by decide) | exact Nat.lt_of_le_of_lt atN_le (by omega) | exact Nat.lt_of_le_of_lt szN_le (by omega) | exact Nat.lt_of_le_of_lt clM_le (by omega) | exact Nat.lt_of_le_of_lt rkN_le (by omega) | exact Nat.lt_of_le_of_lt (cnt_le _ _) (by omega)) c_21
                            refine lv_iconst (v := 1) hx hb dX8_level_111 (by decide) ?_
                            refine lv_goto (tgt := 116) hx hb dX8_level_112 (by decide) ?_
                            refine lv_ior hx hb dX8_level_116 ?_
                            refine lv_istore (lv' := [(6, .int ((b2i (oneN r (laD (r + 1) nv c2) v)) ||| 1)), (5, .int (nI (c2 / (r + 1) ^ min (v + 1) nv))), (0, .ref (a 0)), (1, .int (nI r)), (2, .int (nI nv)), (3, .int (nI ((r + 1) ^ nv))), (4, .int (nI c2)), (7, .int (nI v))]) hx hb dX8_level_117 hl (by decide) rfl (fun ls hl => ?_)
                            refine lv_iinc (v := nI (v + 1)) (lv' := [(7, .int (nI (v + 1))), (6, .int ((b2i (oneN r (laD (r + 1) nv c2) v)) ||| 1)), (5, .int (nI (c2 / (r + 1) ^ min (v + 1) nv))), (0, .ref (a 0)), (1, .int (nI r)), (2, .int (nI nv)), (3, .int (nI ((r + 1) ^ nv))), (4, .int (nI c2))]) hx hb dX8_level_119 hl (k := 7) rfl (gk_inc1 _) (by decide) rfl (fun ls hl => ?_)
                            refine lv_goto (tgt := 50) hx hb dX8_level_122 (by decide) ?_
                            exact ih50 (v + 1) _ _ _ _ _ _ ls (by rfl) (by exact one_y (by assumption)) (by rfl) (by omega) (by exact row_step (f := fun j => nI (laD (r + 1) nv c2 j)) hL2) (by omega) hP hD hS (lv_sub hl [3, 4, 5, 6, 7, 2, 1, 0] rfl)
                        · skip
                          exact absurd (gk_geF (a := v) (b := nv) (by omega) (by omega) c_20) (by omega)
                      · skip
                        have c_19 : v < nv := gk_geF (a := v) (b := nv) (by first | omega | exact Nat.lt_trans (ho _) (by decide) | exact Nat.lt_of_le_of_lt atN_le (by omega) | exact Nat.lt_of_le_of_lt szN_le (by omega) | exact Nat.lt_of_le_of_lt clM_le (by omega) | exact Nat.lt_of_le_of_lt rkN_le (by omega) | exact Nat.lt_of_le_of_lt (cnt_le _ _) (by omega)) (by first | omega | exact Nat.lt_trans (ho _) (by decide) | exact Nat.lt_of_le_of_lt atN_le (by omega) | exact Nat.lt_of_le_of_lt szN_le (by omega) | exact Nat.lt_of_le_of_lt clM_le (by omega) | exact Nat.lt_of_le_of_lt rkN_le (by omega) | exact Nat.lt_of_le_of_lt (cnt_le _ _) (by omega)) c_19
                        refine lv_iload hx hb dX8_level_68 (lv_at hl 5 rfl) ?_
                        refine lv_iload_n hx hb dX8_level_70 rfl (lv_at hl 1 rfl) ?_
                        refine lv_iconst (v := 1) hx hb dX8_level_71 (by decide) ?_
                        refine lv_iadd hx hb dX8_level_72 ?_
                        refine gk_top (y := nI (r + 1)) (gk_addl _ _ _ (by decide)) ?_
                        refine lv_irem hx hb dX8_level_73 (nI_ne0 (by omega) (by omega)) ?_
                        refine gk_top (y := nI (laD (r + 1) nv c2 v)) (rem_dg (by omega) (by omega) (by omega) (by omega)) ?_
                        refine lv_goto (tgt := 78) hx hb dX8_level_74 (by decide) ?_
                        refine gk_st hx hb hK hP hD hS 8 0 rfl rfl v (by omega) (by omega) dX8_level_78 (fun H locs hP hD hS => ?_)
                        have hP : va_P (dC, dI) vwCl [(a 0, .inr (8, [.ref (a 1), .ref (a 2), .ref (a 3), .ref (a 4), .int (nI n), .ref (a 5), .ref (a 6), .ref (a 7), .ref (a 8), .ref (a 9)])), (a 1, .inl (cI, 60, .inl F)), (a 2, .inl (cI, 60, .inl T)), (a 3, .inl (cI, 60, .inl P)), (a 4, .inl (cI, 60, .inl V)), (a 5, .inl (cI, 4, .inl Wt)), (a 6, .inl (cI, 60, .inl (fun j => nI (o j)))), (a 7, .inl (cI, 60, .inl G)), (a 8, .inl (cI, 4, .inl (upd L2 v (nI (laD (r + 1) nv c2 v))))), (a 9, .inl (cI, 759375, .inl R1))] H := hP
                        have hD : va_D A [(a 0, .inr (8, [.ref (a 1), .ref (a 2), .ref (a 3), .ref (a 4), .int (nI n), .ref (a 5), .ref (a 6), .ref (a 7), .ref (a 8), .ref (a 9)])), (a 1, .inl (cI, 60, .inl F)), (a 2, .inl (cI, 60, .inl T)), (a 3, .inl (cI, 60, .inl P)), (a 4, .inl (cI, 60, .inl V)), (a 5, .inl (cI, 4, .inl Wt)), (a 6, .inl (cI, 60, .inl (fun j => nI (o j)))), (a 7, .inl (cI, 60, .inl G)), (a 8, .inl (cI, 4, .inl (upd L2 v (nI (laD (r + 1) nv c2 v))))), (a 9, .inl (cI, 759375, .inl R1))] := hD
                        refine lv_iload hx hb dX8_level_79 (lv_at hl 7 rfl) ?_
                        refine lv_iload_n hx hb dX8_level_81 rfl (lv_at hl 2 rfl) ?_
                        refine lv_icmp_ge (tgt := 94) hx hb dX8_level_82 (by decide) (fun c_22 => ?_) (fun c_22 => ?_)
                        · skip
                          exact absurd (gk_geT (a := v) (b := nv) (by omega) (by omega) c_22) (by omega)
                        · skip
                          have c_22 : v < nv := gk_geF (a := v) (b := nv) (by first | omega | exact Nat.lt_trans (ho _) (by decide) | exact Nat.lt_of_le_of_lt atN_le (by omega) | exact Nat.lt_of_le_of_lt szN_le (by omega) | exact Nat.lt_of_le_of_lt clM_le (by omega) | exact Nat.lt_of_le_of_lt rkN_le (by omega) | exact Nat.lt_of_le_of_lt (cnt_le _ _) (by omega)) (by first | omega | exact Nat.lt_trans (ho _) (by decide) | exact Nat.lt_of_le_of_lt atN_le (by omega) | exact Nat.lt_of_le_of_lt szN_le (by omega) | exact Nat.lt_of_le_of_lt clM_le (by omega) | exact Nat.lt_of_le_of_lt rkN_le (by omega) | exact Nat.lt_of_le_of_lt (cnt_le _ _) (by omega)) c_22
                          refine lv_iload hx hb dX8_level_85 (lv_at hl 5 rfl) ?_
                          refine lv_iload_n hx hb dX8_level_87 rfl (lv_at hl 1 rfl) ?_
                          refine lv_iconst (v := 1) hx hb dX8_level_88 (by decide) ?_
                          refine lv_iadd hx hb dX8_level_89 ?_
                          refine gk_top (y := nI (r + 1)) (gk_addl _ _ _ (by decide)) ?_
                          refine lv_idiv hx hb dX8_level_90 (nI_ne0 (by omega) (by omega)) ?_
                          refine gk_top (y := nI (c2 / (r + 1) ^ min (v + 1) nv)) (div_dg (by omega) (by omega) (by omega) (by omega)) ?_
                          refine lv_goto (tgt := 96) hx hb dX8_level_91 (by decide) ?_
                          refine lv_istore (lv' := [(5, .int (nI (c2 / (r + 1) ^ min (v + 1) nv))), (0, .ref (a 0)), (1, .int (nI r)), (2, .int (nI nv)), (3, .int (nI ((r + 1) ^ nv))), (4, .int (nI c2)), (6, .int (b2i (oneN r (laD (r + 1) nv c2) v))), (7, .int (nI v))]) hx hb dX8_level_96 hl (by decide) rfl (fun ls hl => ?_)
                          refine lv_iload hx hb dX8_level_98 (lv_at hl 6 rfl) ?_
                          refine lv_aload_n hx hb dX8_level_100 rfl (lv_at hl 1 rfl) ?_
                          refine va_get (D := (dC, dI)) (ci := 8) (v := .ref (a 8)) (C := RX8) (T := TX8) (N := 10) hx hb hts i_X8 hown hK hP 0 rfl rfl 8 (by decide) k_2 (fun _ h9 => h9) rfl dX8_level_101 ?_
                          refine lv_iload hx hb dX8_level_104 (lv_at hl 7 rfl) ?_
                          refine gk_ld hx hb hK hP 8 0 rfl rfl v (by omega) (by omega) (v := (upd L2 v (nI (laD (r + 1) nv c2 v))) v) (rfl) dX8_level_106 ?_
                          refine gk_top (y := nI (laD (r + 1) nv c2 v)) (pk_us) ?_
                          refine lv_iload_n hx hb dX8_level_107 rfl (lv_at hl 2 rfl) ?_
                          refine lv_icmp_ne (tgt := 115) hx hb dX8_level_108 (by decide) (fun c_23 => ?_) (fun c_23 => ?_)
                          · skip
                            have c_23 : laD (r + 1) nv c2 v ≠ r := gk_neT (a := laD (r + 1) nv c2 v) (b := r) (by first | omega | exact Nat.lt_trans (ho _) (by decide) | exact Nat.lt_of_le_of_lt atN_le (by omega) | exact Nat.lt_of_le_of_lt szN_le (by omega) | exact Nat.lt_of_le_of_lt clM_le (by omega) | exact Nat.lt_of_le_of_lt rkN_le (by omega) | exact Nat.lt_of_le_of_lt (cnt_le _ _) (by omega)) (by first | omega | exact Nat.lt_trans (ho _) (by decide) | exact Nat.lt_of_le_of_lt atN_le (by omega) | exact Nat.lt_of_le_of_lt szN_le (by omega) | exact Nat.lt_of_le_of_lt clM_le (by omega) | exact Nat.lt_of_le_of_lt rkN_le (by omega) | exact Nat.lt_of_le_of_lt (cnt_le _ _) (by omega)) c_23
                            refine lv_iconst (v := 0) hx hb dX8_level_115 (by decide) ?_
                            refine lv_ior hx hb dX8_level_116 ?_
                            refine lv_istore (lv' := [(6, .int ((b2i (oneN r (laD (r + 1) nv c2) v)) ||| 0)), (5, .int (nI (c2 / (r + 1) ^ min (v + 1) nv))), (0, .ref (a 0)), (1, .int (nI r)), (2, .int (nI nv)), (3, .int (nI ((r + 1) ^ nv))), (4, .int (nI c2)), (7, .int (nI v))]) hx hb dX8_level_117 hl (by decide) rfl (fun ls hl => ?_)
                            refine lv_iinc (v := nI (v + 1)) (lv' := [(7, .int (nI (v + 1))), (6, .int ((b2i (oneN r (laD (r + 1) nv c2) v)) ||| 0)), (5, .int (nI (c2 / (r + 1) ^ min (v + 1) nv))), (0, .ref (a 0)), (1, .int (nI r)), (2, .int (nI nv)), (3, .int (nI ((r + 1) ^ nv))), (4, .int (nI c2))]) hx hb dX8_level_119 hl (k := 7) rfl (gk_inc1 _) (by decide) rfl (fun ls hl => ?_)
                            refine lv_goto (tgt := 50) hx hb dX8_level_122 (by decide) ?_
                            exact ih50 (v + 1) _ _ _ _ _ _ ls (by rfl) (by exact one_n (by assumption)) (by rfl) (by omega) (by exact row_step (f := fun j => nI (laD (r + 1) nv c2 j)) hL2) (by omega) hP hD hS (lv_sub hl [3, 4, 5, 6, 7, 2, 1, 0] rfl)
                          · skip
                            have c_23 : laD (r + 1) nv c2 v = r := gk_neF (a := laD (r + 1) nv c2 v) (b := r) (by first | omega | exact Nat.lt_trans (ho _) (by decide) | exact Nat.lt_of_le_of_lt atN_le (by omega) | exact Nat.lt_of_le_of_lt szN_le (by omega) | exact Nat.lt_of_le_of_lt clM_le (by omega) | exact Nat.lt_of_le_of_lt rkN_le (by omega) | exact Nat.lt_of_le_of_lt (cnt_le _ _) (by omega)) (by first | omega | exact Nat.lt_trans (ho _) (by decide) | exact Nat.lt_of_le_of_lt atN_le (by omega) | exact Nat.lt_of_le_of_lt szN_le (by omega) | exact Nat.lt_of_le_of_lt clM_le (by omega) | exact Nat.lt_of_le_of_lt rkN_le (by omega) | exact Nat.lt_of_le_of_lt (cnt_le _ _) (by omega)) c_23
                            refine lv_iconst (v := 1) hx hb dX8_level_111 (by decide) ?_
                            refine lv_goto (tgt := 116) hx hb dX8_level_112 (by decide) ?_
                            refine lv_ior hx hb dX8_level_116 ?_
                            refine lv_istore (lv' := [(6, .int ((b2i (oneN r (laD (r + 1) nv c2) v)) ||| 1)), (5, .int (nI (c2 / (r + 1) ^ min (v + 1) nv))), (0, .ref (a 0)), (1, .int (nI r)), (2, .int (nI nv)), (3, .int (nI ((r + 1) ^ nv))), (4, .int (nI c2)), (7, .int (nI v))]) hx hb dX8_level_117 hl (by decide) rfl (fun ls hl => ?_)
                            refine lv_iinc (v := nI (v + 1)) (lv' := [(7, .int (nI (v + 1))), (6, .int ((b2i (oneN r (laD (r + 1) nv c2) v)) ||| 1)), (5, .int (nI (c2 / (r + 1) ^ min (v + 1) nv))), (0, .ref (a 0)), (1, .int (nI r)), (2, .int (nI nv)), (3, .int (nI ((r + 1) ^ nv))), (4, .int (nI c2))]) hx hb dX8_level_119 hl (k := 7) rfl (gk_inc1 _) (by decide) rfl (fun ls hl => ?_)
                            refine lv_goto (tgt := 50) hx hb dX8_level_122 (by decide) ?_
                            exact ih50 (v + 1) _ _ _ _ _ _ ls (by rfl) (by exact one_y (by assumption)) (by rfl) (by omega) (by exact row_step (f := fun j => nI (laD (r + 1) nv c2 j)) hL2) (by omega) hP hD hS (lv_sub hl [3, 4, 5, 6, 7, 2, 1, 0] rfl)
                exact L50 ((4) + 1) 0 _ _ _ _ _ _ ls (by exact congrArg nI (by rw [show min 0 nv = 0 by omega, Nat.pow_zero, Nat.div_one])) (by exact b2i_t (by simp only [oneN, decide_eq_true_eq]; assumption)) (by rfl) (by omega) (by exact fun j hj => absurd hj (Nat.not_lt_zero j)) (by omega) hP hD hS (lv_sub hl [3, 4, 5, 6, 7, 2, 1, 0] rfl)
        exact L26 (((r + 1) ^ nv) + 1) 0 _ _ _ _ _ ls (by rfl) (by omega) (by exact lvP_0) (by omega) hP hD hS (lv_sub hl [1, 2, 3, 4, 0] rfl)
      · skip
        have c_1 : k < nv := gk_geF (a := k) (b := nv) (by first | omega | exact Nat.lt_trans (ho _) (by decide) | exact Nat.lt_of_le_of_lt atN_le (by omega) | exact Nat.lt_of_le_of_lt szN_le (by omega) | exact Nat.lt_of_le_of_lt clM_le (by omega) | exact Nat.lt_of_le_of_lt rkN_le (by omega) | exact Nat.lt_of_le_of_lt (cnt_le _ _) (by omega)) (by first | omega | exact Nat.lt_trans (ho _) (by decide) | exact Nat.lt_of_le_of_lt atN_le (by omega) | exact Nat.lt_of_le_of_lt szN_le (by omega) | exact Nat.lt_of_le_of_lt clM_le (by omega) | exact Nat.lt_of_le_of_lt rkN_le (by omega) | exact Nat.lt_of_le_of_lt (cnt_le _ _) (by omega)) c_1
        refine lv_iload_n hx hb dX8_level_11 rfl (lv_at hl 3 rfl) ?_
        refine lv_iload_n hx hb dX8_level_12 rfl (lv_at hl 1 rfl) ?_
        refine lv_iconst (v := 1) hx hb dX8_level_13 (by decide) ?_
        refine lv_iadd hx hb dX8_level_14 ?_
        refine gk_top (y := nI (r + 1)) (gk_addl _ _ _ (by decide)) ?_
        refine lv_imul hx hb dX8_level_15 ?_
        refine gk_top (y := nI (((r + 1) ^ k) * (r + 1))) (pk_mul _ _) ?_
        refine lv_istore_n (lv' := [(3, .int (nI (((r + 1) ^ k) * (r + 1)))), (0, .ref (a 0)), (1, .int (nI r)), (2, .int (nI nv)), (4, .int (nI k))]) hx hb dX8_level_16 rfl hl (by decide) rfl (fun ls hl => ?_)
        refine lv_iinc (v := nI (k + 1)) (lv' := [(4, .int (nI (k + 1))), (3, .int (nI (((r + 1) ^ k) * (r + 1)))), (0, .ref (a 0)), (1, .int (nI r)), (2, .int (nI nv))]) hx hb dX8_level_17 hl (k := 4) rfl (gk_inc1 _) (by decide) rfl (fun ls hl => ?_)
        refine lv_goto (tgt := 5) hx hb dX8_level_20 (by decide) ?_
        exact ih5 (k + 1) _ _ _ _ ls (by exact congrArg nI (Nat.pow_succ _ _).symm) (by rfl) (by omega) (by omega) hP hD hS (lv_sub hl [2, 3, 4, 1, 0] rfl)
  exact L5 ((nv) + 1) 0 _ _ _ _ ls (by rfl) (by rfl) (by omega) (by omega) hP hD hS (lv_sub hl [2, 3, 4, 1, 0] rfl)
