set_option maxHeartbeats 4000000 in
set_option maxRecDepth 100000 in
theorem c_X6_sortOrder (l : Launch) (dC : Nat → ClassId) (dI : Nat → Nat → Nat) (cI : ClassId) (sz : Nat) (b : Nat → Nat) (n : Nat) (F T P V : Nat → Int32) (o kr : Nat → Nat) (hn : n ≤ 60) (ho : ∀ j, o j < 60) (hp : prm n o) : Met l yX6_sortOrder wsX6_sortOrder ({ frames := 1, cells := 0, slots := 0, locals := 22 } : Room) (va_Pc [.ref (b 1)] (fun U => U.heap.size = sz ∧ va_P (dC, dI) vwCl (sW cI b (nI n) F T P V (fun j => nI (o j)) (fun j => nI (kr j))) U.heap ∧ va_K (dC, dI) vwCl [(cI, .int)] U ∧ va_D (fun _ => True) (sW cI b (nI n) F T P V (fun j => nI (o j)) (fun j => nI (kr j))))) (va_Qv (fun u : (Nat → Nat) × (Nat → Nat) => (∀ j, u.1 j < 60) ∧ prm n u.1 ∧ srt F P n u.1 ∧ (∀ j, n ≤ j → u.1 j = o j) ∧ (∀ j, j < n → u.2 (u.1 j) = j)) (fun u t => va_P (dC, dI) vwCl (sW cI b (nI n) F T P V (fun j => nI (u.1 j)) (fun j => nI (u.2 j))) t.heap ∧ va_K (dC, dI) vwCl [(cI, .int)] t ∧ va_D (va_A (sW cI b (nI n) F T P V (fun j => nI (o j)) (fun j => nI (kr j))) sz) (sW cI b (nI n) F T P V (fun j => nI (u.1 j)) (fun j => nI (u.2 j)))) (va_A (sW cI b (nI n) F T P V (fun j => nI (o j)) (fun j => nI (kr j))) sz)) 0 0 (va_A (sW cI b (nI n) F T P V (fun j => nI (o j)) (fun j => nI (kr j))) sz) := by
  refine Met.ofW (cc := cX6_sortOrder) (maxL := 4) (ret := none) (by decide) rfl ?_
  intro p e s m args below meth c s₁ B hml hv
  obtain ⟨rfl, hsz, hP, hK, hD0⟩ := hv
  have hx := B.exec
  have hb := B.bytes
  have hr := B.returns
  have hts := atoms_spec (ws := wsX6_sortOrder) B.pre
  have hown : s.vm.findClass RX6 = some m.cls := findClass_of_methodNamed B.named
  have hlocks := B.notSynchronized
  subst hsz
  have hD := hD0.self (sz := s.heap.size)
  generalize hAe : va_A (sW cI b (nI n) F T P V (fun j => nI (o j)) (fun j => nI (kr j))) s.heap.size = A at hD ⊢
  have hA : ∀ q : Nat, s.heap.size ≤ q → A q := fun q h => by rw [← hAe]; exact Or.inr h
  have hS : va_S A s.heap s.heap [] := va_S.rf
  have i_X6 : ∀ w ∈ u_ws RX6 TX6 7, w ∈ wsX6_sortOrder := by decide +kernel
  have k_0 := hts (.fieldLink RX6 30 "VoiceRows$Score" "count" "I") (by decide +kernel)
  have k_1 := hts (.fieldLink RX6 27 "VoiceRows$Score" "rank" "[I") (by decide +kernel)
  have k_2 := hts (.fieldLink RX6 24 "VoiceRows$Score" "order" "[I") (by decide +kernel)
  have hl := lv_entry ([.ref (b 1)]) (n := 4) (Nat.le_of_ble_eq_true rfl)
  rw [lg_entry_eq]
  generalize (lg_sl ([.ref (b 1)]) ++ List.replicate (4 - (lg_sl ([.ref (b 1)])).length) Slot.unset).toArray = ls at hl ⊢
  have hl : lv_has ls 4 [(0, .ref (b 1))] := hl
  refine lv_iconst (v := 1) hx hb dX6_sortOrder_0 (by decide) ?_
  refine lv_istore_n (lv' := [(1, .int 1), (0, .ref (b 1))]) hx hb dX6_sortOrder_1 rfl hl (by decide) rfl (fun ls hl => ?_)
  have L2 : ∀ (fu : Nat) (i : Nat) (o1 : Nat → Nat) (x1 : Int32) (O1 : Nat → Int32) (H : Heap) (locs : List Loc) (ls : Array Slot), x1 = nI i → O1 = (fun j => nI (o1 j)) → 1 ≤ i → (i ≤ n ∨ i = 1) → (∀ j, o1 j < 60) → prm n o1 → srt F P i o1 → (∀ j, n ≤ j → o1 j = o j) → n + 1 - i < fu → va_P (dC, dI) vwCl [(b 1, .inr (6, [.int (nI n), .ref (b 2), .ref (b 3), .ref (b 4), .ref (b 5), .ref (b 6), .ref (b 7)])), (b 2, .inl (cI, 60, .inl F)), (b 3, .inl (cI, 60, .inl T)), (b 4, .inl (cI, 60, .inl P)), (b 5, .inl (cI, 60, .inl V)), (b 6, .inl (cI, 60, .inl O1)), (b 7, .inl (cI, 60, .inl (fun j => nI (kr j))))] H → va_D A [(b 1, .inr (6, [.int (nI n), .ref (b 2), .ref (b 3), .ref (b 4), .ref (b 5), .ref (b 6), .ref (b 7)])), (b 2, .inl (cI, 60, .inl F)), (b 3, .inl (cI, 60, .inl T)), (b 4, .inl (cI, 60, .inl P)), (b 5, .inl (cI, 60, .inl V)), (b 6, .inl (cI, 60, .inl O1)), (b 7, .inl (cI, 60, .inl (fun j => nI (kr j))))] → va_S A s.heap H locs → lv_has ls 4 [(0, .ref (b 1)), (1, .int x1)] → W p l e (headSpec wsX6_sortOrder ({ frames := 1, cells := 0, slots := 0, locals := 22 } : Room)).room s m [.ref (b 1)].toArray below meth c H locs 0 0 (MQ below (va_Qv (fun u : (Nat → Nat) × (Nat → Nat) => (∀ j, u.1 j < 60) ∧ prm n u.1 ∧ srt F P n u.1 ∧ (∀ j, n ≤ j → u.1 j = o j) ∧ (∀ j, j < n → u.2 (u.1 j) = j)) (fun u t => va_P (dC, dI) vwCl (sW cI b (nI n) F T P V (fun j => nI (u.1 j)) (fun j => nI (u.2 j))) t.heap ∧ va_K (dC, dI) vwCl [(cI, .int)] t ∧ va_D A (sW cI b (nI n) F T P V (fun j => nI (u.1 j)) (fun j => nI (u.2 j)))) A) [.ref (b 1)].toArray s 0 0 A) (F0 m 2 ls []) := by
    intro fu
    induction fu with
    | zero =>
      intro i o1 x1 O1 H locs ls e1 r_O1 hi1 hi2 ho1 hp1 hs1 hu1 hfu2 hP hD hS hl
      exact absurd hfu2 (Nat.not_lt_zero _)
    | succ fu ih2 =>
      intro i o1 x1 O1 H locs ls e1 r_O1 hi1 hi2 ho1 hp1 hs1 hu1 hfu2 hP hD hS hl
      subst e1
      subst r_O1
      refine lv_iload_n hx hb dX6_sortOrder_2 rfl (lv_at hl 1 rfl) ?_
      refine lv_aload_n hx hb dX6_sortOrder_3 rfl (lv_at hl 0 rfl) ?_
      refine va_get (D := (dC, dI)) (ci := 6) (v := .int (nI n)) (C := RX6) (T := TX6) (N := 7) hx hb hts i_X6 hown hK hP 0 rfl rfl 0 (by decide) k_0 (fun _ h9 => h9) rfl dX6_sortOrder_4 ?_
      refine lv_icmp_ge (tgt := 72) hx hb dX6_sortOrder_7 (by decide) (fun c_1 => ?_) (fun c_1 => ?_)
      · skip
        have c_1 : i ≥ n := gk_geT (a := i) (b := n) (by first | omega | exact Nat.lt_of_le_of_lt atN_le (by omega) | exact Nat.lt_of_le_of_lt szN_le (by omega) | exact Nat.lt_of_le_of_lt clM_le (by omega) | exact Nat.lt_of_le_of_lt rkN_le (by omega) | exact Nat.lt_of_le_of_lt (cnt_le _ _) (by omega)) (by first | omega | exact Nat.lt_of_le_of_lt atN_le (by omega) | exact Nat.lt_of_le_of_lt szN_le (by omega) | exact Nat.lt_of_le_of_lt clM_le (by omega) | exact Nat.lt_of_le_of_lt rkN_le (by omega) | exact Nat.lt_of_le_of_lt (cnt_le _ _) (by omega)) c_1
        refine lv_iconst (v := 0) hx hb dX6_sortOrder_72 (by decide) ?_
        refine lv_istore_n (lv' := [(1, .int 0), (0, .ref (b 1))]) hx hb dX6_sortOrder_73 rfl hl (by decide) rfl (fun ls hl => ?_)
        have L74 : ∀ (fu : Nat) (r : Nat) (k1 : Nat → Nat) (x1 : Int32) (K1 : Nat → Int32) (H : Heap) (locs : List Loc) (ls : Array Slot), x1 = nI r → K1 = (fun j => nI (k1 j)) → r ≤ n → (∀ j, j < r → k1 (o1 j) = j) → n - r < fu → va_P (dC, dI) vwCl [(b 1, .inr (6, [.int (nI n), .ref (b 2), .ref (b 3), .ref (b 4), .ref (b 5), .ref (b 6), .ref (b 7)])), (b 2, .inl (cI, 60, .inl F)), (b 3, .inl (cI, 60, .inl T)), (b 4, .inl (cI, 60, .inl P)), (b 5, .inl (cI, 60, .inl V)), (b 6, .inl (cI, 60, .inl (fun j => nI (o1 j)))), (b 7, .inl (cI, 60, .inl K1))] H → va_D A [(b 1, .inr (6, [.int (nI n), .ref (b 2), .ref (b 3), .ref (b 4), .ref (b 5), .ref (b 6), .ref (b 7)])), (b 2, .inl (cI, 60, .inl F)), (b 3, .inl (cI, 60, .inl T)), (b 4, .inl (cI, 60, .inl P)), (b 5, .inl (cI, 60, .inl V)), (b 6, .inl (cI, 60, .inl (fun j => nI (o1 j)))), (b 7, .inl (cI, 60, .inl K1))] → va_S A s.heap H locs → lv_has ls 4 [(0, .ref (b 1)), (1, .int x1)] → W p l e (headSpec wsX6_sortOrder ({ frames := 1, cells := 0, slots := 0, locals := 22 } : Room)).room s m [.ref (b 1)].toArray below meth c H locs 0 0 (MQ below (va_Qv (fun u : (Nat → Nat) × (Nat → Nat) => (∀ j, u.1 j < 60) ∧ prm n u.1 ∧ srt F P n u.1 ∧ (∀ j, n ≤ j → u.1 j = o j) ∧ (∀ j, j < n → u.2 (u.1 j) = j)) (fun u t => va_P (dC, dI) vwCl (sW cI b (nI n) F T P V (fun j => nI (u.1 j)) (fun j => nI (u.2 j))) t.heap ∧ va_K (dC, dI) vwCl [(cI, .int)] t ∧ va_D A (sW cI b (nI n) F T P V (fun j => nI (u.1 j)) (fun j => nI (u.2 j)))) A) [.ref (b 1)].toArray s 0 0 A) (F0 m 74 ls []) := by
          intro fu
          induction fu with
          | zero =>
            intro r k1 x1 K1 H locs ls e1 r_K1 hr3 hk3 hfu74 hP hD hS hl
            exact absurd hfu74 (Nat.not_lt_zero _)
          | succ fu ih74 =>
            intro r k1 x1 K1 H locs ls e1 r_K1 hr3 hk3 hfu74 hP hD hS hl
            subst e1
            subst r_K1
            refine lv_iload_n hx hb dX6_sortOrder_74 rfl (lv_at hl 1 rfl) ?_
            refine lv_aload_n hx hb dX6_sortOrder_75 rfl (lv_at hl 0 rfl) ?_
            refine va_get (D := (dC, dI)) (ci := 6) (v := .int (nI n)) (C := RX6) (T := TX6) (N := 7) hx hb hts i_X6 hown hK hP 0 rfl rfl 0 (by decide) k_0 (fun _ h9 => h9) rfl dX6_sortOrder_76 ?_
            refine lv_icmp_ge (tgt := 100) hx hb dX6_sortOrder_79 (by decide) (fun c_2 => ?_) (fun c_2 => ?_)
            · skip
              have c_2 : r ≥ n := gk_geT (a := r) (b := n) (by first | omega | exact Nat.lt_of_le_of_lt atN_le (by omega) | exact Nat.lt_of_le_of_lt szN_le (by omega) | exact Nat.lt_of_le_of_lt clM_le (by omega) | exact Nat.lt_of_le_of_lt rkN_le (by omega) | exact Nat.lt_of_le_of_lt (cnt_le _ _) (by omega)) (by first | omega | exact Nat.lt_of_le_of_lt atN_le (by omega) | exact Nat.lt_of_le_of_lt szN_le (by omega) | exact Nat.lt_of_le_of_lt clM_le (by omega) | exact Nat.lt_of_le_of_lt rkN_le (by omega) | exact Nat.lt_of_le_of_lt (cnt_le _ _) (by omega)) c_2
              exact W.vret hx hb hr (fun t ht hW => ⟨⟨(o1, k1), rfl, (by exact ⟨ho1, hp1, srt_le hs1 (by omega), hu1, fun j hj => hk3 j (by omega)⟩), by rw [ht]; exact hP, va_K.moved hW.alike hK, hD⟩, hS.F ht⟩) hS.2.2 dX6_sortOrder_100
            · skip
              have c_2 : r < n := gk_geF (a := r) (b := n) (by first | omega | exact Nat.lt_of_le_of_lt atN_le (by omega) | exact Nat.lt_of_le_of_lt szN_le (by omega) | exact Nat.lt_of_le_of_lt clM_le (by omega) | exact Nat.lt_of_le_of_lt rkN_le (by omega) | exact Nat.lt_of_le_of_lt (cnt_le _ _) (by omega)) (by first | omega | exact Nat.lt_of_le_of_lt atN_le (by omega) | exact Nat.lt_of_le_of_lt szN_le (by omega) | exact Nat.lt_of_le_of_lt clM_le (by omega) | exact Nat.lt_of_le_of_lt rkN_le (by omega) | exact Nat.lt_of_le_of_lt (cnt_le _ _) (by omega)) c_2
              refine lv_aload_n hx hb dX6_sortOrder_82 rfl (lv_at hl 0 rfl) ?_
              refine va_get (D := (dC, dI)) (ci := 6) (v := .ref (b 7)) (C := RX6) (T := TX6) (N := 7) hx hb hts i_X6 hown hK hP 0 rfl rfl 6 (by decide) k_1 (fun _ h9 => h9) rfl dX6_sortOrder_83 ?_
              refine lv_aload_n hx hb dX6_sortOrder_86 rfl (lv_at hl 0 rfl) ?_
              refine va_get (D := (dC, dI)) (ci := 6) (v := .ref (b 6)) (C := RX6) (T := TX6) (N := 7) hx hb hts i_X6 hown hK hP 0 rfl rfl 5 (by decide) k_2 (fun _ h9 => h9) rfl dX6_sortOrder_87 ?_
              refine lv_iload_n hx hb dX6_sortOrder_90 rfl (lv_at hl 1 rfl) ?_
              refine gk_ld hx hb hK hP 5 0 rfl rfl r (by omega) (by omega) (v := nI (o1 r)) (rfl) dX6_sortOrder_91 ?_
              refine lv_iload_n hx hb dX6_sortOrder_92 rfl (lv_at hl 1 rfl) ?_
              refine gk_st hx hb hK hP hD hS 6 0 rfl rfl (o1 r) (ho1 _) (by omega) dX6_sortOrder_93 (fun H locs hP hD hS => ?_)
              have hP : va_P (dC, dI) vwCl [(b 1, .inr (6, [.int (nI n), .ref (b 2), .ref (b 3), .ref (b 4), .ref (b 5), .ref (b 6), .ref (b 7)])), (b 2, .inl (cI, 60, .inl F)), (b 3, .inl (cI, 60, .inl T)), (b 4, .inl (cI, 60, .inl P)), (b 5, .inl (cI, 60, .inl V)), (b 6, .inl (cI, 60, .inl (fun j => nI (o1 j)))), (b 7, .inl (cI, 60, .inl (upd (fun j => nI (k1 j)) (o1 r) (nI r))))] H := hP
              have hD : va_D A [(b 1, .inr (6, [.int (nI n), .ref (b 2), .ref (b 3), .ref (b 4), .ref (b 5), .ref (b 6), .ref (b 7)])), (b 2, .inl (cI, 60, .inl F)), (b 3, .inl (cI, 60, .inl T)), (b 4, .inl (cI, 60, .inl P)), (b 5, .inl (cI, 60, .inl V)), (b 6, .inl (cI, 60, .inl (fun j => nI (o1 j)))), (b 7, .inl (cI, 60, .inl (upd (fun j => nI (k1 j)) (o1 r) (nI r))))] := hD
              have eR : upd (fun j => nI (k1 j)) (o1 r) (nI r) = (fun j => nI (updN k1 (o1 r) r j)) := upd_nI
              rw [eR] at hP hD
              have hP : va_P (dC, dI) vwCl [(b 1, .inr (6, [.int (nI n), .ref (b 2), .ref (b 3), .ref (b 4), .ref (b 5), .ref (b 6), .ref (b 7)])), (b 2, .inl (cI, 60, .inl F)), (b 3, .inl (cI, 60, .inl T)), (b 4, .inl (cI, 60, .inl P)), (b 5, .inl (cI, 60, .inl V)), (b 6, .inl (cI, 60, .inl (fun j => nI (o1 j)))), (b 7, .inl (cI, 60, .inl (fun j => nI (updN k1 (o1 r) r j))))] H := hP
              have hD : va_D A [(b 1, .inr (6, [.int (nI n), .ref (b 2), .ref (b 3), .ref (b 4), .ref (b 5), .ref (b 6), .ref (b 7)])), (b 2, .inl (cI, 60, .inl F)), (b 3, .inl (cI, 60, .inl T)), (b 4, .inl (cI, 60, .inl P)), (b 5, .inl (cI, 60, .inl V)), (b 6, .inl (cI, 60, .inl (fun j => nI (o1 j)))), (b 7, .inl (cI, 60, .inl (fun j => nI (updN k1 (o1 r) r j))))] := hD
              refine lv_iinc (v := nI (r + 1)) (lv' := [(1, .int (nI (r + 1))), (0, .ref (b 1))]) hx hb dX6_sortOrder_94 hl (k := 1) rfl (gk_inc1 _) (by decide) rfl (fun ls hl => ?_)
              refine lv_goto (tgt := 74) hx hb dX6_sortOrder_97 (by decide) ?_
              exact ih74 (r + 1) (updN k1 (o1 r) r) _ _ _ _ ls (by rfl) (by rfl) (by omega) (by first | exact fun j hj => absurd hj (Nat.not_lt_zero j) | exact kof_step hp1 (by omega) hk3) (by omega) hP hD hS (lv_sub hl [1, 0] rfl)
        exact L74 ((n) + 1) 0 kr _ _ _ _ ls (by rfl) (by rfl) (by omega) (by first | exact fun j hj => absurd hj (Nat.not_lt_zero j) | exact kof_step hp1 (by omega) hk3) (by omega) hP hD hS (lv_sub hl [1, 0] rfl)
      · skip
        have c_1 : i < n := gk_geF (a := i) (b := n) (by first | omega | exact Nat.lt_of_le_of_lt atN_le (by omega) | exact Nat.lt_of_le_of_lt szN_le (by omega) | exact Nat.lt_of_le_of_lt clM_le (by omega) | exact Nat.lt_of_le_of_lt rkN_le (by omega) | exact Nat.lt_of_le_of_lt (cnt_le _ _) (by omega)) (by first | omega | exact Nat.lt_of_le_of_lt atN_le (by omega) | exact Nat.lt_of_le_of_lt szN_le (by omega) | exact Nat.lt_of_le_of_lt clM_le (by omega) | exact Nat.lt_of_le_of_lt rkN_le (by omega) | exact Nat.lt_of_le_of_lt (cnt_le _ _) (by omega)) c_1
        refine lv_aload_n hx hb dX6_sortOrder_10 rfl (lv_at hl 0 rfl) ?_
        refine va_get (D := (dC, dI)) (ci := 6) (v := .ref (b 6)) (C := RX6) (T := TX6) (N := 7) hx hb hts i_X6 hown hK hP 0 rfl rfl 5 (by decide) k_2 (fun _ h9 => h9) rfl dX6_sortOrder_11 ?_
        refine lv_iload_n hx hb dX6_sortOrder_14 rfl (lv_at hl 1 rfl) ?_
        refine gk_ld hx hb hK hP 5 0 rfl rfl i (by omega) (by omega) (v := nI (o1 i)) (rfl) dX6_sortOrder_15 ?_
        refine lv_istore_n (lv' := [(2, .int (nI (o1 i))), (0, .ref (b 1)), (1, .int (nI i))]) hx hb dX6_sortOrder_16 rfl hl (by decide) rfl (fun ls hl => ?_)
        refine lv_iload_n hx hb dX6_sortOrder_17 rfl (lv_at hl 2 rfl) ?_
        refine lv_istore_n (lv' := [(3, .int (nI i)), (2, .int (nI (o1 i))), (0, .ref (b 1)), (1, .int (nI i))]) hx hb dX6_sortOrder_18 rfl hl (by decide) rfl (fun ls hl => ?_)
        have L19 : ∀ (fu : Nat) (f : Nat) (o2 : Nat → Nat) (x3 : Int32) (O2 : Nat → Int32) (H : Heap) (locs : List Loc) (ls : Array Slot), x3 = nI f → O2 = (fun j => nI (o2 j)) → f ≤ i → (∀ j, o2 j < 60) → prm n (updN o2 f (o1 i)) → isv F P i o2 f (o1 i) → (∀ j, n ≤ j → o2 j = o j) → f < fu → va_P (dC, dI) vwCl [(b 1, .inr (6, [.int (nI n), .ref (b 2), .ref (b 3), .ref (b 4), .ref (b 5), .ref (b 6), .ref (b 7)])), (b 2, .inl (cI, 60, .inl F)), (b 3, .inl (cI, 60, .inl T)), (b 4, .inl (cI, 60, .inl P)), (b 5, .inl (cI, 60, .inl V)), (b 6, .inl (cI, 60, .inl O2)), (b 7, .inl (cI, 60, .inl (fun j => nI (kr j))))] H → va_D A [(b 1, .inr (6, [.int (nI n), .ref (b 2), .ref (b 3), .ref (b 4), .ref (b 5), .ref (b 6), .ref (b 7)])), (b 2, .inl (cI, 60, .inl F)), (b 3, .inl (cI, 60, .inl T)), (b 4, .inl (cI, 60, .inl P)), (b 5, .inl (cI, 60, .inl V)), (b 6, .inl (cI, 60, .inl O2)), (b 7, .inl (cI, 60, .inl (fun j => nI (kr j))))] → va_S A s.heap H locs → lv_has ls 4 [(0, .ref (b 1)), (1, .int (nI i)), (2, .int (nI (o1 i))), (3, .int x3)] → W p l e (headSpec wsX6_sortOrder ({ frames := 1, cells := 0, slots := 0, locals := 22 } : Room)).room s m [.ref (b 1)].toArray below meth c H locs 0 0 (MQ below (va_Qv (fun u : (Nat → Nat) × (Nat → Nat) => (∀ j, u.1 j < 60) ∧ prm n u.1 ∧ srt F P n u.1 ∧ (∀ j, n ≤ j → u.1 j = o j) ∧ (∀ j, j < n → u.2 (u.1 j) = j)) (fun u t => va_P (dC, dI) vwCl (sW cI b (nI n) F T P V (fun j => nI (u.1 j)) (fun j => nI (u.2 j))) t.heap ∧ va_K (dC, dI) vwCl [(cI, .int)] t ∧ va_D A (sW cI b (nI n) F T P V (fun j => nI (u.1 j)) (fun j => nI (u.2 j)))) A) [.ref (b 1)].toArray s 0 0 A) (F0 m 19 ls []) := by
          intro fu
          induction fu with
          | zero =>
            intro f o2 x3 O2 H locs ls e3 r_O2 hf2 ho2 hp2 hv2 hu2 hfu19 hP hD hS hl
            exact absurd hfu19 (Nat.not_lt_zero _)
          | succ fu ih19 =>
            intro f o2 x3 O2 H locs ls e3 r_O2 hf2 ho2 hp2 hv2 hu2 hfu19 hP hD hS hl
            subst e3
            subst r_O2
            refine lv_iload_n hx hb dX6_sortOrder_19 rfl (lv_at hl 3 rfl) ?_
            refine lv_if_le (tgt := 59) hx hb dX6_sortOrder_20 (by decide) (fun c_3 => ?_) (fun c_3 => ?_)
            · skip
              have c_3 : f ≤ 0 := gk_leT (a := f) (b := 0) (by first | omega | exact Nat.lt_of_le_of_lt atN_le (by omega) | exact Nat.lt_of_le_of_lt szN_le (by omega) | exact Nat.lt_of_le_of_lt clM_le (by omega) | exact Nat.lt_of_le_of_lt rkN_le (by omega) | exact Nat.lt_of_le_of_lt (cnt_le _ _) (by omega)) (by first | omega | exact Nat.lt_of_le_of_lt atN_le (by omega) | exact Nat.lt_of_le_of_lt szN_le (by omega) | exact Nat.lt_of_le_of_lt clM_le (by omega) | exact Nat.lt_of_le_of_lt rkN_le (by omega) | exact Nat.lt_of_le_of_lt (cnt_le _ _) (by omega)) c_3
              refine lv_aload_n hx hb dX6_sortOrder_59 rfl (lv_at hl 0 rfl) ?_
              refine va_get (D := (dC, dI)) (ci := 6) (v := .ref (b 6)) (C := RX6) (T := TX6) (N := 7) hx hb hts i_X6 hown hK hP 0 rfl rfl 5 (by decide) k_2 (fun _ h9 => h9) rfl dX6_sortOrder_60 ?_
              refine lv_iload_n hx hb dX6_sortOrder_63 rfl (lv_at hl 3 rfl) ?_
              refine lv_iload_n hx hb dX6_sortOrder_64 rfl (lv_at hl 2 rfl) ?_
              refine gk_st hx hb hK hP hD hS 5 0 rfl rfl f (by omega) (by omega) dX6_sortOrder_65 (fun H locs hP hD hS => ?_)
              have hP : va_P (dC, dI) vwCl [(b 1, .inr (6, [.int (nI n), .ref (b 2), .ref (b 3), .ref (b 4), .ref (b 5), .ref (b 6), .ref (b 7)])), (b 2, .inl (cI, 60, .inl F)), (b 3, .inl (cI, 60, .inl T)), (b 4, .inl (cI, 60, .inl P)), (b 5, .inl (cI, 60, .inl V)), (b 6, .inl (cI, 60, .inl (upd (fun j => nI (o2 j)) f (nI (o1 i))))), (b 7, .inl (cI, 60, .inl (fun j => nI (kr j))))] H := hP
              have hD : va_D A [(b 1, .inr (6, [.int (nI n), .ref (b 2), .ref (b 3), .ref (b 4), .ref (b 5), .ref (b 6), .ref (b 7)])), (b 2, .inl (cI, 60, .inl F)), (b 3, .inl (cI, 60, .inl T)), (b 4, .inl (cI, 60, .inl P)), (b 5, .inl (cI, 60, .inl V)), (b 6, .inl (cI, 60, .inl (upd (fun j => nI (o2 j)) f (nI (o1 i))))), (b 7, .inl (cI, 60, .inl (fun j => nI (kr j))))] := hD
              have eR : upd (fun j => nI (o2 j)) f (nI (o1 i)) = (fun j => nI (updN o2 f (o1 i) j)) := upd_nI
              rw [eR] at hP hD
              have hP : va_P (dC, dI) vwCl [(b 1, .inr (6, [.int (nI n), .ref (b 2), .ref (b 3), .ref (b 4), .ref (b 5), .ref (b 6), .ref (b 7)])), (b 2, .inl (cI, 60, .inl F)), (b 3, .inl (cI, 60, .inl T)), (b 4, .inl (cI, 60, .inl P)), (b 5, .inl (cI, 60, .inl V)), (b 6, .inl (cI, 60, .inl (fun j => nI (updN o2 f (o1 i) j)))), (b 7, .inl (cI, 60, .inl (fun j => nI (kr j))))] H := hP
              have hD : va_D A [(b 1, .inr (6, [.int (nI n), .ref (b 2), .ref (b 3), .ref (b 4), .ref (b 5), .ref (b 6), .ref (b 7)])), (b 2, .inl (cI, 60, .inl F)), (b 3, .inl (cI, 60, .inl T)), (b 4, .inl (cI, 60, .inl P)), (b 5, .inl (cI, 60, .inl V)), (b 6, .inl (cI, 60, .inl (fun j => nI (updN o2 f (o1 i) j)))), (b 7, .inl (cI, 60, .inl (fun j => nI (kr j))))] := hD
              refine lv_iinc (v := nI (i + 1)) (lv' := [(1, .int (nI (i + 1))), (0, .ref (b 1)), (2, .int (nI (o1 i))), (3, .int (nI f))]) hx hb dX6_sortOrder_66 hl (k := 1) rfl (gk_inc1 _) (by decide) rfl (fun ls hl => ?_)
              refine lv_goto (tgt := 2) hx hb dX6_sortOrder_69 (by decide) ?_
              exact ih2 (i + 1) (updN o2 f (o1 i)) _ _ _ _ ls (by rfl) (by rfl) (by omega) (by omega) (by first | exact ho | exact updN_lt ho2 (ho1 _)) (by first | exact hp | exact hp2) (by first | exact srt_one | exact isv_done hv2 hp2 (by omega) (by omega) (by first | exact Or.inr (by assumption) | exact Or.inl (by omega))) (by first | exact fun _ _ => rfl | exact updN_ge hu2 (by omega)) (by omega) hP hD hS (lv_sub hl [1, 0] rfl)
            · skip
              have c_3 : f > 0 := gk_leF (a := f) (b := 0) (by first | omega | exact Nat.lt_of_le_of_lt atN_le (by omega) | exact Nat.lt_of_le_of_lt szN_le (by omega) | exact Nat.lt_of_le_of_lt clM_le (by omega) | exact Nat.lt_of_le_of_lt rkN_le (by omega) | exact Nat.lt_of_le_of_lt (cnt_le _ _) (by omega)) (by first | omega | exact Nat.lt_of_le_of_lt atN_le (by omega) | exact Nat.lt_of_le_of_lt szN_le (by omega) | exact Nat.lt_of_le_of_lt clM_le (by omega) | exact Nat.lt_of_le_of_lt rkN_le (by omega) | exact Nat.lt_of_le_of_lt (cnt_le _ _) (by omega)) c_3
              refine lv_aload_n hx hb dX6_sortOrder_23 rfl (lv_at hl 0 rfl) ?_
              refine lv_iload_n hx hb dX6_sortOrder_24 rfl (lv_at hl 2 rfl) ?_
              refine lv_aload_n hx hb dX6_sortOrder_25 rfl (lv_at hl 0 rfl) ?_
              refine va_get (D := (dC, dI)) (ci := 6) (v := .ref (b 6)) (C := RX6) (T := TX6) (N := 7) hx hb hts i_X6 hown hK hP 0 rfl rfl 5 (by decide) k_2 (fun _ h9 => h9) rfl dX6_sortOrder_26 ?_
              refine lv_iload_n hx hb dX6_sortOrder_29 rfl (lv_at hl 3 rfl) ?_
              refine lv_iconst (v := 1) hx hb dX6_sortOrder_30 (by decide) ?_
              refine lv_isub hx hb dX6_sortOrder_31 ?_
              refine gk_top (y := nI (f - 1)) (pk_sub (a := f) (b := 1) (by omega)) ?_
              refine gk_ld hx hb hK hP 5 0 rfl rfl (f - 1) (by omega) (by omega) (v := nI (o2 (f - 1))) (rfl) dX6_sortOrder_32 ?_
              refine vp_callSi (gk_run (va_runV (As := [.int (nI (o1 i)), .int (nI (o2 (f - 1)))]) (rest := []) ⟨hx, hb, hml, hown, hts⟩ (c_X6_isBefore l dC dI cI b n F T P V (fun j => nI (o2 j)) (fun j => nI (kr j)) hn (o1 i) (o2 (f - 1)) (ho1 _) (ho2 _)) (cwV 2 hts gX6_sortOrder_X6_isBefore rfl rfl rfl (by decide +kernel) ⟨Nat.le_of_ble_eq_true rfl, Nat.le_of_ble_eq_true rfl⟩) ⟨gk_fb, va_recv hK hP (ci := 6) (q0 := 0) rfl rfl, fun U hU hW => ⟨rfl, by rw [hU]; exact hP, va_K.moved hW.alike hK⟩⟩ rfl rfl hl.1 rfl (lv_room (Nat.le_of_ble_eq_true rfl)) dX6_sortOrder_33 ⟨Nat.zero_le _, Nat.zero_le _⟩)) (fun r_4 er_4 => ?_)
              subst er_4
              refine lv_if_eq (tgt := 59) hx hb dX6_sortOrder_36 (by decide) (fun c_5 => ?_) (fun c_5 => ?_)
              · skip
                have c_5 : (ahd F P (o1 i) (o2 (f - 1))) = false := b2i_0.mp c_5
                refine lv_aload_n hx hb dX6_sortOrder_59 rfl (lv_at hl 0 rfl) ?_
                refine va_get (D := (dC, dI)) (ci := 6) (v := .ref (b 6)) (C := RX6) (T := TX6) (N := 7) hx hb hts i_X6 hown hK hP 0 rfl rfl 5 (by decide) k_2 (fun _ h9 => h9) rfl dX6_sortOrder_60 ?_
                refine lv_iload_n hx hb dX6_sortOrder_63 rfl (lv_at hl 3 rfl) ?_
                refine lv_iload_n hx hb dX6_sortOrder_64 rfl (lv_at hl 2 rfl) ?_
                refine gk_st hx hb hK hP hD hS 5 0 rfl rfl f (by omega) (by omega) dX6_sortOrder_65 (fun H locs hP hD hS => ?_)
                have hP : va_P (dC, dI) vwCl [(b 1, .inr (6, [.int (nI n), .ref (b 2), .ref (b 3), .ref (b 4), .ref (b 5), .ref (b 6), .ref (b 7)])), (b 2, .inl (cI, 60, .inl F)), (b 3, .inl (cI, 60, .inl T)), (b 4, .inl (cI, 60, .inl P)), (b 5, .inl (cI, 60, .inl V)), (b 6, .inl (cI, 60, .inl (upd (fun j => nI (o2 j)) f (nI (o1 i))))), (b 7, .inl (cI, 60, .inl (fun j => nI (kr j))))] H := hP
                have hD : va_D A [(b 1, .inr (6, [.int (nI n), .ref (b 2), .ref (b 3), .ref (b 4), .ref (b 5), .ref (b 6), .ref (b 7)])), (b 2, .inl (cI, 60, .inl F)), (b 3, .inl (cI, 60, .inl T)), (b 4, .inl (cI, 60, .inl P)), (b 5, .inl (cI, 60, .inl V)), (b 6, .inl (cI, 60, .inl (upd (fun j => nI (o2 j)) f (nI (o1 i))))), (b 7, .inl (cI, 60, .inl (fun j => nI (kr j))))] := hD
                have eR : upd (fun j => nI (o2 j)) f (nI (o1 i)) = (fun j => nI (updN o2 f (o1 i) j)) := upd_nI
                rw [eR] at hP hD
                have hP : va_P (dC, dI) vwCl [(b 1, .inr (6, [.int (nI n), .ref (b 2), .ref (b 3), .ref (b 4), .ref (b 5), .ref (b 6), .ref (b 7)])), (b 2, .inl (cI, 60, .inl F)), (b 3, .inl (cI, 60, .inl T)), (b 4, .inl (cI, 60, .inl P)), (b 5, .inl (cI, 60, .inl V)), (b 6, .inl (cI, 60, .inl (fun j => nI (updN o2 f (o1 i) j)))), (b 7, .inl (cI, 60, .inl (fun j => nI (kr j))))] H := hP
                have hD : va_D A [(b 1, .inr (6, [.int (nI n), .ref (b 2), .ref (b 3), .ref (b 4), .ref (b 5), .ref (b 6), .ref (b 7)])), (b 2, .inl (cI, 60, .inl F)), (b 3, .inl (cI, 60, .inl T)), (b 4, .inl (cI, 60, .inl P)), (b 5, .inl (cI, 60, .inl V)), (b 6, .inl (cI, 60, .inl (fun j => nI (updN o2 f (o1 i) j)))), (b 7, .inl (cI, 60, .inl (fun j => nI (kr j))))] := hD
                refine lv_iinc (v := nI (i + 1)) (lv' := [(1, .int (nI (i + 1))), (0, .ref (b 1)), (2, .int (nI (o1 i))), (3, .int (nI f))]) hx hb dX6_sortOrder_66 hl (k := 1) rfl (gk_inc1 _) (by decide) rfl (fun ls hl => ?_)
                refine lv_goto (tgt := 2) hx hb dX6_sortOrder_69 (by decide) ?_
                exact ih2 (i + 1) (updN o2 f (o1 i)) _ _ _ _ ls (by rfl) (by rfl) (by omega) (by omega) (by first | exact ho | exact updN_lt ho2 (ho1 _)) (by first | exact hp | exact hp2) (by first | exact srt_one | exact isv_done hv2 hp2 (by omega) (by omega) (by first | exact Or.inr (by assumption) | exact Or.inl (by omega))) (by first | exact fun _ _ => rfl | exact updN_ge hu2 (by omega)) (by omega) hP hD hS (lv_sub hl [1, 0] rfl)
              · skip
                have c_5 : (ahd F P (o1 i) (o2 (f - 1))) = true := b2i_1.mp c_5
                refine lv_aload_n hx hb dX6_sortOrder_39 rfl (lv_at hl 0 rfl) ?_
                refine va_get (D := (dC, dI)) (ci := 6) (v := .ref (b 6)) (C := RX6) (T := TX6) (N := 7) hx hb hts i_X6 hown hK hP 0 rfl rfl 5 (by decide) k_2 (fun _ h9 => h9) rfl dX6_sortOrder_40 ?_
                refine lv_iload_n hx hb dX6_sortOrder_43 rfl (lv_at hl 3 rfl) ?_
                refine lv_aload_n hx hb dX6_sortOrder_44 rfl (lv_at hl 0 rfl) ?_
                refine va_get (D := (dC, dI)) (ci := 6) (v := .ref (b 6)) (C := RX6) (T := TX6) (N := 7) hx hb hts i_X6 hown hK hP 0 rfl rfl 5 (by decide) k_2 (fun _ h9 => h9) rfl dX6_sortOrder_45 ?_
                refine lv_iload_n hx hb dX6_sortOrder_48 rfl (lv_at hl 3 rfl) ?_
                refine lv_iconst (v := 1) hx hb dX6_sortOrder_49 (by decide) ?_
                refine lv_isub hx hb dX6_sortOrder_50 ?_
                refine gk_top (y := nI (f - 1)) (pk_sub (a := f) (b := 1) (by omega)) ?_
                refine gk_ld hx hb hK hP 5 0 rfl rfl (f - 1) (by omega) (by omega) (v := nI (o2 (f - 1))) (rfl) dX6_sortOrder_51 ?_
                refine gk_st hx hb hK hP hD hS 5 0 rfl rfl f (by omega) (by omega) dX6_sortOrder_52 (fun H locs hP hD hS => ?_)
                have hP : va_P (dC, dI) vwCl [(b 1, .inr (6, [.int (nI n), .ref (b 2), .ref (b 3), .ref (b 4), .ref (b 5), .ref (b 6), .ref (b 7)])), (b 2, .inl (cI, 60, .inl F)), (b 3, .inl (cI, 60, .inl T)), (b 4, .inl (cI, 60, .inl P)), (b 5, .inl (cI, 60, .inl V)), (b 6, .inl (cI, 60, .inl (upd (fun j => nI (o2 j)) f (nI (o2 (f - 1)))))), (b 7, .inl (cI, 60, .inl (fun j => nI (kr j))))] H := hP
                have hD : va_D A [(b 1, .inr (6, [.int (nI n), .ref (b 2), .ref (b 3), .ref (b 4), .ref (b 5), .ref (b 6), .ref (b 7)])), (b 2, .inl (cI, 60, .inl F)), (b 3, .inl (cI, 60, .inl T)), (b 4, .inl (cI, 60, .inl P)), (b 5, .inl (cI, 60, .inl V)), (b 6, .inl (cI, 60, .inl (upd (fun j => nI (o2 j)) f (nI (o2 (f - 1)))))), (b 7, .inl (cI, 60, .inl (fun j => nI (kr j))))] := hD
                have eR : upd (fun j => nI (o2 j)) f (nI (o2 (f - 1))) = (fun j => nI (updN o2 f (o2 (f - 1)) j)) := upd_nI
                rw [eR] at hP hD
                have hP : va_P (dC, dI) vwCl [(b 1, .inr (6, [.int (nI n), .ref (b 2), .ref (b 3), .ref (b 4), .ref (b 5), .ref (b 6), .ref (b 7)])), (b 2, .inl (cI, 60, .inl F)), (b 3, .inl (cI, 60, .inl T)), (b 4, .inl (cI, 60, .inl P)), (b 5, .inl (cI, 60, .inl V)), (b 6, .inl (cI, 60, .inl (fun j => nI (updN o2 f (o2 (f - 1)) j)))), (b 7, .inl (cI, 60, .inl (fun j => nI (kr j))))] H := hP
                have hD : va_D A [(b 1, .inr (6, [.int (nI n), .ref (b 2), .ref (b 3), .ref (b 4), .ref (b 5), .ref (b 6), .ref (b 7)])), (b 2, .inl (cI, 60, .inl F)), (b 3, .inl (cI, 60, .inl T)), (b 4, .inl (cI, 60, .inl P)), (b 5, .inl (cI, 60, .inl V)), (b 6, .inl (cI, 60, .inl (fun j => nI (updN o2 f (o2 (f - 1)) j)))), (b 7, .inl (cI, 60, .inl (fun j => nI (kr j))))] := hD
                refine lv_iinc (v := nI (f - 1)) (lv' := [(3, .int (nI (f - 1))), (0, .ref (b 1)), (1, .int (nI i)), (2, .int (nI (o1 i)))]) hx hb dX6_sortOrder_53 hl (k := 3) rfl (gk_dec (by omega)) (by decide) rfl (fun ls hl => ?_)
                refine lv_goto (tgt := 19) hx hb dX6_sortOrder_56 (by decide) ?_
                exact ih19 (f - 1) (updN o2 f (o2 (f - 1))) _ _ _ _ ls (by rfl) (by rfl) (by omega) (by first | exact ho1 | exact updN_lt ho2 (ho2 _)) (by first | (rw [updN_self]; exact hp1) | exact prm_step (by omega) (by omega) hp2) (by first | exact isv_init hs1 | exact isv_step' hv2 (by omega) (by omega) (by assumption)) (by first | exact hu1 | exact updN_ge hu2 (by omega)) (by omega) hP hD hS (lv_sub hl [1, 2, 3, 0] rfl)
        exact L19 ((i) + 1) i o1 _ _ _ _ ls (by rfl) (by rfl) (by omega) (by first | exact ho1 | exact updN_lt ho2 (ho2 _)) (by first | (rw [updN_self]; exact hp1) | exact prm_step (by omega) (by omega) hp2) (by first | exact isv_init hs1 | exact isv_step' hv2 (by omega) (by omega) (by assumption)) (by first | exact hu1 | exact updN_ge hu2 (by omega)) (by omega) hP hD hS (lv_sub hl [2, 3, 1, 0] rfl)
  exact L2 ((n + 1) + 1) 1 o _ _ _ _ ls (by rfl) (by rfl) (by omega) (by omega) (by first | exact ho | exact updN_lt ho2 (ho1 _)) (by first | exact hp | exact hp2) (by first | exact srt_one | exact isv_done hv2 hp2 (by omega) (by omega) (by first | exact Or.inr (by assumption) | exact Or.inl (by omega))) (by first | exact fun _ _ => rfl | exact updN_ge hu2 (by omega)) (by omega) hP hD hS (lv_sub hl [1, 0] rfl)

set_option maxHeartbeats 4000000 in
set_option maxRecDepth 100000 in
theorem c_X8_sort (l : Launch) (dC : Nat → ClassId) (dI : Nat → Nat → Nat) (cI : ClassId) (sz : Nat) (a : Nat → Nat) (n : Nat) (F T P V Wt : Nat → Int32) (o : Nat → Nat) (G L R : Nat → Int32) (hn : n ≤ 60) (ho : ∀ j, o j < 60)  : Met l yX8_sort wsX8_sort ({ frames := 2, cells := 0, slots := 0, locals := 45 } : Room) (va_Pc [.ref (a 0)] (fun U => U.heap.size = sz ∧ va_P (dC, dI) vwCl (mW cI a (nI n) F T P V Wt (fun j => nI (o j)) G L R) U.heap ∧ va_K (dC, dI) vwCl [(cI, .int)] U ∧ va_D (fun _ => True) (mW cI a (nI n) F T P V Wt (fun j => nI (o j)) G L R))) (va_Qv (fun u : Nat → Nat => (∀ j, u j < 60) ∧ (∀ j, j < n → u (rkN F P n j) = j) ∧ (∀ j, n ≤ j → u j = o j)) (fun u t => va_P (dC, dI) vwCl (mW cI a (nI n) F T P V Wt (fun j => nI (u j)) G L R) t.heap ∧ va_K (dC, dI) vwCl [(cI, .int)] t ∧ va_D (va_A (mW cI a (nI n) F T P V Wt (fun j => nI (o j)) G L R) sz) (mW cI a (nI n) F T P V Wt (fun j => nI (u j)) G L R)) (va_A (mW cI a (nI n) F T P V Wt (fun j => nI (o j)) G L R) sz)) 0 0 (va_A (mW cI a (nI n) F T P V Wt (fun j => nI (o j)) G L R) sz) := by
  refine Met.ofW (cc := cX8_sort) (maxL := 2) (ret := none) (by decide) rfl ?_
  intro p e s m args below meth c s₁ B hml hv
  obtain ⟨rfl, hsz, hP, hK, hD0⟩ := hv
  have hx := B.exec
  have hb := B.bytes
  have hr := B.returns
  have hts := atoms_spec (ws := wsX8_sort) B.pre
  have hown : s.vm.findClass RX8 = some m.cls := findClass_of_methodNamed B.named
  have hlocks := B.notSynchronized
  subst hsz
  have hD := hD0.self (sz := s.heap.size)
  generalize hAe : va_A (mW cI a (nI n) F T P V Wt (fun j => nI (o j)) G L R) s.heap.size = A at hD ⊢
  have hA : ∀ q : Nat, s.heap.size ≤ q → A q := fun q h => by rw [← hAe]; exact Or.inr h
  have hS : va_S A s.heap s.heap [] := va_S.rf
  have i_X8 : ∀ w ∈ u_ws RX8 TX8 10, w ∈ wsX8_sort := by decide +kernel
  have k_0 := hts (.fieldLink RX8 38 "VoiceRowsModel" "notes" "I") (by decide +kernel)
  have k_1 := hts (.fieldLink RX8 25 "VoiceRowsModel" "order" "[I") (by decide +kernel)
  have hl := lv_entry ([.ref (a 0)]) (n := 2) (Nat.le_of_ble_eq_true rfl)
  rw [lg_entry_eq]
  generalize (lg_sl ([.ref (a 0)]) ++ List.replicate (2 - (lg_sl ([.ref (a 0)])).length) Slot.unset).toArray = ls at hl ⊢
  have hl : lv_has ls 2 [(0, .ref (a 0))] := hl
  refine lv_iconst (v := 0) hx hb dX8_sort_0 (by decide) ?_
  refine lv_istore_n (lv' := [(1, .int 0), (0, .ref (a 0))]) hx hb dX8_sort_1 rfl hl (by decide) rfl (fun ls hl => ?_)
  have L2 : ∀ (fu : Nat) (k : Nat) (o1 : Nat → Nat) (x1 : Int32) (O1 : Nat → Int32) (H : Heap) (locs : List Loc) (ls : Array Slot), x1 = nI k → O1 = (fun j => nI (o1 j)) → k ≤ n → (∀ j, o1 j < 60) → (∀ j, j < k → o1 (rkN F P n j) = j) → (∀ j, n ≤ j → o1 j = o j) → n - k < fu → va_P (dC, dI) vwCl [(a 0, .inr (8, [.ref (a 1), .ref (a 2), .ref (a 3), .ref (a 4), .int (nI n), .ref (a 5), .ref (a 6), .ref (a 7), .ref (a 8), .ref (a 9)])), (a 1, .inl (cI, 60, .inl F)), (a 2, .inl (cI, 60, .inl T)), (a 3, .inl (cI, 60, .inl P)), (a 4, .inl (cI, 60, .inl V)), (a 5, .inl (cI, 4, .inl Wt)), (a 6, .inl (cI, 60, .inl O1)), (a 7, .inl (cI, 60, .inl G)), (a 8, .inl (cI, 4, .inl L)), (a 9, .inl (cI, 759375, .inl R))] H → va_D A [(a 0, .inr (8, [.ref (a 1), .ref (a 2), .ref (a 3), .ref (a 4), .int (nI n), .ref (a 5), .ref (a 6), .ref (a 7), .ref (a 8), .ref (a 9)])), (a 1, .inl (cI, 60, .inl F)), (a 2, .inl (cI, 60, .inl T)), (a 3, .inl (cI, 60, .inl P)), (a 4, .inl (cI, 60, .inl V)), (a 5, .inl (cI, 4, .inl Wt)), (a 6, .inl (cI, 60, .inl O1)), (a 7, .inl (cI, 60, .inl G)), (a 8, .inl (cI, 4, .inl L)), (a 9, .inl (cI, 759375, .inl R))] → va_S A s.heap H locs → lv_has ls 2 [(0, .ref (a 0)), (1, .int x1)] → W p l e (headSpec wsX8_sort ({ frames := 2, cells := 0, slots := 0, locals := 45 } : Room)).room s m [.ref (a 0)].toArray below meth c H locs 0 0 (MQ below (va_Qv (fun u : Nat → Nat => (∀ j, u j < 60) ∧ (∀ j, j < n → u (rkN F P n j) = j) ∧ (∀ j, n ≤ j → u j = o j)) (fun u t => va_P (dC, dI) vwCl (mW cI a (nI n) F T P V Wt (fun j => nI (u j)) G L R) t.heap ∧ va_K (dC, dI) vwCl [(cI, .int)] t ∧ va_D A (mW cI a (nI n) F T P V Wt (fun j => nI (u j)) G L R)) A) [.ref (a 0)].toArray s 0 0 A) (F0 m 2 ls []) := by
    intro fu
    induction fu with
    | zero =>
      intro k o1 x1 O1 H locs ls e1 r_O1 hk1 ho1 hr1 hu1 hfu2 hP hD hS hl
      exact absurd hfu2 (Nat.not_lt_zero _)
    | succ fu ih2 =>
      intro k o1 x1 O1 H locs ls e1 r_O1 hk1 ho1 hr1 hu1 hfu2 hP hD hS hl
      subst e1
      subst r_O1
      refine lv_iload_n hx hb dX8_sort_2 rfl (lv_at hl 1 rfl) ?_
      refine lv_aload_n hx hb dX8_sort_3 rfl (lv_at hl 0 rfl) ?_
      refine va_get (D := (dC, dI)) (ci := 8) (v := .int (nI n)) (C := RX8) (T := TX8) (N := 10) hx hb hts i_X8 hown hK hP 0 rfl rfl 4 (by decide) k_0 (fun _ h9 => h9) rfl dX8_sort_4 ?_
      refine lv_icmp_ge (tgt := 27) hx hb dX8_sort_7 (by decide) (fun c_1 => ?_) (fun c_1 => ?_)
      · skip
        have c_1 : k ≥ n := gk_geT (a := k) (b := n) (by first | omega | exact Nat.lt_of_le_of_lt atN_le (by omega) | exact Nat.lt_of_le_of_lt szN_le (by omega) | exact Nat.lt_of_le_of_lt clM_le (by omega) | exact Nat.lt_of_le_of_lt rkN_le (by omega) | exact Nat.lt_of_le_of_lt (cnt_le _ _) (by omega)) (by first | omega | exact Nat.lt_of_le_of_lt atN_le (by omega) | exact Nat.lt_of_le_of_lt szN_le (by omega) | exact Nat.lt_of_le_of_lt clM_le (by omega) | exact Nat.lt_of_le_of_lt rkN_le (by omega) | exact Nat.lt_of_le_of_lt (cnt_le _ _) (by omega)) c_1
        exact W.vret hx hb hr (fun t ht hW => ⟨⟨o1, rfl, (by exact ⟨ho1, fun j hj => hr1 j (by omega), hu1⟩), by rw [ht]; exact hP, va_K.moved hW.alike hK, hD⟩, hS.F ht⟩) hS.2.2 dX8_sort_27
      · skip
        have c_1 : k < n := gk_geF (a := k) (b := n) (by first | omega | exact Nat.lt_of_le_of_lt atN_le (by omega) | exact Nat.lt_of_le_of_lt szN_le (by omega) | exact Nat.lt_of_le_of_lt clM_le (by omega) | exact Nat.lt_of_le_of_lt rkN_le (by omega) | exact Nat.lt_of_le_of_lt (cnt_le _ _) (by omega)) (by first | omega | exact Nat.lt_of_le_of_lt atN_le (by omega) | exact Nat.lt_of_le_of_lt szN_le (by omega) | exact Nat.lt_of_le_of_lt clM_le (by omega) | exact Nat.lt_of_le_of_lt rkN_le (by omega) | exact Nat.lt_of_le_of_lt (cnt_le _ _) (by omega)) c_1
        refine lv_aload_n hx hb dX8_sort_10 rfl (lv_at hl 0 rfl) ?_
        refine va_get (D := (dC, dI)) (ci := 8) (v := .ref (a 6)) (C := RX8) (T := TX8) (N := 10) hx hb hts i_X8 hown hK hP 0 rfl rfl 6 (by decide) k_1 (fun _ h9 => h9) rfl dX8_sort_11 ?_
        refine lv_aload_n hx hb dX8_sort_14 rfl (lv_at hl 0 rfl) ?_
        refine lv_iload_n hx hb dX8_sort_15 rfl (lv_at hl 1 rfl) ?_
        refine vp_callSi (gk_run (va_runV (As := [.int (nI k)]) (rest := [.ref (a 6)]) ⟨hx, hb, hml, hown, hts⟩ (c_X8_rank l dC dI cI a n F T P V Wt (fun j => nI (o1 j)) G L R hn k (by omega)) (cwV 1 hts gX8_sort_X8_rank rfl rfl rfl (by decide +kernel) ⟨Nat.le_of_ble_eq_true rfl, Nat.le_of_ble_eq_true rfl⟩) ⟨gk_fb, va_recv hK hP (ci := 8) (q0 := 0) rfl rfl, fun U hU hW => ⟨rfl, by rw [hU]; exact hP, va_K.moved hW.alike hK⟩⟩ rfl rfl hl.1 rfl (lv_room (Nat.le_of_ble_eq_true rfl)) dX8_sort_16 ⟨Nat.zero_le _, Nat.zero_le _⟩)) (fun r_2 er_2 => ?_)
        subst er_2
        refine lv_iload_n hx hb dX8_sort_19 rfl (lv_at hl 1 rfl) ?_
        refine gk_st hx hb hK hP hD hS 6 0 rfl rfl (rkN F P n k) (Nat.lt_of_lt_of_le (rkN_lt (by omega)) hn) (by omega) dX8_sort_20 (fun H locs hP hD hS => ?_)
        have hP : va_P (dC, dI) vwCl [(a 0, .inr (8, [.ref (a 1), .ref (a 2), .ref (a 3), .ref (a 4), .int (nI n), .ref (a 5), .ref (a 6), .ref (a 7), .ref (a 8), .ref (a 9)])), (a 1, .inl (cI, 60, .inl F)), (a 2, .inl (cI, 60, .inl T)), (a 3, .inl (cI, 60, .inl P)), (a 4, .inl (cI, 60, .inl V)), (a 5, .inl (cI, 4, .inl Wt)), (a 6, .inl (cI, 60, .inl (upd (fun j => nI (o1 j)) (rkN F P n k) (nI k)))), (a 7, .inl (cI, 60, .inl G)), (a 8, .inl (cI, 4, .inl L)), (a 9, .inl (cI, 759375, .inl R))] H := hP
        have hD : va_D A [(a 0, .inr (8, [.ref (a 1), .ref (a 2), .ref (a 3), .ref (a 4), .int (nI n), .ref (a 5), .ref (a 6), .ref (a 7), .ref (a 8), .ref (a 9)])), (a 1, .inl (cI, 60, .inl F)), (a 2, .inl (cI, 60, .inl T)), (a 3, .inl (cI, 60, .inl P)), (a 4, .inl (cI, 60, .inl V)), (a 5, .inl (cI, 4, .inl Wt)), (a 6, .inl (cI, 60, .inl (upd (fun j => nI (o1 j)) (rkN F P n k) (nI k)))), (a 7, .inl (cI, 60, .inl G)), (a 8, .inl (cI, 4, .inl L)), (a 9, .inl (cI, 759375, .inl R))] := hD
        have eR : upd (fun j => nI (o1 j)) (rkN F P n k) (nI k) = (fun j => nI (updN o1 (rkN F P n k) k j)) := upd_nI
        rw [eR] at hP hD
        have hP : va_P (dC, dI) vwCl [(a 0, .inr (8, [.ref (a 1), .ref (a 2), .ref (a 3), .ref (a 4), .int (nI n), .ref (a 5), .ref (a 6), .ref (a 7), .ref (a 8), .ref (a 9)])), (a 1, .inl (cI, 60, .inl F)), (a 2, .inl (cI, 60, .inl T)), (a 3, .inl (cI, 60, .inl P)), (a 4, .inl (cI, 60, .inl V)), (a 5, .inl (cI, 4, .inl Wt)), (a 6, .inl (cI, 60, .inl (fun j => nI (updN o1 (rkN F P n k) k j)))), (a 7, .inl (cI, 60, .inl G)), (a 8, .inl (cI, 4, .inl L)), (a 9, .inl (cI, 759375, .inl R))] H := hP
        have hD : va_D A [(a 0, .inr (8, [.ref (a 1), .ref (a 2), .ref (a 3), .ref (a 4), .int (nI n), .ref (a 5), .ref (a 6), .ref (a 7), .ref (a 8), .ref (a 9)])), (a 1, .inl (cI, 60, .inl F)), (a 2, .inl (cI, 60, .inl T)), (a 3, .inl (cI, 60, .inl P)), (a 4, .inl (cI, 60, .inl V)), (a 5, .inl (cI, 4, .inl Wt)), (a 6, .inl (cI, 60, .inl (fun j => nI (updN o1 (rkN F P n k) k j)))), (a 7, .inl (cI, 60, .inl G)), (a 8, .inl (cI, 4, .inl L)), (a 9, .inl (cI, 759375, .inl R))] := hD
        refine lv_iinc (v := nI (k + 1)) (lv' := [(1, .int (nI (k + 1))), (0, .ref (a 0))]) hx hb dX8_sort_21 hl (k := 1) rfl (gk_inc1 _) (by decide) rfl (fun ls hl => ?_)
        refine lv_goto (tgt := 2) hx hb dX8_sort_24 (by decide) ?_
        exact ih2 (k + 1) (updN o1 (rkN F P n k) k) _ _ _ _ ls (by rfl) (by rfl) (by omega) (by first | exact ho | exact updN_lt ho1 (by omega)) (by first | exact fun j hj => absurd hj (Nat.not_lt_zero j) | exact rof_step (by omega) hr1) (by first | exact fun _ _ => rfl | exact updN_ge hu1 (rkN_lt (by omega))) (by omega) hP hD hS (lv_sub hl [1, 0] rfl)
  exact L2 ((n) + 1) 0 o _ _ _ _ ls (by rfl) (by rfl) (by omega) (by first | exact ho | exact updN_lt ho1 (by omega)) (by first | exact fun j hj => absurd hj (Nat.not_lt_zero j) | exact rof_step (by omega) hr1) (by first | exact fun _ _ => rfl | exact updN_ge hu1 (rkN_lt (by omega))) (by omega) hP hD hS (lv_sub hl [1, 0] rfl)
