def vOK (v : Int32) : Bool := decide (-1 ≤ v) && decide (v ≤ 3)
theorem vOK_t {v : Int32} : vOK v = true ↔ -1 ≤ v ∧ v ≤ 3 := by simp [vOK]
theorem vOK_f {v : Int32} : vOK v = false ↔ ¬ (-1 ≤ v ∧ v ≤ 3) := by
  rw [← vOK_t]
  cases vOK v <;> simp
def wOK (w : Int32) : Bool := decide (0 ≤ w) && decide (w ≤ 1000)
theorem wOK_t {v : Int32} : wOK v = true ↔ 0 ≤ v ∧ v ≤ 1000 := by simp [wOK]
theorem wOK_f {v : Int32} : wOK v = false ↔ ¬ (0 ≤ v ∧ v ≤ 1000) := by
  rw [← wOK_t]
  cases wOK v <;> simp
theorem tn4 : (nI 4).toInt = 4 := rfl
theorem no_tf {x : Bool} {A : Prop} (h : x = true) (h2 : x = false) : A := by rw [h] at h2; cases h2
theorem nI_j {j k n : Nat} {x : Int32} (hj : j < n) (hk : k < n) (hn : n < 2 ^ 31) (e : x = nI j) (e2 : x = nI k) : k = j := (nI_eq (by omega) (by omega)).mp (e2.symm.trans e)
set_option maxHeartbeats 4000000 in
set_option maxRecDepth 100000 in
theorem c_X7_note (l : Launch) (dC : Nat → ClassId) (dI : Nat → Nat → Nat) (cI : ClassId) (sz : Nat) (b : Nat → Nat) (n : Nat) (F T P V : Nat → Int32) (o kr : Nat → Nat) (Wt : Nat → Int32) (rc : Int32) (RB RE : Nat → Int32) (p1 p2 : Int32) (LA : Nat → Int32) (vs : Int32) (PL : Nat → Int32) (kn kl : Nat) (KN CH : Nat → Int32) (hn : n ≤ 60) (ho : ∀ j, o j < 60) (hp : prm n o) (f tv q : Int32) : Met l yX7_note wsX7_note ({ frames := 4, cells := 0, slots := 0, locals := 93 } : Room) (va_Pc [.ref (b 0), .int f, .int tv, .int q] (fun U => U.heap.size = sz ∧ va_P (dC, dI) vwCl (xW cI b (nI n) F T P V (fun j => nI (o j)) (fun j => nI (kr j)) Wt rc RB RE p1 p2 LA vs PL kn kl KN CH) U.heap ∧ va_K (dC, dI) vwCl [(cI, .int)] U ∧ va_D (fun _ => True) (xW cI b (nI n) F T P V (fun j => nI (o j)) (fun j => nI (kr j)) Wt rc RB RE p1 p2 LA vs PL kn kl KN CH))) (va_Qi (fun (r : Int32) (u : SS × XJ) => (okN f tv q = false → r = -2 ∧ u = ((n, F, T, P, V, Wt, o), (kr, rc, RB, RE, p1, p2, LA, vs, PL, kn, kl, KN, CH))) ∧ (okN f tv q = true → 60 ≤ n → r = -4 ∧ u = ((n, F, T, P, V, Wt, o), (kr, rc, RB, RE, p1, p2, LA, vs, PL, kn, kl, KN, CH))) ∧ (okN f tv q = true → n < 60 → r = nI n ∧ ∃ o1 k1 : Nat → Nat, u = ((n + 1, upd F n f, upd T n tv, upd P n q, upd V n (-1), Wt, o1), (k1, rc, RB, RE, p1, p2, LA, vs, PL, kn, kl, KN, CH)) ∧ (∀ j, o1 j < 60) ∧ prm (n + 1) o1 ∧ srt (upd F n f) (upd P n q) (n + 1) o1 ∧ (∀ j, n + 1 ≤ j → o1 j = o j) ∧ (∀ j, j < n + 1 → k1 (o1 j) = j))) (fun u t => va_P (dC, dI) vwCl (xWu cI b u.1 u.2) t.heap ∧ va_K (dC, dI) vwCl [(cI, .int)] t ∧ va_D (va_A (xW cI b (nI n) F T P V (fun j => nI (o j)) (fun j => nI (kr j)) Wt rc RB RE p1 p2 LA vs PL kn kl KN CH) sz) (xWu cI b u.1 u.2)) (va_A (xW cI b (nI n) F T P V (fun j => nI (o j)) (fun j => nI (kr j)) Wt rc RB RE p1 p2 LA vs PL kn kl KN CH) sz)) 0 0 (va_A (xW cI b (nI n) F T P V (fun j => nI (o j)) (fun j => nI (kr j)) Wt rc RB RE p1 p2 LA vs PL kn kl KN CH) sz) := by
  refine Met.ofW (cc := cX7_note) (maxL := 4) (ret := (some .int)) (by decide) rfl ?_
  intro p e s m args below meth c s₁ B hml hv
  obtain ⟨rfl, hsz, hP, hK, hD0⟩ := hv
  have hx := B.exec
  have hb := B.bytes
  have hr := B.returns
  have hts := atoms_spec (ws := wsX7_note) B.pre
  have hown : s.vm.findClass RX7 = some m.cls := findClass_of_methodNamed B.named
  have hlocks := B.notSynchronized
  subst hsz
  have hD := hD0.self (sz := s.heap.size)
  generalize hAe : va_A (xW cI b (nI n) F T P V (fun j => nI (o j)) (fun j => nI (kr j)) Wt rc RB RE p1 p2 LA vs PL kn kl KN CH) s.heap.size = A at hD ⊢
  have hA : ∀ q : Nat, s.heap.size ≤ q → A q := fun q h => by rw [← hAe]; exact Or.inr h
  have hS : va_S A s.heap s.heap [] := va_S.rf
  have i_X7 : ∀ w ∈ u_ws RX7 TX7 7, w ∈ wsX7_note := by decide +kernel
  have i_X6 : ∀ w ∈ u_ws RX6 TX6 7, w ∈ wsX7_note := by decide +kernel
  have k_0 := hts (.fieldLink RX7 10 "VoiceRows" "score" "LVoiceRows$Score;") (by decide +kernel)
  have k_1 := hts (.fieldLink RX7 74 "VoiceRows$Score" "count" "I") (by decide +kernel)
  have hl := lv_entry ([.ref (b 0), .int f, .int tv, .int q]) (n := 4) (Nat.le_of_ble_eq_true rfl)
  rw [lg_entry_eq]
  generalize (lg_sl ([.ref (b 0), .int f, .int tv, .int q]) ++ List.replicate (4 - (lg_sl ([.ref (b 0), .int f, .int tv, .int q])).length) Slot.unset).toArray = ls at hl ⊢
  have hl : lv_has ls 4 [(0, .ref (b 0)), (1, .int f), (2, .int tv), (3, .int q)] := hl
  refine lv_iload_n hx hb dX7_note_0 rfl (lv_at hl 1 rfl) ?_
  refine lv_iload_n hx hb dX7_note_1 rfl (lv_at hl 2 rfl) ?_
  refine lv_iload_n hx hb dX7_note_2 rfl (lv_at hl 3 rfl) ?_
  refine vp_callSi (gk_run (va_runS (As := [.int f, .int tv, .int q]) (rest := []) ⟨hx, hb, hml, hown, hts⟩ (c_X7_canSound l f tv q) (gk_cwS 3 hts gX7_note_X7_canSound rfl rfl rfl (by decide +kernel) ⟨Nat.le_of_ble_eq_true rfl, Nat.le_of_ble_eq_true rfl⟩) ⟨gk_fbT, fun U hU hW => ⟨rfl, trivial⟩⟩ rfl rfl hl.1 rfl (lv_room (Nat.le_of_ble_eq_true rfl)) dX7_note_3 ⟨Nat.zero_le _, Nat.zero_le _⟩)) (fun r_1 er_1 => ?_)
  subst er_1
  refine lv_if_ne (tgt := 12) hx hb dX7_note_6 (by decide) (fun c_2 => ?_) (fun c_2 => ?_)
  · skip
    have c_2 : (okN f tv q) = true := b2i_1.mp c_2
    refine lv_aload_n hx hb dX7_note_12 rfl (lv_at hl 0 rfl) ?_
    refine va_get (D := (dC, dI)) (ci := 7) (v := .ref (b 1)) (C := RX7) (T := TX7) (N := 7) hx hb hts i_X7 hown hK hP 0 rfl rfl 0 (by decide) k_0 (fun _ h9 => h9) rfl dX7_note_13 ?_
    refine va_get (D := (dC, dI)) (ci := 6) (v := .int (nI n)) (C := RX6) (T := TX6) (N := 7) hx hb hts i_X6 hown hK hP 1 rfl rfl 0 (by decide) k_1 (fun _ h9 => h9) rfl dX7_note_16 ?_
    refine lv_bipush (v := 60) hx hb dX7_note_19 (by decide) ?_
    refine lv_icmp_lt (tgt := 29) hx hb dX7_note_21 (by decide) (fun c_3 => ?_) (fun c_3 => ?_)
    · skip
      have c_3 : n < 60 := gk_ltT (a := n) (b := 60) (by first | omega | exact Nat.lt_of_le_of_lt atN_le (by omega) | exact Nat.lt_of_le_of_lt szN_le (by omega) | exact Nat.lt_of_le_of_lt clM_le (by omega) | exact Nat.lt_of_le_of_lt rkN_le (by omega) | exact Nat.lt_of_le_of_lt (cnt_le _ _) (by omega)) (by first | omega | exact Nat.lt_of_le_of_lt atN_le (by omega) | exact Nat.lt_of_le_of_lt szN_le (by omega) | exact Nat.lt_of_le_of_lt clM_le (by omega) | exact Nat.lt_of_le_of_lt rkN_le (by omega) | exact Nat.lt_of_le_of_lt (cnt_le _ _) (by omega)) c_3
      refine lv_aload_n hx hb dX7_note_29 rfl (lv_at hl 0 rfl) ?_
      refine va_get (D := (dC, dI)) (ci := 7) (v := .ref (b 1)) (C := RX7) (T := TX7) (N := 7) hx hb hts i_X7 hown hK hP 0 rfl rfl 0 (by decide) k_0 (fun _ h9 => h9) rfl dX7_note_30 ?_
      refine lv_iload_n hx hb dX7_note_33 rfl (lv_at hl 1 rfl) ?_
      refine lv_iload_n hx hb dX7_note_34 rfl (lv_at hl 2 rfl) ?_
      refine lv_iload_n hx hb dX7_note_35 rfl (lv_at hl 3 rfl) ?_
      have hPc := hP.sub (ws' := [(b 1, .inr (6, [.int (nI n), .ref (b 2), .ref (b 3), .ref (b 4), .ref (b 5), .ref (b 6), .ref (b 7)])), (b 2, .inl (cI, 60, .inl F)), (b 3, .inl (cI, 60, .inl T)), (b 4, .inl (cI, 60, .inl P)), (b 5, .inl (cI, 60, .inl V)), (b 6, .inl (cI, 60, .inl (fun j => nI (o j)))), (b 7, .inl (cI, 60, .inl (fun j => nI (kr j))))]) [1, 2, 3, 4, 5, 6, 7] rfl
      have hDc := hD.sub (ws' := [(b 1, .inr (6, [.int (nI n), .ref (b 2), .ref (b 3), .ref (b 4), .ref (b 5), .ref (b 6), .ref (b 7)])), (b 2, .inl (cI, 60, .inl F)), (b 3, .inl (cI, 60, .inl T)), (b 4, .inl (cI, 60, .inl P)), (b 5, .inl (cI, 60, .inl V)), (b 6, .inl (cI, 60, .inl (fun j => nI (o j)))), (b 7, .inl (cI, 60, .inl (fun j => nI (kr j))))]) [1, 2, 3, 4, 5, 6, 7] (by decide) rfl
      have hFc := va_free (wc := [(b 1, .inr (6, [.int (nI n), .ref (b 2), .ref (b 3), .ref (b 4), .ref (b 5), .ref (b 6), .ref (b 7)])), (b 2, .inl (cI, 60, .inl F)), (b 3, .inl (cI, 60, .inl T)), (b 4, .inl (cI, 60, .inl P)), (b 5, .inl (cI, 60, .inl V)), (b 6, .inl (cI, 60, .inl (fun j => nI (o j)))), (b 7, .inl (cI, 60, .inl (fun j => nI (kr j))))]) hD hS hA [1, 2, 3, 4, 5, 6, 7] rfl
      refine va_calli (va_runV (As := [.int f, .int tv, .int q]) (rest := []) ⟨hx, hb, hml, hown, hts⟩ (c_X6_add l dC dI cI s.heap.size b n F T P V o kr hn ho hp (by omega) f tv q) (cwV 3 hts gX7_note_X6_add rfl rfl rfl (by decide +kernel) ⟨Nat.le_of_ble_eq_true rfl, Nat.le_of_ble_eq_true rfl⟩) ⟨gk_fbW, va_recv hK hPc (ci := 6) (q0 := 0) rfl rfl, fun U hU hW => ⟨rfl, by rw [hU], by rw [hU]; exact hPc, va_K.moved hW.alike hK, hDc.weaken (fun _ _ _ _ => trivial)⟩⟩ rfl rfl hl.1 rfl (lv_room (Nat.le_of_ble_eq_true rfl)) dX7_note_36 ⟨Nat.zero_le _, Nat.zero_le _⟩) hS (fun q _ h => hFc q h) hFc (fun r_4 u t H1 locs ht hvm hw hB hz1 hk1 hS => ?_)
      obtain ⟨o1, k1⟩ := u
      obtain ⟨hP1, hK1, hD1⟩ := hB
      rw [ht] at hP1
      try dsimp only at hw
      obtain ⟨hP, hD⟩ := va_join (wr := [(b 0, .inr (7, [.ref (b 1), .ref (b 8), .ref (b 9), .ref (b 12), .ref (b 13), .ref (b 16), .ref (b 19)])), (b 8, .inl (cI, 4, .inl Wt)), (b 9, .inr (5, [.ref (b 1), .int rc, .ref (b 10), .ref (b 11)])), (b 10, .inl (cI, 61, .inl RB)), (b 11, .inl (cI, 61, .inl RE)), (b 12, .inr (4, [.ref (b 1), .int p1, .int p2])), (b 13, .inr (0, [.ref (b 1), .ref (b 8), .ref (b 12)])), (b 14, .inr (3, [.ref (b 1), .ref (b 8), .ref (b 15)])), (b 15, .inl (cI, 4, .inl LA)), (b 16, .inr (1, [.ref (b 1), .ref (b 14), .ref (b 17), .int vs, .ref kn])), (b 17, .inl (cI, 4, .inl PL)), (kn, .inl (cI, kl, .inl KN)), (b 19, .inr (2, [.ref (b 1), .ref (b 14), .ref (b 20)])), (b 20, .inl (cI, 60, .inl CH))]) (w1 := [(b 1, .inr (6, [.int (nI (n + 1)), .ref (b 2), .ref (b 3), .ref (b 4), .ref (b 5), .ref (b 6), .ref (b 7)])), (b 2, .inl (cI, 60, .inl (upd F n f))), (b 3, .inl (cI, 60, .inl (upd T n tv))), (b 4, .inl (cI, 60, .inl (upd P n q))), (b 5, .inl (cI, 60, .inl (upd V n (-1)))), (b 6, .inl (cI, 60, .inl (fun j => nI (o1 j)))), (b 7, .inl (cI, 60, .inl (fun j => nI (k1 j))))]) hP hD [1, 2, 3, 4, 5, 6, 7] [0, 8, 9, 10, 11, 12, 13, 14, 15, 16, 17, 18, 19, 20] rfl rfl (by decide) (by decide) hk1 hFc hP1 hD1
      generalize H1 = H at hP hS ⊢
      have hP := hP.sub (ws' := [(b 0, .inr (7, [.ref (b 1), .ref (b 8), .ref (b 9), .ref (b 12), .ref (b 13), .ref (b 16), .ref (b 19)])), (b 1, .inr (6, [.int (nI (n + 1)), .ref (b 2), .ref (b 3), .ref (b 4), .ref (b 5), .ref (b 6), .ref (b 7)])), (b 2, .inl (cI, 60, .inl (upd F n f))), (b 3, .inl (cI, 60, .inl (upd T n tv))), (b 4, .inl (cI, 60, .inl (upd P n q))), (b 5, .inl (cI, 60, .inl (upd V n (-1)))), (b 6, .inl (cI, 60, .inl (fun j => nI (o1 j)))), (b 7, .inl (cI, 60, .inl (fun j => nI (k1 j)))), (b 8, .inl (cI, 4, .inl Wt)), (b 9, .inr (5, [.ref (b 1), .int rc, .ref (b 10), .ref (b 11)])), (b 10, .inl (cI, 61, .inl RB)), (b 11, .inl (cI, 61, .inl RE)), (b 12, .inr (4, [.ref (b 1), .int p1, .int p2])), (b 13, .inr (0, [.ref (b 1), .ref (b 8), .ref (b 12)])), (b 14, .inr (3, [.ref (b 1), .ref (b 8), .ref (b 15)])), (b 15, .inl (cI, 4, .inl LA)), (b 16, .inr (1, [.ref (b 1), .ref (b 14), .ref (b 17), .int vs, .ref kn])), (b 17, .inl (cI, 4, .inl PL)), (kn, .inl (cI, kl, .inl KN)), (b 19, .inr (2, [.ref (b 1), .ref (b 14), .ref (b 20)])), (b 20, .inl (cI, 60, .inl CH))]) [0, 14, 15, 16, 17, 18, 19, 20, 1, 2, 3, 4, 5, 6, 7, 8, 9, 10, 11, 12, 13] rfl
      have hD := hD.sub (ws' := [(b 0, .inr (7, [.ref (b 1), .ref (b 8), .ref (b 9), .ref (b 12), .ref (b 13), .ref (b 16), .ref (b 19)])), (b 1, .inr (6, [.int (nI (n + 1)), .ref (b 2), .ref (b 3), .ref (b 4), .ref (b 5), .ref (b 6), .ref (b 7)])), (b 2, .inl (cI, 60, .inl (upd F n f))), (b 3, .inl (cI, 60, .inl (upd T n tv))), (b 4, .inl (cI, 60, .inl (upd P n q))), (b 5, .inl (cI, 60, .inl (upd V n (-1)))), (b 6, .inl (cI, 60, .inl (fun j => nI (o1 j)))), (b 7, .inl (cI, 60, .inl (fun j => nI (k1 j)))), (b 8, .inl (cI, 4, .inl Wt)), (b 9, .inr (5, [.ref (b 1), .int rc, .ref (b 10), .ref (b 11)])), (b 10, .inl (cI, 61, .inl RB)), (b 11, .inl (cI, 61, .inl RE)), (b 12, .inr (4, [.ref (b 1), .int p1, .int p2])), (b 13, .inr (0, [.ref (b 1), .ref (b 8), .ref (b 12)])), (b 14, .inr (3, [.ref (b 1), .ref (b 8), .ref (b 15)])), (b 15, .inl (cI, 4, .inl LA)), (b 16, .inr (1, [.ref (b 1), .ref (b 14), .ref (b 17), .int vs, .ref kn])), (b 17, .inl (cI, 4, .inl PL)), (kn, .inl (cI, kl, .inl KN)), (b 19, .inr (2, [.ref (b 1), .ref (b 14), .ref (b 20)])), (b 20, .inl (cI, 60, .inl CH))]) [0, 14, 15, 16, 17, 18, 19, 20, 1, 2, 3, 4, 5, 6, 7, 8, 9, 10, 11, 12, 13] (by decide) rfl
      have hP : va_P (dC, dI) vwCl [(b 0, .inr (7, [.ref (b 1), .ref (b 8), .ref (b 9), .ref (b 12), .ref (b 13), .ref (b 16), .ref (b 19)])), (b 1, .inr (6, [.int (nI (n + 1)), .ref (b 2), .ref (b 3), .ref (b 4), .ref (b 5), .ref (b 6), .ref (b 7)])), (b 2, .inl (cI, 60, .inl (upd F n f))), (b 3, .inl (cI, 60, .inl (upd T n tv))), (b 4, .inl (cI, 60, .inl (upd P n q))), (b 5, .inl (cI, 60, .inl (upd V n (-1)))), (b 6, .inl (cI, 60, .inl (fun j => nI (o1 j)))), (b 7, .inl (cI, 60, .inl (fun j => nI (k1 j)))), (b 8, .inl (cI, 4, .inl Wt)), (b 9, .inr (5, [.ref (b 1), .int rc, .ref (b 10), .ref (b 11)])), (b 10, .inl (cI, 61, .inl RB)), (b 11, .inl (cI, 61, .inl RE)), (b 12, .inr (4, [.ref (b 1), .int p1, .int p2])), (b 13, .inr (0, [.ref (b 1), .ref (b 8), .ref (b 12)])), (b 14, .inr (3, [.ref (b 1), .ref (b 8), .ref (b 15)])), (b 15, .inl (cI, 4, .inl LA)), (b 16, .inr (1, [.ref (b 1), .ref (b 14), .ref (b 17), .int vs, .ref kn])), (b 17, .inl (cI, 4, .inl PL)), (kn, .inl (cI, kl, .inl KN)), (b 19, .inr (2, [.ref (b 1), .ref (b 14), .ref (b 20)])), (b 20, .inl (cI, 60, .inl CH))] H := hP
      have hD : va_D A [(b 0, .inr (7, [.ref (b 1), .ref (b 8), .ref (b 9), .ref (b 12), .ref (b 13), .ref (b 16), .ref (b 19)])), (b 1, .inr (6, [.int (nI (n + 1)), .ref (b 2), .ref (b 3), .ref (b 4), .ref (b 5), .ref (b 6), .ref (b 7)])), (b 2, .inl (cI, 60, .inl (upd F n f))), (b 3, .inl (cI, 60, .inl (upd T n tv))), (b 4, .inl (cI, 60, .inl (upd P n q))), (b 5, .inl (cI, 60, .inl (upd V n (-1)))), (b 6, .inl (cI, 60, .inl (fun j => nI (o1 j)))), (b 7, .inl (cI, 60, .inl (fun j => nI (k1 j)))), (b 8, .inl (cI, 4, .inl Wt)), (b 9, .inr (5, [.ref (b 1), .int rc, .ref (b 10), .ref (b 11)])), (b 10, .inl (cI, 61, .inl RB)), (b 11, .inl (cI, 61, .inl RE)), (b 12, .inr (4, [.ref (b 1), .int p1, .int p2])), (b 13, .inr (0, [.ref (b 1), .ref (b 8), .ref (b 12)])), (b 14, .inr (3, [.ref (b 1), .ref (b 8), .ref (b 15)])), (b 15, .inl (cI, 4, .inl LA)), (b 16, .inr (1, [.ref (b 1), .ref (b 14), .ref (b 17), .int vs, .ref kn])), (b 17, .inl (cI, 4, .inl PL)), (kn, .inl (cI, kl, .inl KN)), (b 19, .inr (2, [.ref (b 1), .ref (b 14), .ref (b 20)])), (b 20, .inl (cI, 60, .inl CH))] := hD
      obtain ⟨w0, w1, w2, w3, w4, w5⟩ := hw
      exact W.iret (v := r_4) hx hb hr (fun t ht hW => ⟨⟨_, ((n + 1, upd F n f, upd T n tv, upd P n q, upd V n (-1), Wt, o1), (k1, rc, RB, RE, p1, p2, LA, vs, PL, kn, kl, KN, CH)), rfl, (by exact ⟨fun h => no_tf c_2 h, fun _ h => absurd h (by omega), fun _ _ => ⟨w0, o1, k1, rfl, w1, w2, w3, w4, w5⟩⟩), by rw [ht]; exact hP, va_K.moved hW.alike hK, hD⟩, hS.F ht⟩) hS.2.2 dX7_note_39
    · skip
      have c_3 : n ≥ 60 := gk_ltF (a := n) (b := 60) (by first | omega | exact Nat.lt_of_le_of_lt atN_le (by omega) | exact Nat.lt_of_le_of_lt szN_le (by omega) | exact Nat.lt_of_le_of_lt clM_le (by omega) | exact Nat.lt_of_le_of_lt rkN_le (by omega) | exact Nat.lt_of_le_of_lt (cnt_le _ _) (by omega)) (by first | omega | exact Nat.lt_of_le_of_lt atN_le (by omega) | exact Nat.lt_of_le_of_lt szN_le (by omega) | exact Nat.lt_of_le_of_lt clM_le (by omega) | exact Nat.lt_of_le_of_lt rkN_le (by omega) | exact Nat.lt_of_le_of_lt (cnt_le _ _) (by omega)) c_3
      refine lv_bipush (v := (-4)) hx hb dX7_note_24 (by decide) ?_
      refine lv_goto (tgt := 39) hx hb dX7_note_26 (by decide) ?_
      exact W.iret (v := (-4)) hx hb hr (fun t ht hW => ⟨⟨_, ((n, F, T, P, V, Wt, o), (kr, rc, RB, RE, p1, p2, LA, vs, PL, kn, kl, KN, CH)), rfl, (by exact ⟨fun h => no_tf c_2 h, fun _ _ => ⟨rfl, rfl⟩, fun _ h => absurd h (by omega)⟩), by rw [ht]; exact hP, va_K.moved hW.alike hK, hD⟩, hS.F ht⟩) hS.2.2 dX7_note_39
  · skip
    have c_2 : (okN f tv q) = false := b2i_0.mp c_2
    refine lv_bipush (v := (-2)) hx hb dX7_note_9 (by decide) ?_
    exact W.iret (v := (-2)) hx hb hr (fun t ht hW => ⟨⟨_, ((n, F, T, P, V, Wt, o), (kr, rc, RB, RE, p1, p2, LA, vs, PL, kn, kl, KN, CH)), rfl, (by exact ⟨fun _ => ⟨rfl, rfl⟩, fun h => no_tf h c_2, fun h => no_tf h c_2⟩), by rw [ht]; exact hP, va_K.moved hW.alike hK, hD⟩, hS.F ht⟩) hS.2.2 dX7_note_11

set_option maxHeartbeats 4000000 in
set_option maxRecDepth 100000 in
theorem c_X8_note (l : Launch) (dC : Nat → ClassId) (dI : Nat → Nat → Nat) (cI : ClassId) (sz : Nat) (a : Nat → Nat) (n : Nat) (F T P V Wt : Nat → Int32) (o : Nat → Nat) (G L R : Nat → Int32) (hn : n ≤ 60) (ho : ∀ j, o j < 60) (f tv q : Int32) : Met l yX8_note wsX8_note ({ frames := 3, cells := 0, slots := 0, locals := 66 } : Room) (va_Pc [.ref (a 0), .int f, .int tv, .int q] (fun U => U.heap.size = sz ∧ va_P (dC, dI) vwCl (mW cI a (nI n) F T P V Wt (fun j => nI (o j)) G L R) U.heap ∧ va_K (dC, dI) vwCl [(cI, .int)] U ∧ va_D (fun _ => True) (mW cI a (nI n) F T P V Wt (fun j => nI (o j)) G L R))) (va_Qi (fun (r : Int32) (u : SS × MJ) => (okN f tv q = false → r = -2 ∧ u = ((n, F, T, P, V, Wt, o), (G, L, R))) ∧ (okN f tv q = true → 60 ≤ n → r = -4 ∧ u = ((n, F, T, P, V, Wt, o), (G, L, R))) ∧ (okN f tv q = true → n < 60 → r = nI n ∧ ∃ o1 : Nat → Nat, u = ((n + 1, upd F n f, upd T n tv, upd P n q, upd V n (-1), Wt, o1), (G, L, R)) ∧ (∀ j, o1 j < 60) ∧ (∀ j, j < n + 1 → o1 (rkN (upd F n f) (upd P n q) (n + 1) j) = j) ∧ (∀ j, n + 1 ≤ j → o1 j = o j))) (fun u t => va_P (dC, dI) vwCl (mWu cI a u.1 u.2) t.heap ∧ va_K (dC, dI) vwCl [(cI, .int)] t ∧ va_D (va_A (mW cI a (nI n) F T P V Wt (fun j => nI (o j)) G L R) sz) (mWu cI a u.1 u.2)) (va_A (mW cI a (nI n) F T P V Wt (fun j => nI (o j)) G L R) sz)) 0 0 (va_A (mW cI a (nI n) F T P V Wt (fun j => nI (o j)) G L R) sz) := by
  refine Met.ofW (cc := cX8_note) (maxL := 4) (ret := (some .int)) (by decide) rfl ?_
  intro p e s m args below meth c s₁ B hml hv
  obtain ⟨rfl, hsz, hP, hK, hD0⟩ := hv
  have hx := B.exec
  have hb := B.bytes
  have hr := B.returns
  have hts := atoms_spec (ws := wsX8_note) B.pre
  have hown : s.vm.findClass RX8 = some m.cls := findClass_of_methodNamed B.named
  have hlocks := B.notSynchronized
  subst hsz
  have hD := hD0.self (sz := s.heap.size)
  generalize hAe : va_A (mW cI a (nI n) F T P V Wt (fun j => nI (o j)) G L R) s.heap.size = A at hD ⊢
  have hA : ∀ q : Nat, s.heap.size ≤ q → A q := fun q h => by rw [← hAe]; exact Or.inr h
  have hS : va_S A s.heap s.heap [] := va_S.rf
  have i_X8 : ∀ w ∈ u_ws RX8 TX8 10, w ∈ wsX8_note := by decide +kernel
  have k_0 := hts (.fieldLink RX8 38 "VoiceRowsModel" "notes" "I") (by decide +kernel)
  have k_1 := hts (.fieldLink RX8 7 "VoiceRowsModel" "from" "[I") (by decide +kernel)
  have k_2 := hts (.fieldLink RX8 13 "VoiceRowsModel" "to" "[I") (by decide +kernel)
  have k_3 := hts (.fieldLink RX8 16 "VoiceRowsModel" "pitch" "[I") (by decide +kernel)
  have k_4 := hts (.fieldLink RX8 19 "VoiceRowsModel" "voice" "[I") (by decide +kernel)
  have hl := lv_entry ([.ref (a 0), .int f, .int tv, .int q]) (n := 4) (Nat.le_of_ble_eq_true rfl)
  rw [lg_entry_eq]
  generalize (lg_sl ([.ref (a 0), .int f, .int tv, .int q]) ++ List.replicate (4 - (lg_sl ([.ref (a 0), .int f, .int tv, .int q])).length) Slot.unset).toArray = ls at hl ⊢
  have hl : lv_has ls 4 [(0, .ref (a 0)), (1, .int f), (2, .int tv), (3, .int q)] := hl
  refine lv_iload_n hx hb dX8_note_0 rfl (lv_at hl 1 rfl) ?_
  refine lv_iload_n hx hb dX8_note_1 rfl (lv_at hl 2 rfl) ?_
  refine lv_iload_n hx hb dX8_note_2 rfl (lv_at hl 3 rfl) ?_
  refine vp_callSi (gk_run (va_runS (As := [.int f, .int tv, .int q]) (rest := []) ⟨hx, hb, hml, hown, hts⟩ (c_X8_isNote l f tv q) (gk_cwS 3 hts gX8_note_X8_isNote rfl rfl rfl (by decide +kernel) ⟨Nat.le_of_ble_eq_true rfl, Nat.le_of_ble_eq_true rfl⟩) ⟨gk_fbT, fun U hU hW => ⟨rfl, trivial⟩⟩ rfl rfl hl.1 rfl (lv_room (Nat.le_of_ble_eq_true rfl)) dX8_note_3 ⟨Nat.zero_le _, Nat.zero_le _⟩)) (fun r_1 er_1 => ?_)
  subst er_1
  refine lv_if_ne (tgt := 12) hx hb dX8_note_6 (by decide) (fun c_2 => ?_) (fun c_2 => ?_)
  · skip
    have c_2 : (okN f tv q) = true := b2i_1.mp c_2
    refine lv_aload_n hx hb dX8_note_12 rfl (lv_at hl 0 rfl) ?_
    refine va_get (D := (dC, dI)) (ci := 8) (v := .int (nI n)) (C := RX8) (T := TX8) (N := 10) hx hb hts i_X8 hown hK hP 0 rfl rfl 4 (by decide) k_0 (fun _ h9 => h9) rfl dX8_note_13 ?_
    refine lv_bipush (v := 60) hx hb dX8_note_16 (by decide) ?_
    refine lv_icmp_ne (tgt := 24) hx hb dX8_note_18 (by decide) (fun c_3 => ?_) (fun c_3 => ?_)
    · skip
      have c_3 : n ≠ 60 := gk_neT (a := n) (b := 60) (by first | omega | exact Nat.lt_of_le_of_lt atN_le (by omega) | exact Nat.lt_of_le_of_lt szN_le (by omega) | exact Nat.lt_of_le_of_lt clM_le (by omega) | exact Nat.lt_of_le_of_lt rkN_le (by omega) | exact Nat.lt_of_le_of_lt (cnt_le _ _) (by omega)) (by first | omega | exact Nat.lt_of_le_of_lt atN_le (by omega) | exact Nat.lt_of_le_of_lt szN_le (by omega) | exact Nat.lt_of_le_of_lt clM_le (by omega) | exact Nat.lt_of_le_of_lt rkN_le (by omega) | exact Nat.lt_of_le_of_lt (cnt_le _ _) (by omega)) c_3
      refine lv_aload_n hx hb dX8_note_24 rfl (lv_at hl 0 rfl) ?_
      refine va_get (D := (dC, dI)) (ci := 8) (v := .ref (a 1)) (C := RX8) (T := TX8) (N := 10) hx hb hts i_X8 hown hK hP 0 rfl rfl 0 (by decide) k_1 (fun _ h9 => h9) rfl dX8_note_25 ?_
      refine lv_aload_n hx hb dX8_note_28 rfl (lv_at hl 0 rfl) ?_
      refine va_get (D := (dC, dI)) (ci := 8) (v := .int (nI n)) (C := RX8) (T := TX8) (N := 10) hx hb hts i_X8 hown hK hP 0 rfl rfl 4 (by decide) k_0 (fun _ h9 => h9) rfl dX8_note_29 ?_
      refine lv_iload_n hx hb dX8_note_32 rfl (lv_at hl 1 rfl) ?_
      refine gk_st hx hb hK hP hD hS 1 0 rfl rfl n (by omega) (by omega) dX8_note_33 (fun H locs hP hD hS => ?_)
      have hP : va_P (dC, dI) vwCl [(a 0, .inr (8, [.ref (a 1), .ref (a 2), .ref (a 3), .ref (a 4), .int (nI n), .ref (a 5), .ref (a 6), .ref (a 7), .ref (a 8), .ref (a 9)])), (a 1, .inl (cI, 60, .inl (upd F n f))), (a 2, .inl (cI, 60, .inl T)), (a 3, .inl (cI, 60, .inl P)), (a 4, .inl (cI, 60, .inl V)), (a 5, .inl (cI, 4, .inl Wt)), (a 6, .inl (cI, 60, .inl (fun j => nI (o j)))), (a 7, .inl (cI, 60, .inl G)), (a 8, .inl (cI, 4, .inl L)), (a 9, .inl (cI, 759375, .inl R))] H := hP
      have hD : va_D A [(a 0, .inr (8, [.ref (a 1), .ref (a 2), .ref (a 3), .ref (a 4), .int (nI n), .ref (a 5), .ref (a 6), .ref (a 7), .ref (a 8), .ref (a 9)])), (a 1, .inl (cI, 60, .inl (upd F n f))), (a 2, .inl (cI, 60, .inl T)), (a 3, .inl (cI, 60, .inl P)), (a 4, .inl (cI, 60, .inl V)), (a 5, .inl (cI, 4, .inl Wt)), (a 6, .inl (cI, 60, .inl (fun j => nI (o j)))), (a 7, .inl (cI, 60, .inl G)), (a 8, .inl (cI, 4, .inl L)), (a 9, .inl (cI, 759375, .inl R))] := hD
      refine lv_aload_n hx hb dX8_note_34 rfl (lv_at hl 0 rfl) ?_
      refine va_get (D := (dC, dI)) (ci := 8) (v := .ref (a 2)) (C := RX8) (T := TX8) (N := 10) hx hb hts i_X8 hown hK hP 0 rfl rfl 1 (by decide) k_2 (fun _ h9 => h9) rfl dX8_note_35 ?_
      refine lv_aload_n hx hb dX8_note_38 rfl (lv_at hl 0 rfl) ?_
      refine va_get (D := (dC, dI)) (ci := 8) (v := .int (nI n)) (C := RX8) (T := TX8) (N := 10) hx hb hts i_X8 hown hK hP 0 rfl rfl 4 (by decide) k_0 (fun _ h9 => h9) rfl dX8_note_39 ?_
      refine lv_iload_n hx hb dX8_note_42 rfl (lv_at hl 2 rfl) ?_
      refine gk_st hx hb hK hP hD hS 2 0 rfl rfl n (by omega) (by omega) dX8_note_43 (fun H locs hP hD hS => ?_)
      have hP : va_P (dC, dI) vwCl [(a 0, .inr (8, [.ref (a 1), .ref (a 2), .ref (a 3), .ref (a 4), .int (nI n), .ref (a 5), .ref (a 6), .ref (a 7), .ref (a 8), .ref (a 9)])), (a 1, .inl (cI, 60, .inl (upd F n f))), (a 2, .inl (cI, 60, .inl (upd T n tv))), (a 3, .inl (cI, 60, .inl P)), (a 4, .inl (cI, 60, .inl V)), (a 5, .inl (cI, 4, .inl Wt)), (a 6, .inl (cI, 60, .inl (fun j => nI (o j)))), (a 7, .inl (cI, 60, .inl G)), (a 8, .inl (cI, 4, .inl L)), (a 9, .inl (cI, 759375, .inl R))] H := hP
      have hD : va_D A [(a 0, .inr (8, [.ref (a 1), .ref (a 2), .ref (a 3), .ref (a 4), .int (nI n), .ref (a 5), .ref (a 6), .ref (a 7), .ref (a 8), .ref (a 9)])), (a 1, .inl (cI, 60, .inl (upd F n f))), (a 2, .inl (cI, 60, .inl (upd T n tv))), (a 3, .inl (cI, 60, .inl P)), (a 4, .inl (cI, 60, .inl V)), (a 5, .inl (cI, 4, .inl Wt)), (a 6, .inl (cI, 60, .inl (fun j => nI (o j)))), (a 7, .inl (cI, 60, .inl G)), (a 8, .inl (cI, 4, .inl L)), (a 9, .inl (cI, 759375, .inl R))] := hD
      refine lv_aload_n hx hb dX8_note_44 rfl (lv_at hl 0 rfl) ?_
      refine va_get (D := (dC, dI)) (ci := 8) (v := .ref (a 3)) (C := RX8) (T := TX8) (N := 10) hx hb hts i_X8 hown hK hP 0 rfl rfl 2 (by decide) k_3 (fun _ h9 => h9) rfl dX8_note_45 ?_
      refine lv_aload_n hx hb dX8_note_48 rfl (lv_at hl 0 rfl) ?_
      refine va_get (D := (dC, dI)) (ci := 8) (v := .int (nI n)) (C := RX8) (T := TX8) (N := 10) hx hb hts i_X8 hown hK hP 0 rfl rfl 4 (by decide) k_0 (fun _ h9 => h9) rfl dX8_note_49 ?_
      refine lv_iload_n hx hb dX8_note_52 rfl (lv_at hl 3 rfl) ?_
      refine gk_st hx hb hK hP hD hS 3 0 rfl rfl n (by omega) (by omega) dX8_note_53 (fun H locs hP hD hS => ?_)
      have hP : va_P (dC, dI) vwCl [(a 0, .inr (8, [.ref (a 1), .ref (a 2), .ref (a 3), .ref (a 4), .int (nI n), .ref (a 5), .ref (a 6), .ref (a 7), .ref (a 8), .ref (a 9)])), (a 1, .inl (cI, 60, .inl (upd F n f))), (a 2, .inl (cI, 60, .inl (upd T n tv))), (a 3, .inl (cI, 60, .inl (upd P n q))), (a 4, .inl (cI, 60, .inl V)), (a 5, .inl (cI, 4, .inl Wt)), (a 6, .inl (cI, 60, .inl (fun j => nI (o j)))), (a 7, .inl (cI, 60, .inl G)), (a 8, .inl (cI, 4, .inl L)), (a 9, .inl (cI, 759375, .inl R))] H := hP
      have hD : va_D A [(a 0, .inr (8, [.ref (a 1), .ref (a 2), .ref (a 3), .ref (a 4), .int (nI n), .ref (a 5), .ref (a 6), .ref (a 7), .ref (a 8), .ref (a 9)])), (a 1, .inl (cI, 60, .inl (upd F n f))), (a 2, .inl (cI, 60, .inl (upd T n tv))), (a 3, .inl (cI, 60, .inl (upd P n q))), (a 4, .inl (cI, 60, .inl V)), (a 5, .inl (cI, 4, .inl Wt)), (a 6, .inl (cI, 60, .inl (fun j => nI (o j)))), (a 7, .inl (cI, 60, .inl G)), (a 8, .inl (cI, 4, .inl L)), (a 9, .inl (cI, 759375, .inl R))] := hD
      refine lv_aload_n hx hb dX8_note_54 rfl (lv_at hl 0 rfl) ?_
      refine va_get (D := (dC, dI)) (ci := 8) (v := .ref (a 4)) (C := RX8) (T := TX8) (N := 10) hx hb hts i_X8 hown hK hP 0 rfl rfl 3 (by decide) k_4 (fun _ h9 => h9) rfl dX8_note_55 ?_
      refine lv_aload_n hx hb dX8_note_58 rfl (lv_at hl 0 rfl) ?_
      refine va_get (D := (dC, dI)) (ci := 8) (v := .int (nI n)) (C := RX8) (T := TX8) (N := 10) hx hb hts i_X8 hown hK hP 0 rfl rfl 4 (by decide) k_0 (fun _ h9 => h9) rfl dX8_note_59 ?_
      refine lv_iconst (v := (-1)) hx hb dX8_note_62 (by decide) ?_
      refine gk_st hx hb hK hP hD hS 4 0 rfl rfl n (by omega) (by omega) dX8_note_63 (fun H locs hP hD hS => ?_)
      have hP : va_P (dC, dI) vwCl [(a 0, .inr (8, [.ref (a 1), .ref (a 2), .ref (a 3), .ref (a 4), .int (nI n), .ref (a 5), .ref (a 6), .ref (a 7), .ref (a 8), .ref (a 9)])), (a 1, .inl (cI, 60, .inl (upd F n f))), (a 2, .inl (cI, 60, .inl (upd T n tv))), (a 3, .inl (cI, 60, .inl (upd P n q))), (a 4, .inl (cI, 60, .inl (upd V n (-1)))), (a 5, .inl (cI, 4, .inl Wt)), (a 6, .inl (cI, 60, .inl (fun j => nI (o j)))), (a 7, .inl (cI, 60, .inl G)), (a 8, .inl (cI, 4, .inl L)), (a 9, .inl (cI, 759375, .inl R))] H := hP
      have hD : va_D A [(a 0, .inr (8, [.ref (a 1), .ref (a 2), .ref (a 3), .ref (a 4), .int (nI n), .ref (a 5), .ref (a 6), .ref (a 7), .ref (a 8), .ref (a 9)])), (a 1, .inl (cI, 60, .inl (upd F n f))), (a 2, .inl (cI, 60, .inl (upd T n tv))), (a 3, .inl (cI, 60, .inl (upd P n q))), (a 4, .inl (cI, 60, .inl (upd V n (-1)))), (a 5, .inl (cI, 4, .inl Wt)), (a 6, .inl (cI, 60, .inl (fun j => nI (o j)))), (a 7, .inl (cI, 60, .inl G)), (a 8, .inl (cI, 4, .inl L)), (a 9, .inl (cI, 759375, .inl R))] := hD
      refine lv_aload_n hx hb dX8_note_64 rfl (lv_at hl 0 rfl) ?_
      refine lv_dup hx hb dX8_note_65 rfl ?_
      refine va_get (D := (dC, dI)) (ci := 8) (v := .int (nI n)) (C := RX8) (T := TX8) (N := 10) hx hb hts i_X8 hown hK hP 0 rfl rfl 4 (by decide) k_0 (fun _ h9 => h9) rfl dX8_note_66 ?_
      refine lv_iconst (v := 1) hx hb dX8_note_69 (by decide) ?_
      refine lv_iadd hx hb dX8_note_70 ?_
      refine gk_top (y := nI (n + 1)) (gk_addl _ _ _ (by decide)) ?_
      refine va_put (D := (dC, dI)) (ci := 8) (v := .int (nI (n + 1))) (ty := .int) (C := RX8) (T := TX8) (N := 10) hx hb hts i_X8 tyX8 tyX8_ok nmX8 hown hK hP hD hS 0 rfl rfl 4 (by decide) k_0 (fun _ h9 => h9) rfl (by decide +kernel) rfl rfl (Nat.le_of_ble_eq_true rfl) dX8_note_71 (fun H locs hP hD hS => ?_)
      have hP : va_P (dC, dI) vwCl [(a 0, .inr (8, [.ref (a 1), .ref (a 2), .ref (a 3), .ref (a 4), .int (nI (n + 1)), .ref (a 5), .ref (a 6), .ref (a 7), .ref (a 8), .ref (a 9)])), (a 1, .inl (cI, 60, .inl (upd F n f))), (a 2, .inl (cI, 60, .inl (upd T n tv))), (a 3, .inl (cI, 60, .inl (upd P n q))), (a 4, .inl (cI, 60, .inl (upd V n (-1)))), (a 5, .inl (cI, 4, .inl Wt)), (a 6, .inl (cI, 60, .inl (fun j => nI (o j)))), (a 7, .inl (cI, 60, .inl G)), (a 8, .inl (cI, 4, .inl L)), (a 9, .inl (cI, 759375, .inl R))] H := hP
      have hD : va_D A [(a 0, .inr (8, [.ref (a 1), .ref (a 2), .ref (a 3), .ref (a 4), .int (nI (n + 1)), .ref (a 5), .ref (a 6), .ref (a 7), .ref (a 8), .ref (a 9)])), (a 1, .inl (cI, 60, .inl (upd F n f))), (a 2, .inl (cI, 60, .inl (upd T n tv))), (a 3, .inl (cI, 60, .inl (upd P n q))), (a 4, .inl (cI, 60, .inl (upd V n (-1)))), (a 5, .inl (cI, 4, .inl Wt)), (a 6, .inl (cI, 60, .inl (fun j => nI (o j)))), (a 7, .inl (cI, 60, .inl G)), (a 8, .inl (cI, 4, .inl L)), (a 9, .inl (cI, 759375, .inl R))] := hD
      refine lv_aload_n hx hb dX8_note_74 rfl (lv_at hl 0 rfl) ?_
      have hPc := hP.sub (ws' := [(a 0, .inr (8, [.ref (a 1), .ref (a 2), .ref (a 3), .ref (a 4), .int (nI (n + 1)), .ref (a 5), .ref (a 6), .ref (a 7), .ref (a 8), .ref (a 9)])), (a 1, .inl (cI, 60, .inl (upd F n f))), (a 2, .inl (cI, 60, .inl (upd T n tv))), (a 3, .inl (cI, 60, .inl (upd P n q))), (a 4, .inl (cI, 60, .inl (upd V n (-1)))), (a 5, .inl (cI, 4, .inl Wt)), (a 6, .inl (cI, 60, .inl (fun j => nI (o j)))), (a 7, .inl (cI, 60, .inl G)), (a 8, .inl (cI, 4, .inl L)), (a 9, .inl (cI, 759375, .inl R))]) [0, 1, 2, 3, 4, 5, 6, 7, 8, 9] rfl
      have hDc := hD.sub (ws' := [(a 0, .inr (8, [.ref (a 1), .ref (a 2), .ref (a 3), .ref (a 4), .int (nI (n + 1)), .ref (a 5), .ref (a 6), .ref (a 7), .ref (a 8), .ref (a 9)])), (a 1, .inl (cI, 60, .inl (upd F n f))), (a 2, .inl (cI, 60, .inl (upd T n tv))), (a 3, .inl (cI, 60, .inl (upd P n q))), (a 4, .inl (cI, 60, .inl (upd V n (-1)))), (a 5, .inl (cI, 4, .inl Wt)), (a 6, .inl (cI, 60, .inl (fun j => nI (o j)))), (a 7, .inl (cI, 60, .inl G)), (a 8, .inl (cI, 4, .inl L)), (a 9, .inl (cI, 759375, .inl R))]) [0, 1, 2, 3, 4, 5, 6, 7, 8, 9] (by decide) rfl
      have hFc := va_free (wc := [(a 0, .inr (8, [.ref (a 1), .ref (a 2), .ref (a 3), .ref (a 4), .int (nI (n + 1)), .ref (a 5), .ref (a 6), .ref (a 7), .ref (a 8), .ref (a 9)])), (a 1, .inl (cI, 60, .inl (upd F n f))), (a 2, .inl (cI, 60, .inl (upd T n tv))), (a 3, .inl (cI, 60, .inl (upd P n q))), (a 4, .inl (cI, 60, .inl (upd V n (-1)))), (a 5, .inl (cI, 4, .inl Wt)), (a 6, .inl (cI, 60, .inl (fun j => nI (o j)))), (a 7, .inl (cI, 60, .inl G)), (a 8, .inl (cI, 4, .inl L)), (a 9, .inl (cI, 759375, .inl R))]) hD hS hA [0, 1, 2, 3, 4, 5, 6, 7, 8, 9] rfl
      refine va_callv (va_runV (As := []) (rest := []) ⟨hx, hb, hml, hown, hts⟩ (c_X8_sort l dC dI cI H.size a (n + 1) (upd F n f) (upd T n tv) (upd P n q) (upd V n (-1)) Wt o G L R (by omega) ho) (cwV 0 hts gX8_note_X8_sort rfl rfl rfl (by decide +kernel) ⟨Nat.le_of_ble_eq_true rfl, Nat.le_of_ble_eq_true rfl⟩) ⟨gk_fbW, va_recv hK hPc (ci := 8) (q0 := 0) rfl rfl, fun U hU hW => ⟨rfl, by rw [hU], by rw [hU]; exact hPc, va_K.moved hW.alike hK, hDc.weaken (fun _ _ _ _ => trivial)⟩⟩ rfl rfl hl.1 rfl (lv_room (Nat.le_of_ble_eq_true rfl)) dX8_note_75 ⟨Nat.zero_le _, Nat.zero_le _⟩) hS (fun q _ h => hFc q h) hFc (fun u t H1 locs ht hvm hw hB hz1 hk1 hS => ?_)
      obtain ⟨hP1, hK1, hD1⟩ := hB
      rw [ht] at hP1
      try dsimp only at hw
      obtain ⟨hP, hD⟩ := va_join (wr := []) (w1 := [(a 0, .inr (8, [.ref (a 1), .ref (a 2), .ref (a 3), .ref (a 4), .int (nI (n + 1)), .ref (a 5), .ref (a 6), .ref (a 7), .ref (a 8), .ref (a 9)])), (a 1, .inl (cI, 60, .inl (upd F n f))), (a 2, .inl (cI, 60, .inl (upd T n tv))), (a 3, .inl (cI, 60, .inl (upd P n q))), (a 4, .inl (cI, 60, .inl (upd V n (-1)))), (a 5, .inl (cI, 4, .inl Wt)), (a 6, .inl (cI, 60, .inl (fun j => nI (u j)))), (a 7, .inl (cI, 60, .inl G)), (a 8, .inl (cI, 4, .inl L)), (a 9, .inl (cI, 759375, .inl R))]) hP hD [0, 1, 2, 3, 4, 5, 6, 7, 8, 9] [] rfl rfl (by decide) (by decide) hk1 hFc hP1 hD1
      generalize H1 = H at hP hS ⊢
      have hP : va_P (dC, dI) vwCl [(a 0, .inr (8, [.ref (a 1), .ref (a 2), .ref (a 3), .ref (a 4), .int (nI (n + 1)), .ref (a 5), .ref (a 6), .ref (a 7), .ref (a 8), .ref (a 9)])), (a 1, .inl (cI, 60, .inl (upd F n f))), (a 2, .inl (cI, 60, .inl (upd T n tv))), (a 3, .inl (cI, 60, .inl (upd P n q))), (a 4, .inl (cI, 60, .inl (upd V n (-1)))), (a 5, .inl (cI, 4, .inl Wt)), (a 6, .inl (cI, 60, .inl (fun j => nI (u j)))), (a 7, .inl (cI, 60, .inl G)), (a 8, .inl (cI, 4, .inl L)), (a 9, .inl (cI, 759375, .inl R))] H := hP
      have hD : va_D A [(a 0, .inr (8, [.ref (a 1), .ref (a 2), .ref (a 3), .ref (a 4), .int (nI (n + 1)), .ref (a 5), .ref (a 6), .ref (a 7), .ref (a 8), .ref (a 9)])), (a 1, .inl (cI, 60, .inl (upd F n f))), (a 2, .inl (cI, 60, .inl (upd T n tv))), (a 3, .inl (cI, 60, .inl (upd P n q))), (a 4, .inl (cI, 60, .inl (upd V n (-1)))), (a 5, .inl (cI, 4, .inl Wt)), (a 6, .inl (cI, 60, .inl (fun j => nI (u j)))), (a 7, .inl (cI, 60, .inl G)), (a 8, .inl (cI, 4, .inl L)), (a 9, .inl (cI, 759375, .inl R))] := hD
      obtain ⟨w1, w2, w3⟩ := hw
      refine lv_aload_n hx hb dX8_note_78 rfl (lv_at hl 0 rfl) ?_
      refine va_get (D := (dC, dI)) (ci := 8) (v := .int (nI (n + 1))) (C := RX8) (T := TX8) (N := 10) hx hb hts i_X8 hown hK hP 0 rfl rfl 4 (by decide) k_0 (fun _ h9 => h9) rfl dX8_note_79 ?_
      refine lv_iconst (v := 1) hx hb dX8_note_82 (by decide) ?_
      refine lv_isub hx hb dX8_note_83 ?_
      refine gk_top (y := nI n) (nI_pred n) ?_
      exact W.iret (v := nI n) hx hb hr (fun t ht hW => ⟨⟨_, ((n + 1, upd F n f, upd T n tv, upd P n q, upd V n (-1), Wt, u), (G, L, R)), rfl, (by exact ⟨fun h => no_tf c_2 h, fun _ h => absurd h (by omega), fun _ _ => ⟨rfl, u, rfl, w1, w2, w3⟩⟩), by rw [ht]; exact hP, va_K.moved hW.alike hK, hD⟩, hS.F ht⟩) hS.2.2 dX8_note_84
    · skip
      have c_3 : n = 60 := gk_neF (a := n) (b := 60) (by first | omega | exact Nat.lt_of_le_of_lt atN_le (by omega) | exact Nat.lt_of_le_of_lt szN_le (by omega) | exact Nat.lt_of_le_of_lt clM_le (by omega) | exact Nat.lt_of_le_of_lt rkN_le (by omega) | exact Nat.lt_of_le_of_lt (cnt_le _ _) (by omega)) (by first | omega | exact Nat.lt_of_le_of_lt atN_le (by omega) | exact Nat.lt_of_le_of_lt szN_le (by omega) | exact Nat.lt_of_le_of_lt clM_le (by omega) | exact Nat.lt_of_le_of_lt rkN_le (by omega) | exact Nat.lt_of_le_of_lt (cnt_le _ _) (by omega)) c_3
      refine lv_bipush (v := (-4)) hx hb dX8_note_21 (by decide) ?_
      exact W.iret (v := (-4)) hx hb hr (fun t ht hW => ⟨⟨_, ((n, F, T, P, V, Wt, o), (G, L, R)), rfl, (by exact ⟨fun h => no_tf c_2 h, fun _ _ => ⟨rfl, rfl⟩, fun _ h => absurd h (by omega)⟩), by rw [ht]; exact hP, va_K.moved hW.alike hK, hD⟩, hS.F ht⟩) hS.2.2 dX8_note_23
  · skip
    have c_2 : (okN f tv q) = false := b2i_0.mp c_2
    refine lv_bipush (v := (-2)) hx hb dX8_note_9 (by decide) ?_
    exact W.iret (v := (-2)) hx hb hr (fun t ht hW => ⟨⟨_, ((n, F, T, P, V, Wt, o), (G, L, R)), rfl, (by exact ⟨fun _ => ⟨rfl, rfl⟩, fun h => no_tf h c_2, fun h => no_tf h c_2⟩), by rw [ht]; exact hP, va_K.moved hW.alike hK, hD⟩, hS.F ht⟩) hS.2.2 dX8_note_11

set_option maxHeartbeats 4000000 in
set_option maxRecDepth 100000 in
theorem c_X7_move (l : Launch) (dC : Nat → ClassId) (dI : Nat → Nat → Nat) (cI : ClassId) (sz : Nat) (b : Nat → Nat) (n : Nat) (F T P V : Nat → Int32) (o kr : Nat → Nat) (Wt : Nat → Int32) (rc : Int32) (RB RE : Nat → Int32) (p1 p2 : Int32) (LA : Nat → Int32) (vs : Int32) (PL : Nat → Int32) (kn kl : Nat) (KN CH : Nat → Int32) (hn : n ≤ 60) (ho : ∀ j, o j < 60) (hp : prm n o) (x f tv q : Int32) : Met l yX7_move wsX7_move ({ frames := 3, cells := 0, slots := 0, locals := 69 } : Room) (va_Pc [.ref (b 0), .int x, .int f, .int tv, .int q] (fun U => U.heap.size = sz ∧ va_P (dC, dI) vwCl (xW cI b (nI n) F T P V (fun j => nI (o j)) (fun j => nI (kr j)) Wt rc RB RE p1 p2 LA vs PL kn kl KN CH) U.heap ∧ va_K (dC, dI) vwCl [(cI, .int)] U ∧ va_D (fun _ => True) (xW cI b (nI n) F T P V (fun j => nI (o j)) (fun j => nI (kr j)) Wt rc RB RE p1 p2 LA vs PL kn kl KN CH) ∧ va_Nw (.methodLinkNest RX6 34 yX7_within RX7) U)) (va_Qi (fun (r : Int32) (u : SS × XJ) => (ixB x n = false ∨ okN f tv q = false → r = -2 ∧ u = ((n, F, T, P, V, Wt, o), (kr, rc, RB, RE, p1, p2, LA, vs, PL, kn, kl, KN, CH))) ∧ (∀ j, j < n → x = nI j → okN f tv q = true → r = 1 ∧ ∃ o1 k1 : Nat → Nat, u = ((n, upd F j f, upd T j tv, upd P j q, V, Wt, o1), (k1, rc, RB, RE, p1, p2, LA, vs, PL, kn, kl, KN, CH)) ∧ (∀ j, o1 j < 60) ∧ prm n o1 ∧ srt (upd F j f) (upd P j q) n o1 ∧ (∀ j, n ≤ j → o1 j = o j) ∧ (∀ j, j < n → k1 (o1 j) = j))) (fun u t => va_P (dC, dI) vwCl (xWu cI b u.1 u.2) t.heap ∧ va_K (dC, dI) vwCl [(cI, .int)] t ∧ va_D (va_A (xW cI b (nI n) F T P V (fun j => nI (o j)) (fun j => nI (kr j)) Wt rc RB RE p1 p2 LA vs PL kn kl KN CH) sz) (xWu cI b u.1 u.2)) (va_A (xW cI b (nI n) F T P V (fun j => nI (o j)) (fun j => nI (kr j)) Wt rc RB RE p1 p2 LA vs PL kn kl KN CH) sz)) 0 0 (va_A (xW cI b (nI n) F T P V (fun j => nI (o j)) (fun j => nI (kr j)) Wt rc RB RE p1 p2 LA vs PL kn kl KN CH) sz) := by
  refine Met.ofW (cc := cX7_move) (maxL := 5) (ret := (some .int)) (by decide) rfl ?_
  intro p e s m args below meth c s₁ B hml hv
  obtain ⟨rfl, hsz, hP, hK, hD0, hN0⟩ := hv
  have hx := B.exec
  have hb := B.bytes
  have hr := B.returns
  have hts := atoms_spec (ws := wsX7_move) B.pre
  have hown : s.vm.findClass RX7 = some m.cls := findClass_of_methodNamed B.named
  have hlocks := B.notSynchronized
  subst hsz
  have hD := hD0.self (sz := s.heap.size)
  generalize hAe : va_A (xW cI b (nI n) F T P V (fun j => nI (o j)) (fun j => nI (kr j)) Wt rc RB RE p1 p2 LA vs PL kn kl KN CH) s.heap.size = A at hD ⊢
  have hA : ∀ q : Nat, s.heap.size ≤ q → A q := fun q h => by rw [← hAe]; exact Or.inr h
  have hS : va_S A s.heap s.heap [] := va_S.rf
  have i_X7 : ∀ w ∈ u_ws RX7 TX7 7, w ∈ wsX7_move := by decide +kernel
  have k_0 := hts (.fieldLink RX7 10 "VoiceRows" "score" "LVoiceRows$Score;") (by decide +kernel)
  have hl := lv_entry ([.ref (b 0), .int x, .int f, .int tv, .int q]) (n := 5) (Nat.le_of_ble_eq_true rfl)
  rw [lg_entry_eq]
  generalize (lg_sl ([.ref (b 0), .int x, .int f, .int tv, .int q]) ++ List.replicate (5 - (lg_sl ([.ref (b 0), .int x, .int f, .int tv, .int q])).length) Slot.unset).toArray = ls at hl ⊢
  have hl : lv_has ls 5 [(0, .ref (b 0)), (1, .int x), (2, .int f), (3, .int tv), (4, .int q)] := hl
  refine lv_aload_n hx hb dX7_move_0 rfl (lv_at hl 0 rfl) ?_
  refine va_get (D := (dC, dI)) (ci := 7) (v := .ref (b 1)) (C := RX7) (T := TX7) (N := 7) hx hb hts i_X7 hown hK hP 0 rfl rfl 0 (by decide) k_0 (fun _ h9 => h9) rfl dX7_move_1 ?_
  refine lv_iload_n hx hb dX7_move_4 rfl (lv_at hl 1 rfl) ?_
  have hPc_1 := hP.sub (ws' := (sW cI b (nI n) F T P V (fun j => nI (o j)) (fun j => nI (kr j)))) [1, 2, 3, 4, 5, 6, 7] rfl
  refine vp_callSi (gk_run (va_runV (As := [.int x]) (rest := []) ⟨hx, hb, hml, hown, hts⟩ (c_X6_has l dC dI cI b n F T P V o kr hn ho x) (cwV 1 hts gX7_move_X6_has rfl rfl rfl (by decide +kernel) ⟨Nat.le_of_ble_eq_true rfl, Nat.le_of_ble_eq_true rfl⟩) ⟨gk_fb1 (by decide), va_recv hK hPc_1 (ci := 6) (q0 := 0) rfl rfl, fun U hU hW => ⟨rfl, by rw [hU]; exact hPc_1, va_K.moved hW.alike hK, va_Nw.warmM hW hN0⟩⟩ rfl rfl hl.1 rfl (lv_room (Nat.le_of_ble_eq_true rfl)) dX7_move_5 ⟨Nat.zero_le _, Nat.zero_le _⟩)) (fun r_2 er_2 => ?_)
  subst er_2
  refine lv_if_eq (tgt := 21) hx hb dX7_move_8 (by decide) (fun c_3 => ?_) (fun c_3 => ?_)
  · skip
    have c_3 : (ixB x n) = false := b2i_0.mp c_3
    refine lv_bipush (v := (-2)) hx hb dX7_move_21 (by decide) ?_
    exact W.iret (v := (-2)) hx hb hr (fun t ht hW => ⟨⟨_, ((n, F, T, P, V, Wt, o), (kr, rc, RB, RE, p1, p2, LA, vs, PL, kn, kl, KN, CH)), rfl, (by refine ⟨fun _ => ⟨rfl, rfl⟩, fun j hj ej ho => ?_⟩; exfalso; have hi := ix_in hj (by omega) ej; first | exact no_tf ho (by assumption) | exact no_tf hi (by assumption) | (simp only [decide_eq_true_eq, decide_eq_false_iff_not, Bool.and_eq_true, Bool.and_eq_false_iff, Bool.or_eq_true, Bool.or_eq_false_iff, Bool.not_eq_true, Bool.not_eq_false, ne_eq, not_and, not_or, tog_t, tog_f, ahd_t, ahd_f, isoB_t, isoB_f, ixB_t, ixB_f, vOK_t, vOK_f, wOK_t, wOK_f, tn4, Int32.lt_iff_toInt_lt, Int32.le_iff_toInt_le, ← Int32.toInt_inj, tI0, tI1, tI2, tI3, tI4, tI6, tI14, tI59, tI60, tI127, tI1000, tI100000, tIm1, tIm2, tIm3, tIm4, tIbig] at hi c_3 <;> omega)), by rw [ht]; exact hP, va_K.moved hW.alike hK, hD⟩, hS.F ht⟩) hS.2.2 dX7_move_23
  · skip
    have c_3 : (ixB x n) = true := b2i_1.mp c_3
    obtain ⟨j, hj, ej⟩ : ∃ j, j < n ∧ x = nI j := ix_of (by omega) (by (simp only [decide_eq_true_eq, decide_eq_false_iff_not, Bool.and_eq_true, Bool.and_eq_false_iff, Bool.or_eq_true, Bool.or_eq_false_iff, Bool.not_eq_true, Bool.not_eq_false, ne_eq, not_and, not_or, tog_t, tog_f, ahd_t, ahd_f, isoB_t, isoB_f, ixB_t, ixB_f, vOK_t, vOK_f, wOK_t, wOK_f, tn4, Int32.lt_iff_toInt_lt, Int32.le_iff_toInt_le, ← Int32.toInt_inj, tI0, tI1, tI2, tI3, tI4, tI6, tI14, tI59, tI60, tI127, tI1000, tI100000, tIm1, tIm2, tIm3, tIm4, tIbig] at c_3 ⊢ <;> omega))
    refine lv_iload_n hx hb dX7_move_11 rfl (lv_at hl 2 rfl) ?_
    refine lv_iload_n hx hb dX7_move_12 rfl (lv_at hl 3 rfl) ?_
    refine lv_iload hx hb dX7_move_13 (lv_at hl 4 rfl) ?_
    refine vp_callSi (gk_run (va_runS (As := [.int f, .int tv, .int q]) (rest := []) ⟨hx, hb, hml, hown, hts⟩ (c_X7_canSound l f tv q) (gk_cwS 3 hts gX7_move_X7_canSound rfl rfl rfl (by decide +kernel) ⟨Nat.le_of_ble_eq_true rfl, Nat.le_of_ble_eq_true rfl⟩) ⟨gk_fbT, fun U hU hW => ⟨rfl, trivial⟩⟩ rfl rfl hl.1 rfl (lv_room (Nat.le_of_ble_eq_true rfl)) dX7_move_15 ⟨Nat.zero_le _, Nat.zero_le _⟩)) (fun r_4 er_4 => ?_)
    subst er_4
    refine lv_if_ne (tgt := 24) hx hb dX7_move_18 (by decide) (fun c_5 => ?_) (fun c_5 => ?_)
    · skip
      have c_5 : (okN f tv q) = true := b2i_1.mp c_5
      refine lv_aload_n hx hb dX7_move_24 rfl (lv_at hl 0 rfl) ?_
      refine va_get (D := (dC, dI)) (ci := 7) (v := .ref (b 1)) (C := RX7) (T := TX7) (N := 7) hx hb hts i_X7 hown hK hP 0 rfl rfl 0 (by decide) k_0 (fun _ h9 => h9) rfl dX7_move_25 ?_
      refine lv_iload_n hx hb dX7_move_28 rfl (lv_at hl 1 rfl) ?_
      refine gk_top (y := nI j) (ej) ?_
      refine lv_iload_n hx hb dX7_move_29 rfl (lv_at hl 2 rfl) ?_
      refine lv_iload_n hx hb dX7_move_30 rfl (lv_at hl 3 rfl) ?_
      refine lv_iload hx hb dX7_move_31 (lv_at hl 4 rfl) ?_
      have hPc := hP.sub (ws' := [(b 1, .inr (6, [.int (nI n), .ref (b 2), .ref (b 3), .ref (b 4), .ref (b 5), .ref (b 6), .ref (b 7)])), (b 2, .inl (cI, 60, .inl F)), (b 3, .inl (cI, 60, .inl T)), (b 4, .inl (cI, 60, .inl P)), (b 5, .inl (cI, 60, .inl V)), (b 6, .inl (cI, 60, .inl (fun j => nI (o j)))), (b 7, .inl (cI, 60, .inl (fun j => nI (kr j))))]) [1, 2, 3, 4, 5, 6, 7] rfl
      have hDc := hD.sub (ws' := [(b 1, .inr (6, [.int (nI n), .ref (b 2), .ref (b 3), .ref (b 4), .ref (b 5), .ref (b 6), .ref (b 7)])), (b 2, .inl (cI, 60, .inl F)), (b 3, .inl (cI, 60, .inl T)), (b 4, .inl (cI, 60, .inl P)), (b 5, .inl (cI, 60, .inl V)), (b 6, .inl (cI, 60, .inl (fun j => nI (o j)))), (b 7, .inl (cI, 60, .inl (fun j => nI (kr j))))]) [1, 2, 3, 4, 5, 6, 7] (by decide) rfl
      have hFc := va_free (wc := [(b 1, .inr (6, [.int (nI n), .ref (b 2), .ref (b 3), .ref (b 4), .ref (b 5), .ref (b 6), .ref (b 7)])), (b 2, .inl (cI, 60, .inl F)), (b 3, .inl (cI, 60, .inl T)), (b 4, .inl (cI, 60, .inl P)), (b 5, .inl (cI, 60, .inl V)), (b 6, .inl (cI, 60, .inl (fun j => nI (o j)))), (b 7, .inl (cI, 60, .inl (fun j => nI (kr j))))]) hD hS hA [1, 2, 3, 4, 5, 6, 7] rfl
      refine va_callv (va_runV (As := [.int (nI j), .int f, .int tv, .int q]) (rest := []) ⟨hx, hb, hml, hown, hts⟩ (c_X6_change l dC dI cI s.heap.size b n F T P V o kr hn ho hp j (by omega) f tv q) (cwV 4 hts gX7_move_X6_change rfl rfl rfl (by decide +kernel) ⟨Nat.le_of_ble_eq_true rfl, Nat.le_of_ble_eq_true rfl⟩) ⟨gk_fbW, va_recv hK hPc (ci := 6) (q0 := 0) rfl rfl, fun U hU hW => ⟨rfl, by rw [hU], by rw [hU]; exact hPc, va_K.moved hW.alike hK, hDc.weaken (fun _ _ _ _ => trivial)⟩⟩ rfl rfl hl.1 rfl (lv_room (Nat.le_of_ble_eq_true rfl)) dX7_move_33 ⟨Nat.zero_le _, Nat.zero_le _⟩) hS (fun q _ h => hFc q h) hFc (fun u t H1 locs ht hvm hw hB hz1 hk1 hS => ?_)
      obtain ⟨o1, k1⟩ := u
      obtain ⟨hP1, hK1, hD1⟩ := hB
      rw [ht] at hP1
      try dsimp only at hw
      obtain ⟨hP, hD⟩ := va_join (wr := [(b 0, .inr (7, [.ref (b 1), .ref (b 8), .ref (b 9), .ref (b 12), .ref (b 13), .ref (b 16), .ref (b 19)])), (b 8, .inl (cI, 4, .inl Wt)), (b 9, .inr (5, [.ref (b 1), .int rc, .ref (b 10), .ref (b 11)])), (b 10, .inl (cI, 61, .inl RB)), (b 11, .inl (cI, 61, .inl RE)), (b 12, .inr (4, [.ref (b 1), .int p1, .int p2])), (b 13, .inr (0, [.ref (b 1), .ref (b 8), .ref (b 12)])), (b 14, .inr (3, [.ref (b 1), .ref (b 8), .ref (b 15)])), (b 15, .inl (cI, 4, .inl LA)), (b 16, .inr (1, [.ref (b 1), .ref (b 14), .ref (b 17), .int vs, .ref kn])), (b 17, .inl (cI, 4, .inl PL)), (kn, .inl (cI, kl, .inl KN)), (b 19, .inr (2, [.ref (b 1), .ref (b 14), .ref (b 20)])), (b 20, .inl (cI, 60, .inl CH))]) (w1 := [(b 1, .inr (6, [.int (nI n), .ref (b 2), .ref (b 3), .ref (b 4), .ref (b 5), .ref (b 6), .ref (b 7)])), (b 2, .inl (cI, 60, .inl (upd F j f))), (b 3, .inl (cI, 60, .inl (upd T j tv))), (b 4, .inl (cI, 60, .inl (upd P j q))), (b 5, .inl (cI, 60, .inl V)), (b 6, .inl (cI, 60, .inl (fun j => nI (o1 j)))), (b 7, .inl (cI, 60, .inl (fun j => nI (k1 j))))]) hP hD [1, 2, 3, 4, 5, 6, 7] [0, 8, 9, 10, 11, 12, 13, 14, 15, 16, 17, 18, 19, 20] rfl rfl (by decide) (by decide) hk1 hFc hP1 hD1
      generalize H1 = H at hP hS ⊢
      have hP := hP.sub (ws' := [(b 0, .inr (7, [.ref (b 1), .ref (b 8), .ref (b 9), .ref (b 12), .ref (b 13), .ref (b 16), .ref (b 19)])), (b 1, .inr (6, [.int (nI n), .ref (b 2), .ref (b 3), .ref (b 4), .ref (b 5), .ref (b 6), .ref (b 7)])), (b 2, .inl (cI, 60, .inl (upd F j f))), (b 3, .inl (cI, 60, .inl (upd T j tv))), (b 4, .inl (cI, 60, .inl (upd P j q))), (b 5, .inl (cI, 60, .inl V)), (b 6, .inl (cI, 60, .inl (fun j => nI (o1 j)))), (b 7, .inl (cI, 60, .inl (fun j => nI (k1 j)))), (b 8, .inl (cI, 4, .inl Wt)), (b 9, .inr (5, [.ref (b 1), .int rc, .ref (b 10), .ref (b 11)])), (b 10, .inl (cI, 61, .inl RB)), (b 11, .inl (cI, 61, .inl RE)), (b 12, .inr (4, [.ref (b 1), .int p1, .int p2])), (b 13, .inr (0, [.ref (b 1), .ref (b 8), .ref (b 12)])), (b 14, .inr (3, [.ref (b 1), .ref (b 8), .ref (b 15)])), (b 15, .inl (cI, 4, .inl LA)), (b 16, .inr (1, [.ref (b 1), .ref (b 14), .ref (b 17), .int vs, .ref kn])), (b 17, .inl (cI, 4, .inl PL)), (kn, .inl (cI, kl, .inl KN)), (b 19, .inr (2, [.ref (b 1), .ref (b 14), .ref (b 20)])), (b 20, .inl (cI, 60, .inl CH))]) [0, 14, 15, 16, 17, 18, 19, 20, 1, 2, 3, 4, 5, 6, 7, 8, 9, 10, 11, 12, 13] rfl
      have hD := hD.sub (ws' := [(b 0, .inr (7, [.ref (b 1), .ref (b 8), .ref (b 9), .ref (b 12), .ref (b 13), .ref (b 16), .ref (b 19)])), (b 1, .inr (6, [.int (nI n), .ref (b 2), .ref (b 3), .ref (b 4), .ref (b 5), .ref (b 6), .ref (b 7)])), (b 2, .inl (cI, 60, .inl (upd F j f))), (b 3, .inl (cI, 60, .inl (upd T j tv))), (b 4, .inl (cI, 60, .inl (upd P j q))), (b 5, .inl (cI, 60, .inl V)), (b 6, .inl (cI, 60, .inl (fun j => nI (o1 j)))), (b 7, .inl (cI, 60, .inl (fun j => nI (k1 j)))), (b 8, .inl (cI, 4, .inl Wt)), (b 9, .inr (5, [.ref (b 1), .int rc, .ref (b 10), .ref (b 11)])), (b 10, .inl (cI, 61, .inl RB)), (b 11, .inl (cI, 61, .inl RE)), (b 12, .inr (4, [.ref (b 1), .int p1, .int p2])), (b 13, .inr (0, [.ref (b 1), .ref (b 8), .ref (b 12)])), (b 14, .inr (3, [.ref (b 1), .ref (b 8), .ref (b 15)])), (b 15, .inl (cI, 4, .inl LA)), (b 16, .inr (1, [.ref (b 1), .ref (b 14), .ref (b 17), .int vs, .ref kn])), (b 17, .inl (cI, 4, .inl PL)), (kn, .inl (cI, kl, .inl KN)), (b 19, .inr (2, [.ref (b 1), .ref (b 14), .ref (b 20)])), (b 20, .inl (cI, 60, .inl CH))]) [0, 14, 15, 16, 17, 18, 19, 20, 1, 2, 3, 4, 5, 6, 7, 8, 9, 10, 11, 12, 13] (by decide) rfl
      have hP : va_P (dC, dI) vwCl [(b 0, .inr (7, [.ref (b 1), .ref (b 8), .ref (b 9), .ref (b 12), .ref (b 13), .ref (b 16), .ref (b 19)])), (b 1, .inr (6, [.int (nI n), .ref (b 2), .ref (b 3), .ref (b 4), .ref (b 5), .ref (b 6), .ref (b 7)])), (b 2, .inl (cI, 60, .inl (upd F j f))), (b 3, .inl (cI, 60, .inl (upd T j tv))), (b 4, .inl (cI, 60, .inl (upd P j q))), (b 5, .inl (cI, 60, .inl V)), (b 6, .inl (cI, 60, .inl (fun j => nI (o1 j)))), (b 7, .inl (cI, 60, .inl (fun j => nI (k1 j)))), (b 8, .inl (cI, 4, .inl Wt)), (b 9, .inr (5, [.ref (b 1), .int rc, .ref (b 10), .ref (b 11)])), (b 10, .inl (cI, 61, .inl RB)), (b 11, .inl (cI, 61, .inl RE)), (b 12, .inr (4, [.ref (b 1), .int p1, .int p2])), (b 13, .inr (0, [.ref (b 1), .ref (b 8), .ref (b 12)])), (b 14, .inr (3, [.ref (b 1), .ref (b 8), .ref (b 15)])), (b 15, .inl (cI, 4, .inl LA)), (b 16, .inr (1, [.ref (b 1), .ref (b 14), .ref (b 17), .int vs, .ref kn])), (b 17, .inl (cI, 4, .inl PL)), (kn, .inl (cI, kl, .inl KN)), (b 19, .inr (2, [.ref (b 1), .ref (b 14), .ref (b 20)])), (b 20, .inl (cI, 60, .inl CH))] H := hP
      have hD : va_D A [(b 0, .inr (7, [.ref (b 1), .ref (b 8), .ref (b 9), .ref (b 12), .ref (b 13), .ref (b 16), .ref (b 19)])), (b 1, .inr (6, [.int (nI n), .ref (b 2), .ref (b 3), .ref (b 4), .ref (b 5), .ref (b 6), .ref (b 7)])), (b 2, .inl (cI, 60, .inl (upd F j f))), (b 3, .inl (cI, 60, .inl (upd T j tv))), (b 4, .inl (cI, 60, .inl (upd P j q))), (b 5, .inl (cI, 60, .inl V)), (b 6, .inl (cI, 60, .inl (fun j => nI (o1 j)))), (b 7, .inl (cI, 60, .inl (fun j => nI (k1 j)))), (b 8, .inl (cI, 4, .inl Wt)), (b 9, .inr (5, [.ref (b 1), .int rc, .ref (b 10), .ref (b 11)])), (b 10, .inl (cI, 61, .inl RB)), (b 11, .inl (cI, 61, .inl RE)), (b 12, .inr (4, [.ref (b 1), .int p1, .int p2])), (b 13, .inr (0, [.ref (b 1), .ref (b 8), .ref (b 12)])), (b 14, .inr (3, [.ref (b 1), .ref (b 8), .ref (b 15)])), (b 15, .inl (cI, 4, .inl LA)), (b 16, .inr (1, [.ref (b 1), .ref (b 14), .ref (b 17), .int vs, .ref kn])), (b 17, .inl (cI, 4, .inl PL)), (kn, .inl (cI, kl, .inl KN)), (b 19, .inr (2, [.ref (b 1), .ref (b 14), .ref (b 20)])), (b 20, .inl (cI, 60, .inl CH))] := hD
      obtain ⟨w1, w2, w3, w4, w5⟩ := hw
      refine lv_iconst (v := 1) hx hb dX7_move_36 (by decide) ?_
      exact W.iret (v := 1) hx hb hr (fun t ht hW => ⟨⟨_, ((n, upd F j f, upd T j tv, upd P j q, V, Wt, o1), (k1, rc, RB, RE, p1, p2, LA, vs, PL, kn, kl, KN, CH)), rfl, (by refine ⟨fun h => ?_, fun k hk ek _ => ?_⟩; (exfalso; rcases h with h | h <;> first | exact no_tf (ix_in hj (by omega) ej) h | exact no_tf (by assumption) h); obtain rfl := nI_j hj hk (by omega) ej ek; exact ⟨rfl, o1, k1, rfl, w1, w2, w3, w4, w5⟩), by rw [ht]; exact hP, va_K.moved hW.alike hK, hD⟩, hS.F ht⟩) hS.2.2 dX7_move_37
    · skip
      have c_5 : (okN f tv q) = false := b2i_0.mp c_5
      refine lv_bipush (v := (-2)) hx hb dX7_move_21 (by decide) ?_
      exact W.iret (v := (-2)) hx hb hr (fun t ht hW => ⟨⟨_, ((n, F, T, P, V, Wt, o), (kr, rc, RB, RE, p1, p2, LA, vs, PL, kn, kl, KN, CH)), rfl, (by refine ⟨fun _ => ⟨rfl, rfl⟩, fun j hj ej ho => ?_⟩; exfalso; have hi := ix_in hj (by omega) ej; first | exact no_tf ho (by assumption) | exact no_tf hi (by assumption) | (simp only [decide_eq_true_eq, decide_eq_false_iff_not, Bool.and_eq_true, Bool.and_eq_false_iff, Bool.or_eq_true, Bool.or_eq_false_iff, Bool.not_eq_true, Bool.not_eq_false, ne_eq, not_and, not_or, tog_t, tog_f, ahd_t, ahd_f, isoB_t, isoB_f, ixB_t, ixB_f, vOK_t, vOK_f, wOK_t, wOK_f, tn4, Int32.lt_iff_toInt_lt, Int32.le_iff_toInt_le, ← Int32.toInt_inj, tI0, tI1, tI2, tI3, tI4, tI6, tI14, tI59, tI60, tI127, tI1000, tI100000, tIm1, tIm2, tIm3, tIm4, tIbig] at hi c_3 c_5 <;> omega)), by rw [ht]; exact hP, va_K.moved hW.alike hK, hD⟩, hS.F ht⟩) hS.2.2 dX7_move_23

set_option maxHeartbeats 4000000 in
set_option maxRecDepth 100000 in
theorem c_X8_move (l : Launch) (dC : Nat → ClassId) (dI : Nat → Nat → Nat) (cI : ClassId) (sz : Nat) (a : Nat → Nat) (n : Nat) (F T P V Wt : Nat → Int32) (o : Nat → Nat) (G L R : Nat → Int32) (hn : n ≤ 60) (ho : ∀ j, o j < 60) (x f tv q : Int32) : Met l yX8_move wsX8_move ({ frames := 3, cells := 0, slots := 0, locals := 66 } : Room) (va_Pc [.ref (a 0), .int x, .int f, .int tv, .int q] (fun U => U.heap.size = sz ∧ va_P (dC, dI) vwCl (mW cI a (nI n) F T P V Wt (fun j => nI (o j)) G L R) U.heap ∧ va_K (dC, dI) vwCl [(cI, .int)] U ∧ va_D (fun _ => True) (mW cI a (nI n) F T P V Wt (fun j => nI (o j)) G L R))) (va_Qi (fun (r : Int32) (u : SS × MJ) => (ixB x n = false ∨ okN f tv q = false → r = -2 ∧ u = ((n, F, T, P, V, Wt, o), (G, L, R))) ∧ (∀ j, j < n → x = nI j → okN f tv q = true → r = 1 ∧ ∃ o1 : Nat → Nat, u = ((n, upd F j f, upd T j tv, upd P j q, V, Wt, o1), (G, L, R)) ∧ (∀ j, o1 j < 60) ∧ (∀ i, i < n → o1 (rkN (upd F j f) (upd P j q) n i) = i) ∧ (∀ j, n ≤ j → o1 j = o j))) (fun u t => va_P (dC, dI) vwCl (mWu cI a u.1 u.2) t.heap ∧ va_K (dC, dI) vwCl [(cI, .int)] t ∧ va_D (va_A (mW cI a (nI n) F T P V Wt (fun j => nI (o j)) G L R) sz) (mWu cI a u.1 u.2)) (va_A (mW cI a (nI n) F T P V Wt (fun j => nI (o j)) G L R) sz)) 0 0 (va_A (mW cI a (nI n) F T P V Wt (fun j => nI (o j)) G L R) sz) := by
  refine Met.ofW (cc := cX8_move) (maxL := 5) (ret := (some .int)) (by decide) rfl ?_
  intro p e s m args below meth c s₁ B hml hv
  obtain ⟨rfl, hsz, hP, hK, hD0⟩ := hv
  have hx := B.exec
  have hb := B.bytes
  have hr := B.returns
  have hts := atoms_spec (ws := wsX8_move) B.pre
  have hown : s.vm.findClass RX8 = some m.cls := findClass_of_methodNamed B.named
  have hlocks := B.notSynchronized
  subst hsz
  have hD := hD0.self (sz := s.heap.size)
  generalize hAe : va_A (mW cI a (nI n) F T P V Wt (fun j => nI (o j)) G L R) s.heap.size = A at hD ⊢
  have hA : ∀ q : Nat, s.heap.size ≤ q → A q := fun q h => by rw [← hAe]; exact Or.inr h
  have hS : va_S A s.heap s.heap [] := va_S.rf
  have i_X8 : ∀ w ∈ u_ws RX8 TX8 10, w ∈ wsX8_move := by decide +kernel
  have k_0 := hts (.fieldLink RX8 38 "VoiceRowsModel" "notes" "I") (by decide +kernel)
  have k_1 := hts (.fieldLink RX8 7 "VoiceRowsModel" "from" "[I") (by decide +kernel)
  have k_2 := hts (.fieldLink RX8 13 "VoiceRowsModel" "to" "[I") (by decide +kernel)
  have k_3 := hts (.fieldLink RX8 16 "VoiceRowsModel" "pitch" "[I") (by decide +kernel)
  have hl := lv_entry ([.ref (a 0), .int x, .int f, .int tv, .int q]) (n := 5) (Nat.le_of_ble_eq_true rfl)
  rw [lg_entry_eq]
  generalize (lg_sl ([.ref (a 0), .int x, .int f, .int tv, .int q]) ++ List.replicate (5 - (lg_sl ([.ref (a 0), .int x, .int f, .int tv, .int q])).length) Slot.unset).toArray = ls at hl ⊢
  have hl : lv_has ls 5 [(0, .ref (a 0)), (1, .int x), (2, .int f), (3, .int tv), (4, .int q)] := hl
  refine lv_iload_n hx hb dX8_move_0 rfl (lv_at hl 1 rfl) ?_
  refine lv_if_lt (tgt := 22) hx hb dX8_move_1 (by decide) (fun c_1 => ?_) (fun c_1 => ?_)
  · skip
    refine lv_bipush (v := (-2)) hx hb dX8_move_22 (by decide) ?_
    exact W.iret (v := (-2)) hx hb hr (fun t ht hW => ⟨⟨_, ((n, F, T, P, V, Wt, o), (G, L, R)), rfl, (by refine ⟨fun _ => ⟨rfl, rfl⟩, fun j hj ej ho => ?_⟩; exfalso; have hi := ix_in hj (by omega) ej; first | exact no_tf ho (by assumption) | exact no_tf hi (by assumption) | (simp only [decide_eq_true_eq, decide_eq_false_iff_not, Bool.and_eq_true, Bool.and_eq_false_iff, Bool.or_eq_true, Bool.or_eq_false_iff, Bool.not_eq_true, Bool.not_eq_false, ne_eq, not_and, not_or, tog_t, tog_f, ahd_t, ahd_f, isoB_t, isoB_f, ixB_t, ixB_f, vOK_t, vOK_f, wOK_t, wOK_f, tn4, Int32.lt_iff_toInt_lt, Int32.le_iff_toInt_le, ← Int32.toInt_inj, tI0, tI1, tI2, tI3, tI4, tI6, tI14, tI59, tI60, tI127, tI1000, tI100000, tIm1, tIm2, tIm3, tIm4, tIbig] at hi c_1 <;> omega)), by rw [ht]; exact hP, va_K.moved hW.alike hK, hD⟩, hS.F ht⟩) hS.2.2 dX8_move_24
  · skip
    refine lv_iload_n hx hb dX8_move_4 rfl (lv_at hl 1 rfl) ?_
    refine lv_aload_n hx hb dX8_move_5 rfl (lv_at hl 0 rfl) ?_
    refine va_get (D := (dC, dI)) (ci := 8) (v := .int (nI n)) (C := RX8) (T := TX8) (N := 10) hx hb hts i_X8 hown hK hP 0 rfl rfl 4 (by decide) k_0 (fun _ h9 => h9) rfl dX8_move_6 ?_
    refine lv_icmp_ge (tgt := 22) hx hb dX8_move_9 (by decide) (fun c_2 => ?_) (fun c_2 => ?_)
    · skip
      refine lv_bipush (v := (-2)) hx hb dX8_move_22 (by decide) ?_
      exact W.iret (v := (-2)) hx hb hr (fun t ht hW => ⟨⟨_, ((n, F, T, P, V, Wt, o), (G, L, R)), rfl, (by refine ⟨fun _ => ⟨rfl, rfl⟩, fun j hj ej ho => ?_⟩; exfalso; have hi := ix_in hj (by omega) ej; first | exact no_tf ho (by assumption) | exact no_tf hi (by assumption) | (simp only [decide_eq_true_eq, decide_eq_false_iff_not, Bool.and_eq_true, Bool.and_eq_false_iff, Bool.or_eq_true, Bool.or_eq_false_iff, Bool.not_eq_true, Bool.not_eq_false, ne_eq, not_and, not_or, tog_t, tog_f, ahd_t, ahd_f, isoB_t, isoB_f, ixB_t, ixB_f, vOK_t, vOK_f, wOK_t, wOK_f, tn4, Int32.lt_iff_toInt_lt, Int32.le_iff_toInt_le, ← Int32.toInt_inj, tI0, tI1, tI2, tI3, tI4, tI6, tI14, tI59, tI60, tI127, tI1000, tI100000, tIm1, tIm2, tIm3, tIm4, tIbig] at hi c_1 c_2 <;> omega)), by rw [ht]; exact hP, va_K.moved hW.alike hK, hD⟩, hS.F ht⟩) hS.2.2 dX8_move_24
    · skip
      obtain ⟨j, hj, ej⟩ : ∃ j, j < n ∧ x = nI j := ix_of (by omega) (by (simp only [decide_eq_true_eq, decide_eq_false_iff_not, Bool.and_eq_true, Bool.and_eq_false_iff, Bool.or_eq_true, Bool.or_eq_false_iff, Bool.not_eq_true, Bool.not_eq_false, ne_eq, not_and, not_or, tog_t, tog_f, ahd_t, ahd_f, isoB_t, isoB_f, ixB_t, ixB_f, vOK_t, vOK_f, wOK_t, wOK_f, tn4, Int32.lt_iff_toInt_lt, Int32.le_iff_toInt_le, ← Int32.toInt_inj, tI0, tI1, tI2, tI3, tI4, tI6, tI14, tI59, tI60, tI127, tI1000, tI100000, tIm1, tIm2, tIm3, tIm4, tIbig] at c_1 c_2 ⊢ <;> omega))
      refine lv_iload_n hx hb dX8_move_12 rfl (lv_at hl 2 rfl) ?_
      refine lv_iload_n hx hb dX8_move_13 rfl (lv_at hl 3 rfl) ?_
      refine lv_iload hx hb dX8_move_14 (lv_at hl 4 rfl) ?_
      refine vp_callSi (gk_run (va_runS (As := [.int f, .int tv, .int q]) (rest := []) ⟨hx, hb, hml, hown, hts⟩ (c_X8_isNote l f tv q) (gk_cwS 3 hts gX8_move_X8_isNote rfl rfl rfl (by decide +kernel) ⟨Nat.le_of_ble_eq_true rfl, Nat.le_of_ble_eq_true rfl⟩) ⟨gk_fbT, fun U hU hW => ⟨rfl, trivial⟩⟩ rfl rfl hl.1 rfl (lv_room (Nat.le_of_ble_eq_true rfl)) dX8_move_16 ⟨Nat.zero_le _, Nat.zero_le _⟩)) (fun r_3 er_3 => ?_)
      subst er_3
      refine lv_if_ne (tgt := 25) hx hb dX8_move_19 (by decide) (fun c_4 => ?_) (fun c_4 => ?_)
      · skip
        have c_4 : (okN f tv q) = true := b2i_1.mp c_4
        refine lv_aload_n hx hb dX8_move_25 rfl (lv_at hl 0 rfl) ?_
        refine va_get (D := (dC, dI)) (ci := 8) (v := .ref (a 1)) (C := RX8) (T := TX8) (N := 10) hx hb hts i_X8 hown hK hP 0 rfl rfl 0 (by decide) k_1 (fun _ h9 => h9) rfl dX8_move_26 ?_
        refine lv_iload_n hx hb dX8_move_29 rfl (lv_at hl 1 rfl) ?_
        refine gk_top (y := nI j) (ej) ?_
        refine lv_iload_n hx hb dX8_move_30 rfl (lv_at hl 2 rfl) ?_
        refine gk_st hx hb hK hP hD hS 1 0 rfl rfl j (by omega) (by omega) dX8_move_31 (fun H locs hP hD hS => ?_)
        have hP : va_P (dC, dI) vwCl [(a 0, .inr (8, [.ref (a 1), .ref (a 2), .ref (a 3), .ref (a 4), .int (nI n), .ref (a 5), .ref (a 6), .ref (a 7), .ref (a 8), .ref (a 9)])), (a 1, .inl (cI, 60, .inl (upd F j f))), (a 2, .inl (cI, 60, .inl T)), (a 3, .inl (cI, 60, .inl P)), (a 4, .inl (cI, 60, .inl V)), (a 5, .inl (cI, 4, .inl Wt)), (a 6, .inl (cI, 60, .inl (fun j => nI (o j)))), (a 7, .inl (cI, 60, .inl G)), (a 8, .inl (cI, 4, .inl L)), (a 9, .inl (cI, 759375, .inl R))] H := hP
        have hD : va_D A [(a 0, .inr (8, [.ref (a 1), .ref (a 2), .ref (a 3), .ref (a 4), .int (nI n), .ref (a 5), .ref (a 6), .ref (a 7), .ref (a 8), .ref (a 9)])), (a 1, .inl (cI, 60, .inl (upd F j f))), (a 2, .inl (cI, 60, .inl T)), (a 3, .inl (cI, 60, .inl P)), (a 4, .inl (cI, 60, .inl V)), (a 5, .inl (cI, 4, .inl Wt)), (a 6, .inl (cI, 60, .inl (fun j => nI (o j)))), (a 7, .inl (cI, 60, .inl G)), (a 8, .inl (cI, 4, .inl L)), (a 9, .inl (cI, 759375, .inl R))] := hD
        refine lv_aload_n hx hb dX8_move_32 rfl (lv_at hl 0 rfl) ?_
        refine va_get (D := (dC, dI)) (ci := 8) (v := .ref (a 2)) (C := RX8) (T := TX8) (N := 10) hx hb hts i_X8 hown hK hP 0 rfl rfl 1 (by decide) k_2 (fun _ h9 => h9) rfl dX8_move_33 ?_
        refine lv_iload_n hx hb dX8_move_36 rfl (lv_at hl 1 rfl) ?_
        refine gk_top (y := nI j) (ej) ?_
        refine lv_iload_n hx hb dX8_move_37 rfl (lv_at hl 3 rfl) ?_
        refine gk_st hx hb hK hP hD hS 2 0 rfl rfl j (by omega) (by omega) dX8_move_38 (fun H locs hP hD hS => ?_)
        have hP : va_P (dC, dI) vwCl [(a 0, .inr (8, [.ref (a 1), .ref (a 2), .ref (a 3), .ref (a 4), .int (nI n), .ref (a 5), .ref (a 6), .ref (a 7), .ref (a 8), .ref (a 9)])), (a 1, .inl (cI, 60, .inl (upd F j f))), (a 2, .inl (cI, 60, .inl (upd T j tv))), (a 3, .inl (cI, 60, .inl P)), (a 4, .inl (cI, 60, .inl V)), (a 5, .inl (cI, 4, .inl Wt)), (a 6, .inl (cI, 60, .inl (fun j => nI (o j)))), (a 7, .inl (cI, 60, .inl G)), (a 8, .inl (cI, 4, .inl L)), (a 9, .inl (cI, 759375, .inl R))] H := hP
        have hD : va_D A [(a 0, .inr (8, [.ref (a 1), .ref (a 2), .ref (a 3), .ref (a 4), .int (nI n), .ref (a 5), .ref (a 6), .ref (a 7), .ref (a 8), .ref (a 9)])), (a 1, .inl (cI, 60, .inl (upd F j f))), (a 2, .inl (cI, 60, .inl (upd T j tv))), (a 3, .inl (cI, 60, .inl P)), (a 4, .inl (cI, 60, .inl V)), (a 5, .inl (cI, 4, .inl Wt)), (a 6, .inl (cI, 60, .inl (fun j => nI (o j)))), (a 7, .inl (cI, 60, .inl G)), (a 8, .inl (cI, 4, .inl L)), (a 9, .inl (cI, 759375, .inl R))] := hD
        refine lv_aload_n hx hb dX8_move_39 rfl (lv_at hl 0 rfl) ?_
        refine va_get (D := (dC, dI)) (ci := 8) (v := .ref (a 3)) (C := RX8) (T := TX8) (N := 10) hx hb hts i_X8 hown hK hP 0 rfl rfl 2 (by decide) k_3 (fun _ h9 => h9) rfl dX8_move_40 ?_
        refine lv_iload_n hx hb dX8_move_43 rfl (lv_at hl 1 rfl) ?_
        refine gk_top (y := nI j) (ej) ?_
        refine lv_iload hx hb dX8_move_44 (lv_at hl 4 rfl) ?_
        refine gk_st hx hb hK hP hD hS 3 0 rfl rfl j (by omega) (by omega) dX8_move_46 (fun H locs hP hD hS => ?_)
        have hP : va_P (dC, dI) vwCl [(a 0, .inr (8, [.ref (a 1), .ref (a 2), .ref (a 3), .ref (a 4), .int (nI n), .ref (a 5), .ref (a 6), .ref (a 7), .ref (a 8), .ref (a 9)])), (a 1, .inl (cI, 60, .inl (upd F j f))), (a 2, .inl (cI, 60, .inl (upd T j tv))), (a 3, .inl (cI, 60, .inl (upd P j q))), (a 4, .inl (cI, 60, .inl V)), (a 5, .inl (cI, 4, .inl Wt)), (a 6, .inl (cI, 60, .inl (fun j => nI (o j)))), (a 7, .inl (cI, 60, .inl G)), (a 8, .inl (cI, 4, .inl L)), (a 9, .inl (cI, 759375, .inl R))] H := hP
        have hD : va_D A [(a 0, .inr (8, [.ref (a 1), .ref (a 2), .ref (a 3), .ref (a 4), .int (nI n), .ref (a 5), .ref (a 6), .ref (a 7), .ref (a 8), .ref (a 9)])), (a 1, .inl (cI, 60, .inl (upd F j f))), (a 2, .inl (cI, 60, .inl (upd T j tv))), (a 3, .inl (cI, 60, .inl (upd P j q))), (a 4, .inl (cI, 60, .inl V)), (a 5, .inl (cI, 4, .inl Wt)), (a 6, .inl (cI, 60, .inl (fun j => nI (o j)))), (a 7, .inl (cI, 60, .inl G)), (a 8, .inl (cI, 4, .inl L)), (a 9, .inl (cI, 759375, .inl R))] := hD
        refine lv_aload_n hx hb dX8_move_47 rfl (lv_at hl 0 rfl) ?_
        have hPc := hP.sub (ws' := [(a 0, .inr (8, [.ref (a 1), .ref (a 2), .ref (a 3), .ref (a 4), .int (nI n), .ref (a 5), .ref (a 6), .ref (a 7), .ref (a 8), .ref (a 9)])), (a 1, .inl (cI, 60, .inl (upd F j f))), (a 2, .inl (cI, 60, .inl (upd T j tv))), (a 3, .inl (cI, 60, .inl (upd P j q))), (a 4, .inl (cI, 60, .inl V)), (a 5, .inl (cI, 4, .inl Wt)), (a 6, .inl (cI, 60, .inl (fun j => nI (o j)))), (a 7, .inl (cI, 60, .inl G)), (a 8, .inl (cI, 4, .inl L)), (a 9, .inl (cI, 759375, .inl R))]) [0, 1, 2, 3, 4, 5, 6, 7, 8, 9] rfl
        have hDc := hD.sub (ws' := [(a 0, .inr (8, [.ref (a 1), .ref (a 2), .ref (a 3), .ref (a 4), .int (nI n), .ref (a 5), .ref (a 6), .ref (a 7), .ref (a 8), .ref (a 9)])), (a 1, .inl (cI, 60, .inl (upd F j f))), (a 2, .inl (cI, 60, .inl (upd T j tv))), (a 3, .inl (cI, 60, .inl (upd P j q))), (a 4, .inl (cI, 60, .inl V)), (a 5, .inl (cI, 4, .inl Wt)), (a 6, .inl (cI, 60, .inl (fun j => nI (o j)))), (a 7, .inl (cI, 60, .inl G)), (a 8, .inl (cI, 4, .inl L)), (a 9, .inl (cI, 759375, .inl R))]) [0, 1, 2, 3, 4, 5, 6, 7, 8, 9] (by decide) rfl
        have hFc := va_free (wc := [(a 0, .inr (8, [.ref (a 1), .ref (a 2), .ref (a 3), .ref (a 4), .int (nI n), .ref (a 5), .ref (a 6), .ref (a 7), .ref (a 8), .ref (a 9)])), (a 1, .inl (cI, 60, .inl (upd F j f))), (a 2, .inl (cI, 60, .inl (upd T j tv))), (a 3, .inl (cI, 60, .inl (upd P j q))), (a 4, .inl (cI, 60, .inl V)), (a 5, .inl (cI, 4, .inl Wt)), (a 6, .inl (cI, 60, .inl (fun j => nI (o j)))), (a 7, .inl (cI, 60, .inl G)), (a 8, .inl (cI, 4, .inl L)), (a 9, .inl (cI, 759375, .inl R))]) hD hS hA [0, 1, 2, 3, 4, 5, 6, 7, 8, 9] rfl
        refine va_callv (va_runV (As := []) (rest := []) ⟨hx, hb, hml, hown, hts⟩ (c_X8_sort l dC dI cI H.size a n (upd F j f) (upd T j tv) (upd P j q) V Wt o G L R hn ho) (cwV 0 hts gX8_move_X8_sort rfl rfl rfl (by decide +kernel) ⟨Nat.le_of_ble_eq_true rfl, Nat.le_of_ble_eq_true rfl⟩) ⟨gk_fbW, va_recv hK hPc (ci := 8) (q0 := 0) rfl rfl, fun U hU hW => ⟨rfl, by rw [hU], by rw [hU]; exact hPc, va_K.moved hW.alike hK, hDc.weaken (fun _ _ _ _ => trivial)⟩⟩ rfl rfl hl.1 rfl (lv_room (Nat.le_of_ble_eq_true rfl)) dX8_move_48 ⟨Nat.zero_le _, Nat.zero_le _⟩) hS (fun q _ h => hFc q h) hFc (fun u t H1 locs ht hvm hw hB hz1 hk1 hS => ?_)
        obtain ⟨hP1, hK1, hD1⟩ := hB
        rw [ht] at hP1
        try dsimp only at hw
        obtain ⟨hP, hD⟩ := va_join (wr := []) (w1 := [(a 0, .inr (8, [.ref (a 1), .ref (a 2), .ref (a 3), .ref (a 4), .int (nI n), .ref (a 5), .ref (a 6), .ref (a 7), .ref (a 8), .ref (a 9)])), (a 1, .inl (cI, 60, .inl (upd F j f))), (a 2, .inl (cI, 60, .inl (upd T j tv))), (a 3, .inl (cI, 60, .inl (upd P j q))), (a 4, .inl (cI, 60, .inl V)), (a 5, .inl (cI, 4, .inl Wt)), (a 6, .inl (cI, 60, .inl (fun j => nI (u j)))), (a 7, .inl (cI, 60, .inl G)), (a 8, .inl (cI, 4, .inl L)), (a 9, .inl (cI, 759375, .inl R))]) hP hD [0, 1, 2, 3, 4, 5, 6, 7, 8, 9] [] rfl rfl (by decide) (by decide) hk1 hFc hP1 hD1
        generalize H1 = H at hP hS ⊢
        have hP : va_P (dC, dI) vwCl [(a 0, .inr (8, [.ref (a 1), .ref (a 2), .ref (a 3), .ref (a 4), .int (nI n), .ref (a 5), .ref (a 6), .ref (a 7), .ref (a 8), .ref (a 9)])), (a 1, .inl (cI, 60, .inl (upd F j f))), (a 2, .inl (cI, 60, .inl (upd T j tv))), (a 3, .inl (cI, 60, .inl (upd P j q))), (a 4, .inl (cI, 60, .inl V)), (a 5, .inl (cI, 4, .inl Wt)), (a 6, .inl (cI, 60, .inl (fun j => nI (u j)))), (a 7, .inl (cI, 60, .inl G)), (a 8, .inl (cI, 4, .inl L)), (a 9, .inl (cI, 759375, .inl R))] H := hP
        have hD : va_D A [(a 0, .inr (8, [.ref (a 1), .ref (a 2), .ref (a 3), .ref (a 4), .int (nI n), .ref (a 5), .ref (a 6), .ref (a 7), .ref (a 8), .ref (a 9)])), (a 1, .inl (cI, 60, .inl (upd F j f))), (a 2, .inl (cI, 60, .inl (upd T j tv))), (a 3, .inl (cI, 60, .inl (upd P j q))), (a 4, .inl (cI, 60, .inl V)), (a 5, .inl (cI, 4, .inl Wt)), (a 6, .inl (cI, 60, .inl (fun j => nI (u j)))), (a 7, .inl (cI, 60, .inl G)), (a 8, .inl (cI, 4, .inl L)), (a 9, .inl (cI, 759375, .inl R))] := hD
        obtain ⟨w1, w2, w3⟩ := hw
        refine lv_iconst (v := 1) hx hb dX8_move_51 (by decide) ?_
        exact W.iret (v := 1) hx hb hr (fun t ht hW => ⟨⟨_, ((n, upd F j f, upd T j tv, upd P j q, V, Wt, u), (G, L, R)), rfl, (by refine ⟨fun h => ?_, fun k hk ek _ => ?_⟩; (exfalso; rcases h with h | h <;> first | exact no_tf (ix_in hj (by omega) ej) h | exact no_tf (by assumption) h); obtain rfl := nI_j hj hk (by omega) ej ek; exact ⟨rfl, u, rfl, w1, w2, w3⟩), by rw [ht]; exact hP, va_K.moved hW.alike hK, hD⟩, hS.F ht⟩) hS.2.2 dX8_move_52
      · skip
        have c_4 : (okN f tv q) = false := b2i_0.mp c_4
        refine lv_bipush (v := (-2)) hx hb dX8_move_22 (by decide) ?_
        exact W.iret (v := (-2)) hx hb hr (fun t ht hW => ⟨⟨_, ((n, F, T, P, V, Wt, o), (G, L, R)), rfl, (by refine ⟨fun _ => ⟨rfl, rfl⟩, fun j hj ej ho => ?_⟩; exfalso; have hi := ix_in hj (by omega) ej; first | exact no_tf ho (by assumption) | exact no_tf hi (by assumption) | (simp only [decide_eq_true_eq, decide_eq_false_iff_not, Bool.and_eq_true, Bool.and_eq_false_iff, Bool.or_eq_true, Bool.or_eq_false_iff, Bool.not_eq_true, Bool.not_eq_false, ne_eq, not_and, not_or, tog_t, tog_f, ahd_t, ahd_f, isoB_t, isoB_f, ixB_t, ixB_f, vOK_t, vOK_f, wOK_t, wOK_f, tn4, Int32.lt_iff_toInt_lt, Int32.le_iff_toInt_le, ← Int32.toInt_inj, tI0, tI1, tI2, tI3, tI4, tI6, tI14, tI59, tI60, tI127, tI1000, tI100000, tIm1, tIm2, tIm3, tIm4, tIbig] at hi c_1 c_2 c_4 <;> omega)), by rw [ht]; exact hP, va_K.moved hW.alike hK, hD⟩, hS.F ht⟩) hS.2.2 dX8_move_24

set_option maxHeartbeats 4000000 in
set_option maxRecDepth 100000 in
theorem c_X7_weigh (l : Launch) (dC : Nat → ClassId) (dI : Nat → Nat → Nat) (cI : ClassId) (sz : Nat) (b : Nat → Nat) (n : Nat) (F T P V : Nat → Int32) (o kr : Nat → Nat) (Wt : Nat → Int32) (rc : Int32) (RB RE : Nat → Int32) (p1 p2 : Int32) (LA : Nat → Int32) (vs : Int32) (PL : Nat → Int32) (kn kl : Nat) (KN CH : Nat → Int32) (hn : n ≤ 60) (ho : ∀ j, o j < 60) (x w : Int32) : Met l yX7_weigh wsX7_weigh ({ frames := 1, cells := 0, slots := 0, locals := 22 } : Room) (va_Pc [.ref (b 0), .int x, .int w] (fun U => U.heap.size = sz ∧ va_P (dC, dI) vwCl (xW cI b (nI n) F T P V (fun j => nI (o j)) (fun j => nI (kr j)) Wt rc RB RE p1 p2 LA vs PL kn kl KN CH) U.heap ∧ va_K (dC, dI) vwCl [(cI, .int)] U ∧ va_D (fun _ => True) (xW cI b (nI n) F T P V (fun j => nI (o j)) (fun j => nI (kr j)) Wt rc RB RE p1 p2 LA vs PL kn kl KN CH))) (va_Qi (fun (r : Int32) (u : SS × XJ) => (ixB x 4 = false ∨ wOK w = false → r = -2 ∧ u = ((n, F, T, P, V, Wt, o), (kr, rc, RB, RE, p1, p2, LA, vs, PL, kn, kl, KN, CH))) ∧ (∀ j, j < 4 → x = nI j → wOK w = true → r = Wt j ∧ u = ((n, F, T, P, V, upd Wt j w, o), (kr, rc, RB, RE, p1, p2, LA, vs, PL, kn, kl, KN, CH)))) (fun u t => va_P (dC, dI) vwCl (xWu cI b u.1 u.2) t.heap ∧ va_K (dC, dI) vwCl [(cI, .int)] t ∧ va_D (va_A (xW cI b (nI n) F T P V (fun j => nI (o j)) (fun j => nI (kr j)) Wt rc RB RE p1 p2 LA vs PL kn kl KN CH) sz) (xWu cI b u.1 u.2)) (va_A (xW cI b (nI n) F T P V (fun j => nI (o j)) (fun j => nI (kr j)) Wt rc RB RE p1 p2 LA vs PL kn kl KN CH) sz)) 0 0 (va_A (xW cI b (nI n) F T P V (fun j => nI (o j)) (fun j => nI (kr j)) Wt rc RB RE p1 p2 LA vs PL kn kl KN CH) sz) := by
  refine Met.ofW (cc := cX7_weigh) (maxL := 4) (ret := (some .int)) (by decide) rfl ?_
  intro p e s m args below meth c s₁ B hml hv
  obtain ⟨rfl, hsz, hP, hK, hD0⟩ := hv
  have hx := B.exec
  have hb := B.bytes
  have hr := B.returns
  have hts := atoms_spec (ws := wsX7_weigh) B.pre
  have hown : s.vm.findClass RX7 = some m.cls := findClass_of_methodNamed B.named
  have hlocks := B.notSynchronized
  subst hsz
  have hD := hD0.self (sz := s.heap.size)
  generalize hAe : va_A (xW cI b (nI n) F T P V (fun j => nI (o j)) (fun j => nI (kr j)) Wt rc RB RE p1 p2 LA vs PL kn kl KN CH) s.heap.size = A at hD ⊢
  have hA : ∀ q : Nat, s.heap.size ≤ q → A q := fun q h => by rw [← hAe]; exact Or.inr h
  have hS : va_S A s.heap s.heap [] := va_S.rf
  have i_X7 : ∀ w ∈ u_ws RX7 TX7 7, w ∈ wsX7_weigh := by decide +kernel
  have k_0 := hts (.fieldLink RX7 25 "VoiceRows" "weights" "[I") (by decide +kernel)
  have hl := lv_entry ([.ref (b 0), .int x, .int w]) (n := 4) (Nat.le_of_ble_eq_true rfl)
  rw [lg_entry_eq]
  generalize (lg_sl ([.ref (b 0), .int x, .int w]) ++ List.replicate (4 - (lg_sl ([.ref (b 0), .int x, .int w])).length) Slot.unset).toArray = ls at hl ⊢
  have hl : lv_has ls 4 [(0, .ref (b 0)), (1, .int x), (2, .int w)] := hl
  refine lv_iload_n hx hb dX7_weigh_0 rfl (lv_at hl 1 rfl) ?_
  refine lv_iconst (v := 0) hx hb dX7_weigh_1 (by decide) ?_
  refine lv_iconst (v := 3) hx hb dX7_weigh_2 (by decide) ?_
  refine vp_callSi (gk_run (va_runS (As := [.int x, .int 0, .int 3]) (rest := []) ⟨hx, hb, hml, hown, hts⟩ (c_X7_within l x 0 3) (gk_cwS 3 hts gX7_weigh_X7_within rfl rfl rfl (by decide +kernel) ⟨Nat.le_of_ble_eq_true rfl, Nat.le_of_ble_eq_true rfl⟩) ⟨gk_fbT, fun U hU hW => ⟨rfl, trivial⟩⟩ rfl rfl hl.1 rfl (lv_room (Nat.le_of_ble_eq_true rfl)) dX7_weigh_3 ⟨Nat.zero_le _, Nat.zero_le _⟩)) (fun r_1 er_1 => ?_)
  subst er_1
  refine lv_if_eq (tgt := 20) hx hb dX7_weigh_6 (by decide) (fun c_2 => ?_) (fun c_2 => ?_)
  · skip
    have c_2 : (decide (0 ≤ x) && decide (x ≤ 3)) = false := b2i_0.mp c_2
    refine lv_bipush (v := (-2)) hx hb dX7_weigh_20 (by decide) ?_
    exact W.iret (v := (-2)) hx hb hr (fun t ht hW => ⟨⟨_, ((n, F, T, P, V, Wt, o), (kr, rc, RB, RE, p1, p2, LA, vs, PL, kn, kl, KN, CH)), rfl, (by refine ⟨fun _ => ⟨rfl, rfl⟩, fun j hj ej ho => ?_⟩; exfalso; have hi := ix_in hj (by omega) ej; (simp only [decide_eq_true_eq, decide_eq_false_iff_not, Bool.and_eq_true, Bool.and_eq_false_iff, Bool.or_eq_true, Bool.or_eq_false_iff, Bool.not_eq_true, Bool.not_eq_false, ne_eq, not_and, not_or, tog_t, tog_f, ahd_t, ahd_f, isoB_t, isoB_f, ixB_t, ixB_f, vOK_t, vOK_f, wOK_t, wOK_f, tn4, Int32.lt_iff_toInt_lt, Int32.le_iff_toInt_le, ← Int32.toInt_inj, tI0, tI1, tI2, tI3, tI4, tI6, tI14, tI59, tI60, tI127, tI1000, tI100000, tIm1, tIm2, tIm3, tIm4, tIbig] at hi ho c_2 <;> omega)), by rw [ht]; exact hP, va_K.moved hW.alike hK, hD⟩, hS.F ht⟩) hS.2.2 dX7_weigh_22
  · skip
    have c_2 : (decide (0 ≤ x) && decide (x ≤ 3)) = true := b2i_1.mp c_2
    obtain ⟨j, hj, ej⟩ : ∃ j, j < 4 ∧ x = nI j := ix_of (by omega) (by (simp only [decide_eq_true_eq, decide_eq_false_iff_not, Bool.and_eq_true, Bool.and_eq_false_iff, Bool.or_eq_true, Bool.or_eq_false_iff, Bool.not_eq_true, Bool.not_eq_false, ne_eq, not_and, not_or, tog_t, tog_f, ahd_t, ahd_f, isoB_t, isoB_f, ixB_t, ixB_f, vOK_t, vOK_f, wOK_t, wOK_f, tn4, Int32.lt_iff_toInt_lt, Int32.le_iff_toInt_le, ← Int32.toInt_inj, tI0, tI1, tI2, tI3, tI4, tI6, tI14, tI59, tI60, tI127, tI1000, tI100000, tIm1, tIm2, tIm3, tIm4, tIbig] at c_2 ⊢ <;> omega))
    refine lv_iload_n hx hb dX7_weigh_9 rfl (lv_at hl 2 rfl) ?_
    refine lv_iconst (v := 0) hx hb dX7_weigh_10 (by decide) ?_
    refine lv_sipush (v := 1000) hx hb dX7_weigh_11 (by decide) ?_
    refine vp_callSi (gk_run (va_runS (As := [.int w, .int 0, .int 1000]) (rest := []) ⟨hx, hb, hml, hown, hts⟩ (c_X7_within l w 0 1000) (gk_cwS 3 hts gX7_weigh_X7_within rfl rfl rfl (by decide +kernel) ⟨Nat.le_of_ble_eq_true rfl, Nat.le_of_ble_eq_true rfl⟩) ⟨gk_fbT, fun U hU hW => ⟨rfl, trivial⟩⟩ rfl rfl hl.1 rfl (lv_room (Nat.le_of_ble_eq_true rfl)) dX7_weigh_14 ⟨Nat.zero_le _, Nat.zero_le _⟩)) (fun r_3 er_3 => ?_)
    subst er_3
    refine lv_if_ne (tgt := 23) hx hb dX7_weigh_17 (by decide) (fun c_4 => ?_) (fun c_4 => ?_)
    · skip
      have c_4 : (decide (0 ≤ w) && decide (w ≤ 1000)) = true := b2i_1.mp c_4
      refine lv_aload_n hx hb dX7_weigh_23 rfl (lv_at hl 0 rfl) ?_
      refine va_get (D := (dC, dI)) (ci := 7) (v := .ref (b 8)) (C := RX7) (T := TX7) (N := 7) hx hb hts i_X7 hown hK hP 0 rfl rfl 1 (by decide) k_0 (fun _ h9 => h9) rfl dX7_weigh_24 ?_
      refine lv_iload_n hx hb dX7_weigh_27 rfl (lv_at hl 1 rfl) ?_
      refine gk_top (y := nI j) (ej) ?_
      refine gk_ld hx hb hK hP 8 0 rfl rfl j (by omega) (by omega) (v := Wt j) (rfl) dX7_weigh_28 ?_
      refine lv_istore_n (lv' := [(3, .int (Wt j)), (0, .ref (b 0)), (1, .int x), (2, .int w)]) hx hb dX7_weigh_29 rfl hl (by decide) rfl (fun ls hl => ?_)
      refine lv_aload_n hx hb dX7_weigh_30 rfl (lv_at hl 1 rfl) ?_
      refine va_get (D := (dC, dI)) (ci := 7) (v := .ref (b 8)) (C := RX7) (T := TX7) (N := 7) hx hb hts i_X7 hown hK hP 0 rfl rfl 1 (by decide) k_0 (fun _ h9 => h9) rfl dX7_weigh_31 ?_
      refine lv_iload_n hx hb dX7_weigh_34 rfl (lv_at hl 2 rfl) ?_
      refine gk_top (y := nI j) (ej) ?_
      refine lv_iload_n hx hb dX7_weigh_35 rfl (lv_at hl 3 rfl) ?_
      refine gk_st hx hb hK hP hD hS 8 0 rfl rfl j (by omega) (by omega) dX7_weigh_36 (fun H locs hP hD hS => ?_)
      have hP : va_P (dC, dI) vwCl [(b 0, .inr (7, [.ref (b 1), .ref (b 8), .ref (b 9), .ref (b 12), .ref (b 13), .ref (b 16), .ref (b 19)])), (b 1, .inr (6, [.int (nI n), .ref (b 2), .ref (b 3), .ref (b 4), .ref (b 5), .ref (b 6), .ref (b 7)])), (b 2, .inl (cI, 60, .inl F)), (b 3, .inl (cI, 60, .inl T)), (b 4, .inl (cI, 60, .inl P)), (b 5, .inl (cI, 60, .inl V)), (b 6, .inl (cI, 60, .inl (fun j => nI (o j)))), (b 7, .inl (cI, 60, .inl (fun j => nI (kr j)))), (b 8, .inl (cI, 4, .inl (upd Wt j w))), (b 9, .inr (5, [.ref (b 1), .int rc, .ref (b 10), .ref (b 11)])), (b 10, .inl (cI, 61, .inl RB)), (b 11, .inl (cI, 61, .inl RE)), (b 12, .inr (4, [.ref (b 1), .int p1, .int p2])), (b 13, .inr (0, [.ref (b 1), .ref (b 8), .ref (b 12)])), (b 14, .inr (3, [.ref (b 1), .ref (b 8), .ref (b 15)])), (b 15, .inl (cI, 4, .inl LA)), (b 16, .inr (1, [.ref (b 1), .ref (b 14), .ref (b 17), .int vs, .ref kn])), (b 17, .inl (cI, 4, .inl PL)), (kn, .inl (cI, kl, .inl KN)), (b 19, .inr (2, [.ref (b 1), .ref (b 14), .ref (b 20)])), (b 20, .inl (cI, 60, .inl CH))] H := hP
      have hD : va_D A [(b 0, .inr (7, [.ref (b 1), .ref (b 8), .ref (b 9), .ref (b 12), .ref (b 13), .ref (b 16), .ref (b 19)])), (b 1, .inr (6, [.int (nI n), .ref (b 2), .ref (b 3), .ref (b 4), .ref (b 5), .ref (b 6), .ref (b 7)])), (b 2, .inl (cI, 60, .inl F)), (b 3, .inl (cI, 60, .inl T)), (b 4, .inl (cI, 60, .inl P)), (b 5, .inl (cI, 60, .inl V)), (b 6, .inl (cI, 60, .inl (fun j => nI (o j)))), (b 7, .inl (cI, 60, .inl (fun j => nI (kr j)))), (b 8, .inl (cI, 4, .inl (upd Wt j w))), (b 9, .inr (5, [.ref (b 1), .int rc, .ref (b 10), .ref (b 11)])), (b 10, .inl (cI, 61, .inl RB)), (b 11, .inl (cI, 61, .inl RE)), (b 12, .inr (4, [.ref (b 1), .int p1, .int p2])), (b 13, .inr (0, [.ref (b 1), .ref (b 8), .ref (b 12)])), (b 14, .inr (3, [.ref (b 1), .ref (b 8), .ref (b 15)])), (b 15, .inl (cI, 4, .inl LA)), (b 16, .inr (1, [.ref (b 1), .ref (b 14), .ref (b 17), .int vs, .ref kn])), (b 17, .inl (cI, 4, .inl PL)), (kn, .inl (cI, kl, .inl KN)), (b 19, .inr (2, [.ref (b 1), .ref (b 14), .ref (b 20)])), (b 20, .inl (cI, 60, .inl CH))] := hD
      refine lv_iload_n hx hb dX7_weigh_37 rfl (lv_at hl 0 rfl) ?_
      exact W.iret (v := Wt j) hx hb hr (fun t ht hW => ⟨⟨_, ((n, F, T, P, V, upd Wt j w, o), (kr, rc, RB, RE, p1, p2, LA, vs, PL, kn, kl, KN, CH)), rfl, (by refine ⟨fun h => ?_, fun k hk ek _ => ?_⟩; (exfalso; rcases h with h | h <;> first | exact no_tf (ix_in hj (by omega) ej) h | exact no_tf (by (simp only [decide_eq_true_eq, decide_eq_false_iff_not, Bool.and_eq_true, Bool.and_eq_false_iff, Bool.or_eq_true, Bool.or_eq_false_iff, Bool.not_eq_true, Bool.not_eq_false, ne_eq, not_and, not_or, tog_t, tog_f, ahd_t, ahd_f, isoB_t, isoB_f, ixB_t, ixB_f, vOK_t, vOK_f, wOK_t, wOK_f, tn4, Int32.lt_iff_toInt_lt, Int32.le_iff_toInt_le, ← Int32.toInt_inj, tI0, tI1, tI2, tI3, tI4, tI6, tI14, tI59, tI60, tI127, tI1000, tI100000, tIm1, tIm2, tIm3, tIm4, tIbig] at c_2 c_4 ⊢ <;> omega)) h); obtain rfl := nI_j hj hk (by omega) ej ek; exact ⟨rfl, rfl⟩), by rw [ht]; exact hP, va_K.moved hW.alike hK, hD⟩, hS.F ht⟩) hS.2.2 dX7_weigh_38
    · skip
      have c_4 : (decide (0 ≤ w) && decide (w ≤ 1000)) = false := b2i_0.mp c_4
      refine lv_bipush (v := (-2)) hx hb dX7_weigh_20 (by decide) ?_
      exact W.iret (v := (-2)) hx hb hr (fun t ht hW => ⟨⟨_, ((n, F, T, P, V, Wt, o), (kr, rc, RB, RE, p1, p2, LA, vs, PL, kn, kl, KN, CH)), rfl, (by refine ⟨fun _ => ⟨rfl, rfl⟩, fun j hj ej ho => ?_⟩; exfalso; have hi := ix_in hj (by omega) ej; (simp only [decide_eq_true_eq, decide_eq_false_iff_not, Bool.and_eq_true, Bool.and_eq_false_iff, Bool.or_eq_true, Bool.or_eq_false_iff, Bool.not_eq_true, Bool.not_eq_false, ne_eq, not_and, not_or, tog_t, tog_f, ahd_t, ahd_f, isoB_t, isoB_f, ixB_t, ixB_f, vOK_t, vOK_f, wOK_t, wOK_f, tn4, Int32.lt_iff_toInt_lt, Int32.le_iff_toInt_le, ← Int32.toInt_inj, tI0, tI1, tI2, tI3, tI4, tI6, tI14, tI59, tI60, tI127, tI1000, tI100000, tIm1, tIm2, tIm3, tIm4, tIbig] at hi ho c_2 c_4 <;> omega)), by rw [ht]; exact hP, va_K.moved hW.alike hK, hD⟩, hS.F ht⟩) hS.2.2 dX7_weigh_22

set_option maxHeartbeats 4000000 in
set_option maxRecDepth 100000 in
theorem c_X8_weigh (l : Launch) (dC : Nat → ClassId) (dI : Nat → Nat → Nat) (cI : ClassId) (sz : Nat) (a : Nat → Nat) (n : Nat) (F T P V Wt : Nat → Int32) (o : Nat → Nat) (G L R : Nat → Int32) (hn : n ≤ 60) (ho : ∀ j, o j < 60) (x w : Int32) : Met l yX8_weigh wsX8_weigh ({ frames := 0, cells := 0, slots := 0, locals := 0 } : Room) (va_Pc [.ref (a 0), .int x, .int w] (fun U => U.heap.size = sz ∧ va_P (dC, dI) vwCl (mW cI a (nI n) F T P V Wt (fun j => nI (o j)) G L R) U.heap ∧ va_K (dC, dI) vwCl [(cI, .int)] U ∧ va_D (fun _ => True) (mW cI a (nI n) F T P V Wt (fun j => nI (o j)) G L R))) (va_Qi (fun (r : Int32) (u : SS × MJ) => (ixB x 4 = false ∨ wOK w = false → r = -2 ∧ u = ((n, F, T, P, V, Wt, o), (G, L, R))) ∧ (∀ j, j < 4 → x = nI j → wOK w = true → r = Wt j ∧ u = ((n, F, T, P, V, upd Wt j w, o), (G, L, R)))) (fun u t => va_P (dC, dI) vwCl (mWu cI a u.1 u.2) t.heap ∧ va_K (dC, dI) vwCl [(cI, .int)] t ∧ va_D (va_A (mW cI a (nI n) F T P V Wt (fun j => nI (o j)) G L R) sz) (mWu cI a u.1 u.2)) (va_A (mW cI a (nI n) F T P V Wt (fun j => nI (o j)) G L R) sz)) 0 0 (va_A (mW cI a (nI n) F T P V Wt (fun j => nI (o j)) G L R) sz) := by
  refine Met.ofW (cc := cX8_weigh) (maxL := 4) (ret := (some .int)) (by decide) rfl ?_
  intro p e s m args below meth c s₁ B hml hv
  obtain ⟨rfl, hsz, hP, hK, hD0⟩ := hv
  have hx := B.exec
  have hb := B.bytes
  have hr := B.returns
  have hts := atoms_spec (ws := wsX8_weigh) B.pre
  have hown : s.vm.findClass RX8 = some m.cls := findClass_of_methodNamed B.named
  have hlocks := B.notSynchronized
  subst hsz
  have hD := hD0.self (sz := s.heap.size)
  generalize hAe : va_A (mW cI a (nI n) F T P V Wt (fun j => nI (o j)) G L R) s.heap.size = A at hD ⊢
  have hA : ∀ q : Nat, s.heap.size ≤ q → A q := fun q h => by rw [← hAe]; exact Or.inr h
  have hS : va_S A s.heap s.heap [] := va_S.rf
  have i_X8 : ∀ w ∈ u_ws RX8 TX8 10, w ∈ wsX8_weigh := by decide +kernel
  have k_0 := hts (.fieldLink RX8 22 "VoiceRowsModel" "weights" "[I") (by decide +kernel)
  have hl := lv_entry ([.ref (a 0), .int x, .int w]) (n := 4) (Nat.le_of_ble_eq_true rfl)
  rw [lg_entry_eq]
  generalize (lg_sl ([.ref (a 0), .int x, .int w]) ++ List.replicate (4 - (lg_sl ([.ref (a 0), .int x, .int w])).length) Slot.unset).toArray = ls at hl ⊢
  have hl : lv_has ls 4 [(0, .ref (a 0)), (1, .int x), (2, .int w)] := hl
  refine lv_iload_n hx hb dX8_weigh_0 rfl (lv_at hl 1 rfl) ?_
  refine lv_if_lt (tgt := 20) hx hb dX8_weigh_1 (by decide) (fun c_1 => ?_) (fun c_1 => ?_)
  · skip
    refine lv_bipush (v := (-2)) hx hb dX8_weigh_20 (by decide) ?_
    exact W.iret (v := (-2)) hx hb hr (fun t ht hW => ⟨⟨_, ((n, F, T, P, V, Wt, o), (G, L, R)), rfl, (by refine ⟨fun _ => ⟨rfl, rfl⟩, fun j hj ej ho => ?_⟩; exfalso; have hi := ix_in hj (by omega) ej; (simp only [decide_eq_true_eq, decide_eq_false_iff_not, Bool.and_eq_true, Bool.and_eq_false_iff, Bool.or_eq_true, Bool.or_eq_false_iff, Bool.not_eq_true, Bool.not_eq_false, ne_eq, not_and, not_or, tog_t, tog_f, ahd_t, ahd_f, isoB_t, isoB_f, ixB_t, ixB_f, vOK_t, vOK_f, wOK_t, wOK_f, tn4, Int32.lt_iff_toInt_lt, Int32.le_iff_toInt_le, ← Int32.toInt_inj, tI0, tI1, tI2, tI3, tI4, tI6, tI14, tI59, tI60, tI127, tI1000, tI100000, tIm1, tIm2, tIm3, tIm4, tIbig] at hi ho c_1 <;> omega)), by rw [ht]; exact hP, va_K.moved hW.alike hK, hD⟩, hS.F ht⟩) hS.2.2 dX8_weigh_22
  · skip
    refine lv_iload_n hx hb dX8_weigh_4 rfl (lv_at hl 1 rfl) ?_
    refine lv_iconst (v := 3) hx hb dX8_weigh_5 (by decide) ?_
    refine lv_icmp_gt (tgt := 20) hx hb dX8_weigh_6 (by decide) (fun c_2 => ?_) (fun c_2 => ?_)
    · skip
      refine lv_bipush (v := (-2)) hx hb dX8_weigh_20 (by decide) ?_
      exact W.iret (v := (-2)) hx hb hr (fun t ht hW => ⟨⟨_, ((n, F, T, P, V, Wt, o), (G, L, R)), rfl, (by refine ⟨fun _ => ⟨rfl, rfl⟩, fun j hj ej ho => ?_⟩; exfalso; have hi := ix_in hj (by omega) ej; (simp only [decide_eq_true_eq, decide_eq_false_iff_not, Bool.and_eq_true, Bool.and_eq_false_iff, Bool.or_eq_true, Bool.or_eq_false_iff, Bool.not_eq_true, Bool.not_eq_false, ne_eq, not_and, not_or, tog_t, tog_f, ahd_t, ahd_f, isoB_t, isoB_f, ixB_t, ixB_f, vOK_t, vOK_f, wOK_t, wOK_f, tn4, Int32.lt_iff_toInt_lt, Int32.le_iff_toInt_le, ← Int32.toInt_inj, tI0, tI1, tI2, tI3, tI4, tI6, tI14, tI59, tI60, tI127, tI1000, tI100000, tIm1, tIm2, tIm3, tIm4, tIbig] at hi ho c_1 c_2 <;> omega)), by rw [ht]; exact hP, va_K.moved hW.alike hK, hD⟩, hS.F ht⟩) hS.2.2 dX8_weigh_22
    · skip
      obtain ⟨j, hj, ej⟩ : ∃ j, j < 4 ∧ x = nI j := ix_of (by omega) (by (simp only [decide_eq_true_eq, decide_eq_false_iff_not, Bool.and_eq_true, Bool.and_eq_false_iff, Bool.or_eq_true, Bool.or_eq_false_iff, Bool.not_eq_true, Bool.not_eq_false, ne_eq, not_and, not_or, tog_t, tog_f, ahd_t, ahd_f, isoB_t, isoB_f, ixB_t, ixB_f, vOK_t, vOK_f, wOK_t, wOK_f, tn4, Int32.lt_iff_toInt_lt, Int32.le_iff_toInt_le, ← Int32.toInt_inj, tI0, tI1, tI2, tI3, tI4, tI6, tI14, tI59, tI60, tI127, tI1000, tI100000, tIm1, tIm2, tIm3, tIm4, tIbig] at c_1 c_2 ⊢ <;> omega))
      refine lv_iload_n hx hb dX8_weigh_9 rfl (lv_at hl 2 rfl) ?_
      refine lv_if_lt (tgt := 20) hx hb dX8_weigh_10 (by decide) (fun c_3 => ?_) (fun c_3 => ?_)
      · skip
        refine lv_bipush (v := (-2)) hx hb dX8_weigh_20 (by decide) ?_
        exact W.iret (v := (-2)) hx hb hr (fun t ht hW => ⟨⟨_, ((n, F, T, P, V, Wt, o), (G, L, R)), rfl, (by refine ⟨fun _ => ⟨rfl, rfl⟩, fun j hj ej ho => ?_⟩; exfalso; have hi := ix_in hj (by omega) ej; (simp only [decide_eq_true_eq, decide_eq_false_iff_not, Bool.and_eq_true, Bool.and_eq_false_iff, Bool.or_eq_true, Bool.or_eq_false_iff, Bool.not_eq_true, Bool.not_eq_false, ne_eq, not_and, not_or, tog_t, tog_f, ahd_t, ahd_f, isoB_t, isoB_f, ixB_t, ixB_f, vOK_t, vOK_f, wOK_t, wOK_f, tn4, Int32.lt_iff_toInt_lt, Int32.le_iff_toInt_le, ← Int32.toInt_inj, tI0, tI1, tI2, tI3, tI4, tI6, tI14, tI59, tI60, tI127, tI1000, tI100000, tIm1, tIm2, tIm3, tIm4, tIbig] at hi ho c_1 c_2 c_3 <;> omega)), by rw [ht]; exact hP, va_K.moved hW.alike hK, hD⟩, hS.F ht⟩) hS.2.2 dX8_weigh_22
      · skip
        refine lv_iload_n hx hb dX8_weigh_13 rfl (lv_at hl 2 rfl) ?_
        refine lv_sipush (v := 1000) hx hb dX8_weigh_14 (by decide) ?_
        refine lv_icmp_le (tgt := 23) hx hb dX8_weigh_17 (by decide) (fun c_4 => ?_) (fun c_4 => ?_)
        · skip
          refine lv_aload_n hx hb dX8_weigh_23 rfl (lv_at hl 0 rfl) ?_
          refine va_get (D := (dC, dI)) (ci := 8) (v := .ref (a 5)) (C := RX8) (T := TX8) (N := 10) hx hb hts i_X8 hown hK hP 0 rfl rfl 5 (by decide) k_0 (fun _ h9 => h9) rfl dX8_weigh_24 ?_
          refine lv_iload_n hx hb dX8_weigh_27 rfl (lv_at hl 1 rfl) ?_
          refine gk_top (y := nI j) (ej) ?_
          refine gk_ld hx hb hK hP 5 0 rfl rfl j (by omega) (by omega) (v := Wt j) (rfl) dX8_weigh_28 ?_
          refine lv_istore_n (lv' := [(3, .int (Wt j)), (0, .ref (a 0)), (1, .int x), (2, .int w)]) hx hb dX8_weigh_29 rfl hl (by decide) rfl (fun ls hl => ?_)
          refine lv_aload_n hx hb dX8_weigh_30 rfl (lv_at hl 1 rfl) ?_
          refine va_get (D := (dC, dI)) (ci := 8) (v := .ref (a 5)) (C := RX8) (T := TX8) (N := 10) hx hb hts i_X8 hown hK hP 0 rfl rfl 5 (by decide) k_0 (fun _ h9 => h9) rfl dX8_weigh_31 ?_
          refine lv_iload_n hx hb dX8_weigh_34 rfl (lv_at hl 2 rfl) ?_
          refine gk_top (y := nI j) (ej) ?_
          refine lv_iload_n hx hb dX8_weigh_35 rfl (lv_at hl 3 rfl) ?_
          refine gk_st hx hb hK hP hD hS 5 0 rfl rfl j (by omega) (by omega) dX8_weigh_36 (fun H locs hP hD hS => ?_)
          have hP : va_P (dC, dI) vwCl [(a 0, .inr (8, [.ref (a 1), .ref (a 2), .ref (a 3), .ref (a 4), .int (nI n), .ref (a 5), .ref (a 6), .ref (a 7), .ref (a 8), .ref (a 9)])), (a 1, .inl (cI, 60, .inl F)), (a 2, .inl (cI, 60, .inl T)), (a 3, .inl (cI, 60, .inl P)), (a 4, .inl (cI, 60, .inl V)), (a 5, .inl (cI, 4, .inl (upd Wt j w))), (a 6, .inl (cI, 60, .inl (fun j => nI (o j)))), (a 7, .inl (cI, 60, .inl G)), (a 8, .inl (cI, 4, .inl L)), (a 9, .inl (cI, 759375, .inl R))] H := hP
          have hD : va_D A [(a 0, .inr (8, [.ref (a 1), .ref (a 2), .ref (a 3), .ref (a 4), .int (nI n), .ref (a 5), .ref (a 6), .ref (a 7), .ref (a 8), .ref (a 9)])), (a 1, .inl (cI, 60, .inl F)), (a 2, .inl (cI, 60, .inl T)), (a 3, .inl (cI, 60, .inl P)), (a 4, .inl (cI, 60, .inl V)), (a 5, .inl (cI, 4, .inl (upd Wt j w))), (a 6, .inl (cI, 60, .inl (fun j => nI (o j)))), (a 7, .inl (cI, 60, .inl G)), (a 8, .inl (cI, 4, .inl L)), (a 9, .inl (cI, 759375, .inl R))] := hD
          refine lv_iload_n hx hb dX8_weigh_37 rfl (lv_at hl 0 rfl) ?_
          exact W.iret (v := Wt j) hx hb hr (fun t ht hW => ⟨⟨_, ((n, F, T, P, V, upd Wt j w, o), (G, L, R)), rfl, (by refine ⟨fun h => ?_, fun k hk ek _ => ?_⟩; (exfalso; rcases h with h | h <;> first | exact no_tf (ix_in hj (by omega) ej) h | exact no_tf (by (simp only [decide_eq_true_eq, decide_eq_false_iff_not, Bool.and_eq_true, Bool.and_eq_false_iff, Bool.or_eq_true, Bool.or_eq_false_iff, Bool.not_eq_true, Bool.not_eq_false, ne_eq, not_and, not_or, tog_t, tog_f, ahd_t, ahd_f, isoB_t, isoB_f, ixB_t, ixB_f, vOK_t, vOK_f, wOK_t, wOK_f, tn4, Int32.lt_iff_toInt_lt, Int32.le_iff_toInt_le, ← Int32.toInt_inj, tI0, tI1, tI2, tI3, tI4, tI6, tI14, tI59, tI60, tI127, tI1000, tI100000, tIm1, tIm2, tIm3, tIm4, tIbig] at c_1 c_2 c_3 c_4 ⊢ <;> omega)) h); obtain rfl := nI_j hj hk (by omega) ej ek; exact ⟨rfl, rfl⟩), by rw [ht]; exact hP, va_K.moved hW.alike hK, hD⟩, hS.F ht⟩) hS.2.2 dX8_weigh_38
        · skip
          refine lv_bipush (v := (-2)) hx hb dX8_weigh_20 (by decide) ?_
          exact W.iret (v := (-2)) hx hb hr (fun t ht hW => ⟨⟨_, ((n, F, T, P, V, Wt, o), (G, L, R)), rfl, (by refine ⟨fun _ => ⟨rfl, rfl⟩, fun j hj ej ho => ?_⟩; exfalso; have hi := ix_in hj (by omega) ej; (simp only [decide_eq_true_eq, decide_eq_false_iff_not, Bool.and_eq_true, Bool.and_eq_false_iff, Bool.or_eq_true, Bool.or_eq_false_iff, Bool.not_eq_true, Bool.not_eq_false, ne_eq, not_and, not_or, tog_t, tog_f, ahd_t, ahd_f, isoB_t, isoB_f, ixB_t, ixB_f, vOK_t, vOK_f, wOK_t, wOK_f, tn4, Int32.lt_iff_toInt_lt, Int32.le_iff_toInt_le, ← Int32.toInt_inj, tI0, tI1, tI2, tI3, tI4, tI6, tI14, tI59, tI60, tI127, tI1000, tI100000, tIm1, tIm2, tIm3, tIm4, tIbig] at hi ho c_1 c_2 c_3 c_4 <;> omega)), by rw [ht]; exact hP, va_K.moved hW.alike hK, hD⟩, hS.F ht⟩) hS.2.2 dX8_weigh_22

set_option maxHeartbeats 4000000 in
set_option maxRecDepth 100000 in
theorem c_X7_put (l : Launch) (dC : Nat → ClassId) (dI : Nat → Nat → Nat) (cI : ClassId) (sz : Nat) (b : Nat → Nat) (n : Nat) (F T P V : Nat → Int32) (o kr : Nat → Nat) (Wt : Nat → Int32) (rc : Int32) (RB RE : Nat → Int32) (p1 p2 : Int32) (LA : Nat → Int32) (vs : Int32) (PL : Nat → Int32) (kn kl : Nat) (KN CH : Nat → Int32) (hn : n ≤ 60) (ho : ∀ j, o j < 60) (x v : Int32) : Met l yX7_put wsX7_put ({ frames := 2, cells := 0, slots := 0, locals := 43 } : Room) (va_Pc [.ref (b 0), .int x, .int v] (fun U => U.heap.size = sz ∧ va_P (dC, dI) vwCl (xW cI b (nI n) F T P V (fun j => nI (o j)) (fun j => nI (kr j)) Wt rc RB RE p1 p2 LA vs PL kn kl KN CH) U.heap ∧ va_K (dC, dI) vwCl [(cI, .int)] U ∧ va_D (fun _ => True) (xW cI b (nI n) F T P V (fun j => nI (o j)) (fun j => nI (kr j)) Wt rc RB RE p1 p2 LA vs PL kn kl KN CH) ∧ va_Nw (.methodLinkNest RX6 34 yX7_within RX7) U)) (va_Qi (fun (r : Int32) (u : SS × XJ) => (ixB x n = false ∨ vOK v = false → r = -2 ∧ u = ((n, F, T, P, V, Wt, o), (kr, rc, RB, RE, p1, p2, LA, vs, PL, kn, kl, KN, CH))) ∧ (∀ j, j < n → x = nI j → vOK v = true → r = V j ∧ u = ((n, F, T, P, upd V j v, Wt, o), (kr, rc, RB, RE, p1, p2, LA, vs, PL, kn, kl, KN, CH)))) (fun u t => va_P (dC, dI) vwCl (xWu cI b u.1 u.2) t.heap ∧ va_K (dC, dI) vwCl [(cI, .int)] t ∧ va_D (va_A (xW cI b (nI n) F T P V (fun j => nI (o j)) (fun j => nI (kr j)) Wt rc RB RE p1 p2 LA vs PL kn kl KN CH) sz) (xWu cI b u.1 u.2)) (va_A (xW cI b (nI n) F T P V (fun j => nI (o j)) (fun j => nI (kr j)) Wt rc RB RE p1 p2 LA vs PL kn kl KN CH) sz)) 0 0 (va_A (xW cI b (nI n) F T P V (fun j => nI (o j)) (fun j => nI (kr j)) Wt rc RB RE p1 p2 LA vs PL kn kl KN CH) sz) := by
  refine Met.ofW (cc := cX7_put) (maxL := 4) (ret := (some .int)) (by decide) rfl ?_
  intro p e s m args below meth c s₁ B hml hv
  obtain ⟨rfl, hsz, hP, hK, hD0, hN0⟩ := hv
  have hx := B.exec
  have hb := B.bytes
  have hr := B.returns
  have hts := atoms_spec (ws := wsX7_put) B.pre
  have hown : s.vm.findClass RX7 = some m.cls := findClass_of_methodNamed B.named
  have hlocks := B.notSynchronized
  subst hsz
  have hD := hD0.self (sz := s.heap.size)
  generalize hAe : va_A (xW cI b (nI n) F T P V (fun j => nI (o j)) (fun j => nI (kr j)) Wt rc RB RE p1 p2 LA vs PL kn kl KN CH) s.heap.size = A at hD ⊢
  have hA : ∀ q : Nat, s.heap.size ≤ q → A q := fun q h => by rw [← hAe]; exact Or.inr h
  have hS : va_S A s.heap s.heap [] := va_S.rf
  have i_X7 : ∀ w ∈ u_ws RX7 TX7 7, w ∈ wsX7_put := by decide +kernel
  have i_X6 : ∀ w ∈ u_ws RX6 TX6 7, w ∈ wsX7_put := by decide +kernel
  have k_0 := hts (.fieldLink RX7 10 "VoiceRows" "score" "LVoiceRows$Score;") (by decide +kernel)
  have k_1 := hts (.fieldLink RX7 103 "VoiceRows$Score" "voice" "[I") (by decide +kernel)
  have hl := lv_entry ([.ref (b 0), .int x, .int v]) (n := 4) (Nat.le_of_ble_eq_true rfl)
  rw [lg_entry_eq]
  generalize (lg_sl ([.ref (b 0), .int x, .int v]) ++ List.replicate (4 - (lg_sl ([.ref (b 0), .int x, .int v])).length) Slot.unset).toArray = ls at hl ⊢
  have hl : lv_has ls 4 [(0, .ref (b 0)), (1, .int x), (2, .int v)] := hl
  refine lv_aload_n hx hb dX7_put_0 rfl (lv_at hl 0 rfl) ?_
  refine va_get (D := (dC, dI)) (ci := 7) (v := .ref (b 1)) (C := RX7) (T := TX7) (N := 7) hx hb hts i_X7 hown hK hP 0 rfl rfl 0 (by decide) k_0 (fun _ h9 => h9) rfl dX7_put_1 ?_
  refine lv_iload_n hx hb dX7_put_4 rfl (lv_at hl 1 rfl) ?_
  have hPc_1 := hP.sub (ws' := (sW cI b (nI n) F T P V (fun j => nI (o j)) (fun j => nI (kr j)))) [1, 2, 3, 4, 5, 6, 7] rfl
  refine vp_callSi (gk_run (va_runV (As := [.int x]) (rest := []) ⟨hx, hb, hml, hown, hts⟩ (c_X6_has l dC dI cI b n F T P V o kr hn ho x) (cwV 1 hts gX7_put_X6_has rfl rfl rfl (by decide +kernel) ⟨Nat.le_of_ble_eq_true rfl, Nat.le_of_ble_eq_true rfl⟩) ⟨gk_fb1 (by decide), va_recv hK hPc_1 (ci := 6) (q0 := 0) rfl rfl, fun U hU hW => ⟨rfl, by rw [hU]; exact hPc_1, va_K.moved hW.alike hK, va_Nw.warmM hW hN0⟩⟩ rfl rfl hl.1 rfl (lv_room (Nat.le_of_ble_eq_true rfl)) dX7_put_5 ⟨Nat.zero_le _, Nat.zero_le _⟩)) (fun r_2 er_2 => ?_)
  subst er_2
  refine lv_if_eq (tgt := 20) hx hb dX7_put_8 (by decide) (fun c_3 => ?_) (fun c_3 => ?_)
  · skip
    have c_3 : (ixB x n) = false := b2i_0.mp c_3
    refine lv_bipush (v := (-2)) hx hb dX7_put_20 (by decide) ?_
    exact W.iret (v := (-2)) hx hb hr (fun t ht hW => ⟨⟨_, ((n, F, T, P, V, Wt, o), (kr, rc, RB, RE, p1, p2, LA, vs, PL, kn, kl, KN, CH)), rfl, (by refine ⟨fun _ => ⟨rfl, rfl⟩, fun j hj ej ho => ?_⟩; exfalso; have hi := ix_in hj (by omega) ej; (simp only [decide_eq_true_eq, decide_eq_false_iff_not, Bool.and_eq_true, Bool.and_eq_false_iff, Bool.or_eq_true, Bool.or_eq_false_iff, Bool.not_eq_true, Bool.not_eq_false, ne_eq, not_and, not_or, tog_t, tog_f, ahd_t, ahd_f, isoB_t, isoB_f, ixB_t, ixB_f, vOK_t, vOK_f, wOK_t, wOK_f, tn4, Int32.lt_iff_toInt_lt, Int32.le_iff_toInt_le, ← Int32.toInt_inj, tI0, tI1, tI2, tI3, tI4, tI6, tI14, tI59, tI60, tI127, tI1000, tI100000, tIm1, tIm2, tIm3, tIm4, tIbig] at hi ho c_3 <;> omega)), by rw [ht]; exact hP, va_K.moved hW.alike hK, hD⟩, hS.F ht⟩) hS.2.2 dX7_put_22
  · skip
    have c_3 : (ixB x n) = true := b2i_1.mp c_3
    obtain ⟨j, hj, ej⟩ : ∃ j, j < n ∧ x = nI j := ix_of (by omega) (by (simp only [decide_eq_true_eq, decide_eq_false_iff_not, Bool.and_eq_true, Bool.and_eq_false_iff, Bool.or_eq_true, Bool.or_eq_false_iff, Bool.not_eq_true, Bool.not_eq_false, ne_eq, not_and, not_or, tog_t, tog_f, ahd_t, ahd_f, isoB_t, isoB_f, ixB_t, ixB_f, vOK_t, vOK_f, wOK_t, wOK_f, tn4, Int32.lt_iff_toInt_lt, Int32.le_iff_toInt_le, ← Int32.toInt_inj, tI0, tI1, tI2, tI3, tI4, tI6, tI14, tI59, tI60, tI127, tI1000, tI100000, tIm1, tIm2, tIm3, tIm4, tIbig] at c_3 ⊢ <;> omega))
    refine lv_iload_n hx hb dX7_put_11 rfl (lv_at hl 2 rfl) ?_
    refine lv_iconst (v := (-1)) hx hb dX7_put_12 (by decide) ?_
    refine lv_iconst (v := 3) hx hb dX7_put_13 (by decide) ?_
    refine vp_callSi (gk_run (va_runS (As := [.int v, .int (-1), .int 3]) (rest := []) ⟨hx, hb, hml, hown, hts⟩ (c_X7_within l v (-1) 3) (gk_cwS 3 hts gX7_put_X7_within rfl rfl rfl (by decide +kernel) ⟨Nat.le_of_ble_eq_true rfl, Nat.le_of_ble_eq_true rfl⟩) ⟨gk_fbT, fun U hU hW => ⟨rfl, trivial⟩⟩ rfl rfl hl.1 rfl (lv_room (Nat.le_of_ble_eq_true rfl)) dX7_put_14 ⟨Nat.zero_le _, Nat.zero_le _⟩)) (fun r_4 er_4 => ?_)
    subst er_4
    refine lv_if_ne (tgt := 23) hx hb dX7_put_17 (by decide) (fun c_5 => ?_) (fun c_5 => ?_)
    · skip
      have c_5 : (decide ((-1) ≤ v) && decide (v ≤ 3)) = true := b2i_1.mp c_5
      refine lv_aload_n hx hb dX7_put_23 rfl (lv_at hl 0 rfl) ?_
      refine va_get (D := (dC, dI)) (ci := 7) (v := .ref (b 1)) (C := RX7) (T := TX7) (N := 7) hx hb hts i_X7 hown hK hP 0 rfl rfl 0 (by decide) k_0 (fun _ h9 => h9) rfl dX7_put_24 ?_
      refine va_get (D := (dC, dI)) (ci := 6) (v := .ref (b 5)) (C := RX6) (T := TX6) (N := 7) hx hb hts i_X6 hown hK hP 1 rfl rfl 4 (by decide) k_1 (fun _ h9 => h9) rfl dX7_put_27 ?_
      refine lv_iload_n hx hb dX7_put_30 rfl (lv_at hl 1 rfl) ?_
      refine gk_top (y := nI j) (ej) ?_
      refine gk_ld hx hb hK hP 5 0 rfl rfl j (by omega) (by omega) (v := V j) (rfl) dX7_put_31 ?_
      refine lv_istore_n (lv' := [(3, .int (V j)), (0, .ref (b 0)), (1, .int x), (2, .int v)]) hx hb dX7_put_32 rfl hl (by decide) rfl (fun ls hl => ?_)
      refine lv_aload_n hx hb dX7_put_33 rfl (lv_at hl 1 rfl) ?_
      refine va_get (D := (dC, dI)) (ci := 7) (v := .ref (b 1)) (C := RX7) (T := TX7) (N := 7) hx hb hts i_X7 hown hK hP 0 rfl rfl 0 (by decide) k_0 (fun _ h9 => h9) rfl dX7_put_34 ?_
      refine va_get (D := (dC, dI)) (ci := 6) (v := .ref (b 5)) (C := RX6) (T := TX6) (N := 7) hx hb hts i_X6 hown hK hP 1 rfl rfl 4 (by decide) k_1 (fun _ h9 => h9) rfl dX7_put_37 ?_
      refine lv_iload_n hx hb dX7_put_40 rfl (lv_at hl 2 rfl) ?_
      refine gk_top (y := nI j) (ej) ?_
      refine lv_iload_n hx hb dX7_put_41 rfl (lv_at hl 3 rfl) ?_
      refine gk_st hx hb hK hP hD hS 5 0 rfl rfl j (by omega) (by omega) dX7_put_42 (fun H locs hP hD hS => ?_)
      have hP : va_P (dC, dI) vwCl [(b 0, .inr (7, [.ref (b 1), .ref (b 8), .ref (b 9), .ref (b 12), .ref (b 13), .ref (b 16), .ref (b 19)])), (b 1, .inr (6, [.int (nI n), .ref (b 2), .ref (b 3), .ref (b 4), .ref (b 5), .ref (b 6), .ref (b 7)])), (b 2, .inl (cI, 60, .inl F)), (b 3, .inl (cI, 60, .inl T)), (b 4, .inl (cI, 60, .inl P)), (b 5, .inl (cI, 60, .inl (upd V j v))), (b 6, .inl (cI, 60, .inl (fun j => nI (o j)))), (b 7, .inl (cI, 60, .inl (fun j => nI (kr j)))), (b 8, .inl (cI, 4, .inl Wt)), (b 9, .inr (5, [.ref (b 1), .int rc, .ref (b 10), .ref (b 11)])), (b 10, .inl (cI, 61, .inl RB)), (b 11, .inl (cI, 61, .inl RE)), (b 12, .inr (4, [.ref (b 1), .int p1, .int p2])), (b 13, .inr (0, [.ref (b 1), .ref (b 8), .ref (b 12)])), (b 14, .inr (3, [.ref (b 1), .ref (b 8), .ref (b 15)])), (b 15, .inl (cI, 4, .inl LA)), (b 16, .inr (1, [.ref (b 1), .ref (b 14), .ref (b 17), .int vs, .ref kn])), (b 17, .inl (cI, 4, .inl PL)), (kn, .inl (cI, kl, .inl KN)), (b 19, .inr (2, [.ref (b 1), .ref (b 14), .ref (b 20)])), (b 20, .inl (cI, 60, .inl CH))] H := hP
      have hD : va_D A [(b 0, .inr (7, [.ref (b 1), .ref (b 8), .ref (b 9), .ref (b 12), .ref (b 13), .ref (b 16), .ref (b 19)])), (b 1, .inr (6, [.int (nI n), .ref (b 2), .ref (b 3), .ref (b 4), .ref (b 5), .ref (b 6), .ref (b 7)])), (b 2, .inl (cI, 60, .inl F)), (b 3, .inl (cI, 60, .inl T)), (b 4, .inl (cI, 60, .inl P)), (b 5, .inl (cI, 60, .inl (upd V j v))), (b 6, .inl (cI, 60, .inl (fun j => nI (o j)))), (b 7, .inl (cI, 60, .inl (fun j => nI (kr j)))), (b 8, .inl (cI, 4, .inl Wt)), (b 9, .inr (5, [.ref (b 1), .int rc, .ref (b 10), .ref (b 11)])), (b 10, .inl (cI, 61, .inl RB)), (b 11, .inl (cI, 61, .inl RE)), (b 12, .inr (4, [.ref (b 1), .int p1, .int p2])), (b 13, .inr (0, [.ref (b 1), .ref (b 8), .ref (b 12)])), (b 14, .inr (3, [.ref (b 1), .ref (b 8), .ref (b 15)])), (b 15, .inl (cI, 4, .inl LA)), (b 16, .inr (1, [.ref (b 1), .ref (b 14), .ref (b 17), .int vs, .ref kn])), (b 17, .inl (cI, 4, .inl PL)), (kn, .inl (cI, kl, .inl KN)), (b 19, .inr (2, [.ref (b 1), .ref (b 14), .ref (b 20)])), (b 20, .inl (cI, 60, .inl CH))] := hD
      refine lv_iload_n hx hb dX7_put_43 rfl (lv_at hl 0 rfl) ?_
      exact W.iret (v := V j) hx hb hr (fun t ht hW => ⟨⟨_, ((n, F, T, P, upd V j v, Wt, o), (kr, rc, RB, RE, p1, p2, LA, vs, PL, kn, kl, KN, CH)), rfl, (by refine ⟨fun h => ?_, fun k hk ek _ => ?_⟩; (exfalso; rcases h with h | h <;> first | exact no_tf (ix_in hj (by omega) ej) h | exact no_tf (by (simp only [decide_eq_true_eq, decide_eq_false_iff_not, Bool.and_eq_true, Bool.and_eq_false_iff, Bool.or_eq_true, Bool.or_eq_false_iff, Bool.not_eq_true, Bool.not_eq_false, ne_eq, not_and, not_or, tog_t, tog_f, ahd_t, ahd_f, isoB_t, isoB_f, ixB_t, ixB_f, vOK_t, vOK_f, wOK_t, wOK_f, tn4, Int32.lt_iff_toInt_lt, Int32.le_iff_toInt_le, ← Int32.toInt_inj, tI0, tI1, tI2, tI3, tI4, tI6, tI14, tI59, tI60, tI127, tI1000, tI100000, tIm1, tIm2, tIm3, tIm4, tIbig] at c_3 c_5 ⊢ <;> omega)) h); obtain rfl := nI_j hj hk (by omega) ej ek; exact ⟨rfl, rfl⟩), by rw [ht]; exact hP, va_K.moved hW.alike hK, hD⟩, hS.F ht⟩) hS.2.2 dX7_put_44
    · skip
      have c_5 : (decide ((-1) ≤ v) && decide (v ≤ 3)) = false := b2i_0.mp c_5
      refine lv_bipush (v := (-2)) hx hb dX7_put_20 (by decide) ?_
      exact W.iret (v := (-2)) hx hb hr (fun t ht hW => ⟨⟨_, ((n, F, T, P, V, Wt, o), (kr, rc, RB, RE, p1, p2, LA, vs, PL, kn, kl, KN, CH)), rfl, (by refine ⟨fun _ => ⟨rfl, rfl⟩, fun j hj ej ho => ?_⟩; exfalso; have hi := ix_in hj (by omega) ej; (simp only [decide_eq_true_eq, decide_eq_false_iff_not, Bool.and_eq_true, Bool.and_eq_false_iff, Bool.or_eq_true, Bool.or_eq_false_iff, Bool.not_eq_true, Bool.not_eq_false, ne_eq, not_and, not_or, tog_t, tog_f, ahd_t, ahd_f, isoB_t, isoB_f, ixB_t, ixB_f, vOK_t, vOK_f, wOK_t, wOK_f, tn4, Int32.lt_iff_toInt_lt, Int32.le_iff_toInt_le, ← Int32.toInt_inj, tI0, tI1, tI2, tI3, tI4, tI6, tI14, tI59, tI60, tI127, tI1000, tI100000, tIm1, tIm2, tIm3, tIm4, tIbig] at hi ho c_3 c_5 <;> omega)), by rw [ht]; exact hP, va_K.moved hW.alike hK, hD⟩, hS.F ht⟩) hS.2.2 dX7_put_22

set_option maxHeartbeats 4000000 in
set_option maxRecDepth 100000 in
theorem c_X8_put (l : Launch) (dC : Nat → ClassId) (dI : Nat → Nat → Nat) (cI : ClassId) (sz : Nat) (a : Nat → Nat) (n : Nat) (F T P V Wt : Nat → Int32) (o : Nat → Nat) (G L R : Nat → Int32) (hn : n ≤ 60) (ho : ∀ j, o j < 60) (x v : Int32) : Met l yX8_put wsX8_put ({ frames := 0, cells := 0, slots := 0, locals := 0 } : Room) (va_Pc [.ref (a 0), .int x, .int v] (fun U => U.heap.size = sz ∧ va_P (dC, dI) vwCl (mW cI a (nI n) F T P V Wt (fun j => nI (o j)) G L R) U.heap ∧ va_K (dC, dI) vwCl [(cI, .int)] U ∧ va_D (fun _ => True) (mW cI a (nI n) F T P V Wt (fun j => nI (o j)) G L R))) (va_Qi (fun (r : Int32) (u : SS × MJ) => (ixB x n = false ∨ vOK v = false → r = -2 ∧ u = ((n, F, T, P, V, Wt, o), (G, L, R))) ∧ (∀ j, j < n → x = nI j → vOK v = true → r = V j ∧ u = ((n, F, T, P, upd V j v, Wt, o), (G, L, R)))) (fun u t => va_P (dC, dI) vwCl (mWu cI a u.1 u.2) t.heap ∧ va_K (dC, dI) vwCl [(cI, .int)] t ∧ va_D (va_A (mW cI a (nI n) F T P V Wt (fun j => nI (o j)) G L R) sz) (mWu cI a u.1 u.2)) (va_A (mW cI a (nI n) F T P V Wt (fun j => nI (o j)) G L R) sz)) 0 0 (va_A (mW cI a (nI n) F T P V Wt (fun j => nI (o j)) G L R) sz) := by
  refine Met.ofW (cc := cX8_put) (maxL := 4) (ret := (some .int)) (by decide) rfl ?_
  intro p e s m args below meth c s₁ B hml hv
  obtain ⟨rfl, hsz, hP, hK, hD0⟩ := hv
  have hx := B.exec
  have hb := B.bytes
  have hr := B.returns
  have hts := atoms_spec (ws := wsX8_put) B.pre
  have hown : s.vm.findClass RX8 = some m.cls := findClass_of_methodNamed B.named
  have hlocks := B.notSynchronized
  subst hsz
  have hD := hD0.self (sz := s.heap.size)
  generalize hAe : va_A (mW cI a (nI n) F T P V Wt (fun j => nI (o j)) G L R) s.heap.size = A at hD ⊢
  have hA : ∀ q : Nat, s.heap.size ≤ q → A q := fun q h => by rw [← hAe]; exact Or.inr h
  have hS : va_S A s.heap s.heap [] := va_S.rf
  have i_X8 : ∀ w ∈ u_ws RX8 TX8 10, w ∈ wsX8_put := by decide +kernel
  have k_0 := hts (.fieldLink RX8 38 "VoiceRowsModel" "notes" "I") (by decide +kernel)
  have k_1 := hts (.fieldLink RX8 19 "VoiceRowsModel" "voice" "[I") (by decide +kernel)
  have hl := lv_entry ([.ref (a 0), .int x, .int v]) (n := 4) (Nat.le_of_ble_eq_true rfl)
  rw [lg_entry_eq]
  generalize (lg_sl ([.ref (a 0), .int x, .int v]) ++ List.replicate (4 - (lg_sl ([.ref (a 0), .int x, .int v])).length) Slot.unset).toArray = ls at hl ⊢
  have hl : lv_has ls 4 [(0, .ref (a 0)), (1, .int x), (2, .int v)] := hl
  refine lv_iload_n hx hb dX8_put_0 rfl (lv_at hl 1 rfl) ?_
  refine lv_if_lt (tgt := 22) hx hb dX8_put_1 (by decide) (fun c_1 => ?_) (fun c_1 => ?_)
  · skip
    refine lv_bipush (v := (-2)) hx hb dX8_put_22 (by decide) ?_
    exact W.iret (v := (-2)) hx hb hr (fun t ht hW => ⟨⟨_, ((n, F, T, P, V, Wt, o), (G, L, R)), rfl, (by refine ⟨fun _ => ⟨rfl, rfl⟩, fun j hj ej ho => ?_⟩; exfalso; have hi := ix_in hj (by omega) ej; (simp only [decide_eq_true_eq, decide_eq_false_iff_not, Bool.and_eq_true, Bool.and_eq_false_iff, Bool.or_eq_true, Bool.or_eq_false_iff, Bool.not_eq_true, Bool.not_eq_false, ne_eq, not_and, not_or, tog_t, tog_f, ahd_t, ahd_f, isoB_t, isoB_f, ixB_t, ixB_f, vOK_t, vOK_f, wOK_t, wOK_f, tn4, Int32.lt_iff_toInt_lt, Int32.le_iff_toInt_le, ← Int32.toInt_inj, tI0, tI1, tI2, tI3, tI4, tI6, tI14, tI59, tI60, tI127, tI1000, tI100000, tIm1, tIm2, tIm3, tIm4, tIbig] at hi ho c_1 <;> omega)), by rw [ht]; exact hP, va_K.moved hW.alike hK, hD⟩, hS.F ht⟩) hS.2.2 dX8_put_24
  · skip
    refine lv_iload_n hx hb dX8_put_4 rfl (lv_at hl 1 rfl) ?_
    refine lv_aload_n hx hb dX8_put_5 rfl (lv_at hl 0 rfl) ?_
    refine va_get (D := (dC, dI)) (ci := 8) (v := .int (nI n)) (C := RX8) (T := TX8) (N := 10) hx hb hts i_X8 hown hK hP 0 rfl rfl 4 (by decide) k_0 (fun _ h9 => h9) rfl dX8_put_6 ?_
    refine lv_icmp_ge (tgt := 22) hx hb dX8_put_9 (by decide) (fun c_2 => ?_) (fun c_2 => ?_)
    · skip
      refine lv_bipush (v := (-2)) hx hb dX8_put_22 (by decide) ?_
      exact W.iret (v := (-2)) hx hb hr (fun t ht hW => ⟨⟨_, ((n, F, T, P, V, Wt, o), (G, L, R)), rfl, (by refine ⟨fun _ => ⟨rfl, rfl⟩, fun j hj ej ho => ?_⟩; exfalso; have hi := ix_in hj (by omega) ej; (simp only [decide_eq_true_eq, decide_eq_false_iff_not, Bool.and_eq_true, Bool.and_eq_false_iff, Bool.or_eq_true, Bool.or_eq_false_iff, Bool.not_eq_true, Bool.not_eq_false, ne_eq, not_and, not_or, tog_t, tog_f, ahd_t, ahd_f, isoB_t, isoB_f, ixB_t, ixB_f, vOK_t, vOK_f, wOK_t, wOK_f, tn4, Int32.lt_iff_toInt_lt, Int32.le_iff_toInt_le, ← Int32.toInt_inj, tI0, tI1, tI2, tI3, tI4, tI6, tI14, tI59, tI60, tI127, tI1000, tI100000, tIm1, tIm2, tIm3, tIm4, tIbig] at hi ho c_1 c_2 <;> omega)), by rw [ht]; exact hP, va_K.moved hW.alike hK, hD⟩, hS.F ht⟩) hS.2.2 dX8_put_24
    · skip
      obtain ⟨j, hj, ej⟩ : ∃ j, j < n ∧ x = nI j := ix_of (by omega) (by (simp only [decide_eq_true_eq, decide_eq_false_iff_not, Bool.and_eq_true, Bool.and_eq_false_iff, Bool.or_eq_true, Bool.or_eq_false_iff, Bool.not_eq_true, Bool.not_eq_false, ne_eq, not_and, not_or, tog_t, tog_f, ahd_t, ahd_f, isoB_t, isoB_f, ixB_t, ixB_f, vOK_t, vOK_f, wOK_t, wOK_f, tn4, Int32.lt_iff_toInt_lt, Int32.le_iff_toInt_le, ← Int32.toInt_inj, tI0, tI1, tI2, tI3, tI4, tI6, tI14, tI59, tI60, tI127, tI1000, tI100000, tIm1, tIm2, tIm3, tIm4, tIbig] at c_1 c_2 ⊢ <;> omega))
      refine lv_iload_n hx hb dX8_put_12 rfl (lv_at hl 2 rfl) ?_
      refine lv_iconst (v := (-1)) hx hb dX8_put_13 (by decide) ?_
      refine lv_icmp_lt (tgt := 22) hx hb dX8_put_14 (by decide) (fun c_3 => ?_) (fun c_3 => ?_)
      · skip
        refine lv_bipush (v := (-2)) hx hb dX8_put_22 (by decide) ?_
        exact W.iret (v := (-2)) hx hb hr (fun t ht hW => ⟨⟨_, ((n, F, T, P, V, Wt, o), (G, L, R)), rfl, (by refine ⟨fun _ => ⟨rfl, rfl⟩, fun j hj ej ho => ?_⟩; exfalso; have hi := ix_in hj (by omega) ej; (simp only [decide_eq_true_eq, decide_eq_false_iff_not, Bool.and_eq_true, Bool.and_eq_false_iff, Bool.or_eq_true, Bool.or_eq_false_iff, Bool.not_eq_true, Bool.not_eq_false, ne_eq, not_and, not_or, tog_t, tog_f, ahd_t, ahd_f, isoB_t, isoB_f, ixB_t, ixB_f, vOK_t, vOK_f, wOK_t, wOK_f, tn4, Int32.lt_iff_toInt_lt, Int32.le_iff_toInt_le, ← Int32.toInt_inj, tI0, tI1, tI2, tI3, tI4, tI6, tI14, tI59, tI60, tI127, tI1000, tI100000, tIm1, tIm2, tIm3, tIm4, tIbig] at hi ho c_1 c_2 c_3 <;> omega)), by rw [ht]; exact hP, va_K.moved hW.alike hK, hD⟩, hS.F ht⟩) hS.2.2 dX8_put_24
      · skip
        refine lv_iload_n hx hb dX8_put_17 rfl (lv_at hl 2 rfl) ?_
        refine lv_iconst (v := 4) hx hb dX8_put_18 (by decide) ?_
        refine lv_icmp_lt (tgt := 25) hx hb dX8_put_19 (by decide) (fun c_4 => ?_) (fun c_4 => ?_)
        · skip
          refine lv_aload_n hx hb dX8_put_25 rfl (lv_at hl 0 rfl) ?_
          refine va_get (D := (dC, dI)) (ci := 8) (v := .ref (a 4)) (C := RX8) (T := TX8) (N := 10) hx hb hts i_X8 hown hK hP 0 rfl rfl 3 (by decide) k_1 (fun _ h9 => h9) rfl dX8_put_26 ?_
          refine lv_iload_n hx hb dX8_put_29 rfl (lv_at hl 1 rfl) ?_
          refine gk_top (y := nI j) (ej) ?_
          refine gk_ld hx hb hK hP 4 0 rfl rfl j (by omega) (by omega) (v := V j) (rfl) dX8_put_30 ?_
          refine lv_istore_n (lv' := [(3, .int (V j)), (0, .ref (a 0)), (1, .int x), (2, .int v)]) hx hb dX8_put_31 rfl hl (by decide) rfl (fun ls hl => ?_)
          refine lv_aload_n hx hb dX8_put_32 rfl (lv_at hl 1 rfl) ?_
          refine va_get (D := (dC, dI)) (ci := 8) (v := .ref (a 4)) (C := RX8) (T := TX8) (N := 10) hx hb hts i_X8 hown hK hP 0 rfl rfl 3 (by decide) k_1 (fun _ h9 => h9) rfl dX8_put_33 ?_
          refine lv_iload_n hx hb dX8_put_36 rfl (lv_at hl 2 rfl) ?_
          refine gk_top (y := nI j) (ej) ?_
          refine lv_iload_n hx hb dX8_put_37 rfl (lv_at hl 3 rfl) ?_
          refine gk_st hx hb hK hP hD hS 4 0 rfl rfl j (by omega) (by omega) dX8_put_38 (fun H locs hP hD hS => ?_)
          have hP : va_P (dC, dI) vwCl [(a 0, .inr (8, [.ref (a 1), .ref (a 2), .ref (a 3), .ref (a 4), .int (nI n), .ref (a 5), .ref (a 6), .ref (a 7), .ref (a 8), .ref (a 9)])), (a 1, .inl (cI, 60, .inl F)), (a 2, .inl (cI, 60, .inl T)), (a 3, .inl (cI, 60, .inl P)), (a 4, .inl (cI, 60, .inl (upd V j v))), (a 5, .inl (cI, 4, .inl Wt)), (a 6, .inl (cI, 60, .inl (fun j => nI (o j)))), (a 7, .inl (cI, 60, .inl G)), (a 8, .inl (cI, 4, .inl L)), (a 9, .inl (cI, 759375, .inl R))] H := hP
          have hD : va_D A [(a 0, .inr (8, [.ref (a 1), .ref (a 2), .ref (a 3), .ref (a 4), .int (nI n), .ref (a 5), .ref (a 6), .ref (a 7), .ref (a 8), .ref (a 9)])), (a 1, .inl (cI, 60, .inl F)), (a 2, .inl (cI, 60, .inl T)), (a 3, .inl (cI, 60, .inl P)), (a 4, .inl (cI, 60, .inl (upd V j v))), (a 5, .inl (cI, 4, .inl Wt)), (a 6, .inl (cI, 60, .inl (fun j => nI (o j)))), (a 7, .inl (cI, 60, .inl G)), (a 8, .inl (cI, 4, .inl L)), (a 9, .inl (cI, 759375, .inl R))] := hD
          refine lv_iload_n hx hb dX8_put_39 rfl (lv_at hl 0 rfl) ?_
          exact W.iret (v := V j) hx hb hr (fun t ht hW => ⟨⟨_, ((n, F, T, P, upd V j v, Wt, o), (G, L, R)), rfl, (by refine ⟨fun h => ?_, fun k hk ek _ => ?_⟩; (exfalso; rcases h with h | h <;> first | exact no_tf (ix_in hj (by omega) ej) h | exact no_tf (by (simp only [decide_eq_true_eq, decide_eq_false_iff_not, Bool.and_eq_true, Bool.and_eq_false_iff, Bool.or_eq_true, Bool.or_eq_false_iff, Bool.not_eq_true, Bool.not_eq_false, ne_eq, not_and, not_or, tog_t, tog_f, ahd_t, ahd_f, isoB_t, isoB_f, ixB_t, ixB_f, vOK_t, vOK_f, wOK_t, wOK_f, tn4, Int32.lt_iff_toInt_lt, Int32.le_iff_toInt_le, ← Int32.toInt_inj, tI0, tI1, tI2, tI3, tI4, tI6, tI14, tI59, tI60, tI127, tI1000, tI100000, tIm1, tIm2, tIm3, tIm4, tIbig] at c_1 c_2 c_3 c_4 ⊢ <;> omega)) h); obtain rfl := nI_j hj hk (by omega) ej ek; exact ⟨rfl, rfl⟩), by rw [ht]; exact hP, va_K.moved hW.alike hK, hD⟩, hS.F ht⟩) hS.2.2 dX8_put_40
        · skip
          refine lv_bipush (v := (-2)) hx hb dX8_put_22 (by decide) ?_
          exact W.iret (v := (-2)) hx hb hr (fun t ht hW => ⟨⟨_, ((n, F, T, P, V, Wt, o), (G, L, R)), rfl, (by refine ⟨fun _ => ⟨rfl, rfl⟩, fun j hj ej ho => ?_⟩; exfalso; have hi := ix_in hj (by omega) ej; (simp only [decide_eq_true_eq, decide_eq_false_iff_not, Bool.and_eq_true, Bool.and_eq_false_iff, Bool.or_eq_true, Bool.or_eq_false_iff, Bool.not_eq_true, Bool.not_eq_false, ne_eq, not_and, not_or, tog_t, tog_f, ahd_t, ahd_f, isoB_t, isoB_f, ixB_t, ixB_f, vOK_t, vOK_f, wOK_t, wOK_f, tn4, Int32.lt_iff_toInt_lt, Int32.le_iff_toInt_le, ← Int32.toInt_inj, tI0, tI1, tI2, tI3, tI4, tI6, tI14, tI59, tI60, tI127, tI1000, tI100000, tIm1, tIm2, tIm3, tIm4, tIbig] at hi ho c_1 c_2 c_3 c_4 <;> omega)), by rw [ht]; exact hP, va_K.moved hW.alike hK, hD⟩, hS.F ht⟩) hS.2.2 dX8_put_24

set_option maxHeartbeats 4000000 in
set_option maxRecDepth 100000 in
theorem c_X8_clear (l : Launch) (dC : Nat → ClassId) (dI : Nat → Nat → Nat) (cI : ClassId) (sz : Nat) (a : Nat → Nat) (n : Nat) (F T P V Wt : Nat → Int32) (o : Nat → Nat) (G L R : Nat → Int32) (hn : n ≤ 60) (ho : ∀ j, o j < 60)  : Met l yX8_clear wsX8_clear ({ frames := 0, cells := 0, slots := 0, locals := 0 } : Room) (va_Pc [.ref (a 0)] (fun U => U.heap.size = sz ∧ va_P (dC, dI) vwCl (mW cI a (nI n) F T P V Wt (fun j => nI (o j)) G L R) U.heap ∧ va_K (dC, dI) vwCl [(cI, .int)] U ∧ va_D (fun _ => True) (mW cI a (nI n) F T P V Wt (fun j => nI (o j)) G L R))) (va_Qi (fun (r : Int32) (u : SS × MJ) => r = nI n ∧ u = ((0, F, T, P, V, upd (upd (upd (upd Wt 0 1) 1 1) 2 12) 3 0, o), (G, L, R))) (fun u t => va_P (dC, dI) vwCl (mWu cI a u.1 u.2) t.heap ∧ va_K (dC, dI) vwCl [(cI, .int)] t ∧ va_D (va_A (mW cI a (nI n) F T P V Wt (fun j => nI (o j)) G L R) sz) (mWu cI a u.1 u.2)) (va_A (mW cI a (nI n) F T P V Wt (fun j => nI (o j)) G L R) sz)) 0 0 (va_A (mW cI a (nI n) F T P V Wt (fun j => nI (o j)) G L R) sz) := by
  refine Met.ofW (cc := cX8_clear) (maxL := 2) (ret := (some .int)) (by decide) rfl ?_
  intro p e s m args below meth c s₁ B hml hv
  obtain ⟨rfl, hsz, hP, hK, hD0⟩ := hv
  have hx := B.exec
  have hb := B.bytes
  have hr := B.returns
  have hts := atoms_spec (ws := wsX8_clear) B.pre
  have hown : s.vm.findClass RX8 = some m.cls := findClass_of_methodNamed B.named
  have hlocks := B.notSynchronized
  subst hsz
  have hD := hD0.self (sz := s.heap.size)
  generalize hAe : va_A (mW cI a (nI n) F T P V Wt (fun j => nI (o j)) G L R) s.heap.size = A at hD ⊢
  have hA : ∀ q : Nat, s.heap.size ≤ q → A q := fun q h => by rw [← hAe]; exact Or.inr h
  have hS : va_S A s.heap s.heap [] := va_S.rf
  have i_X8 : ∀ w ∈ u_ws RX8 TX8 10, w ∈ wsX8_clear := by decide +kernel
  have k_0 := hts (.fieldLink RX8 38 "VoiceRowsModel" "notes" "I") (by decide +kernel)
  have k_1 := hts (.fieldLink RX8 22 "VoiceRowsModel" "weights" "[I") (by decide +kernel)
  have hl := lv_entry ([.ref (a 0)]) (n := 2) (Nat.le_of_ble_eq_true rfl)
  rw [lg_entry_eq]
  generalize (lg_sl ([.ref (a 0)]) ++ List.replicate (2 - (lg_sl ([.ref (a 0)])).length) Slot.unset).toArray = ls at hl ⊢
  have hl : lv_has ls 2 [(0, .ref (a 0))] := hl
  refine lv_aload_n hx hb dX8_clear_0 rfl (lv_at hl 0 rfl) ?_
  refine va_get (D := (dC, dI)) (ci := 8) (v := .int (nI n)) (C := RX8) (T := TX8) (N := 10) hx hb hts i_X8 hown hK hP 0 rfl rfl 4 (by decide) k_0 (fun _ h9 => h9) rfl dX8_clear_1 ?_
  refine lv_istore_n (lv' := [(1, .int (nI n)), (0, .ref (a 0))]) hx hb dX8_clear_4 rfl hl (by decide) rfl (fun ls hl => ?_)
  refine lv_aload_n hx hb dX8_clear_5 rfl (lv_at hl 1 rfl) ?_
  refine lv_iconst (v := 0) hx hb dX8_clear_6 (by decide) ?_
  refine va_put (D := (dC, dI)) (ci := 8) (v := .int 0) (ty := .int) (C := RX8) (T := TX8) (N := 10) hx hb hts i_X8 tyX8 tyX8_ok nmX8 hown hK hP hD hS 0 rfl rfl 4 (by decide) k_0 (fun _ h9 => h9) rfl (by decide +kernel) rfl rfl (Nat.le_of_ble_eq_true rfl) dX8_clear_7 (fun H locs hP hD hS => ?_)
  have hP : va_P (dC, dI) vwCl [(a 0, .inr (8, [.ref (a 1), .ref (a 2), .ref (a 3), .ref (a 4), .int 0, .ref (a 5), .ref (a 6), .ref (a 7), .ref (a 8), .ref (a 9)])), (a 1, .inl (cI, 60, .inl F)), (a 2, .inl (cI, 60, .inl T)), (a 3, .inl (cI, 60, .inl P)), (a 4, .inl (cI, 60, .inl V)), (a 5, .inl (cI, 4, .inl Wt)), (a 6, .inl (cI, 60, .inl (fun j => nI (o j)))), (a 7, .inl (cI, 60, .inl G)), (a 8, .inl (cI, 4, .inl L)), (a 9, .inl (cI, 759375, .inl R))] H := hP
  have hD : va_D A [(a 0, .inr (8, [.ref (a 1), .ref (a 2), .ref (a 3), .ref (a 4), .int 0, .ref (a 5), .ref (a 6), .ref (a 7), .ref (a 8), .ref (a 9)])), (a 1, .inl (cI, 60, .inl F)), (a 2, .inl (cI, 60, .inl T)), (a 3, .inl (cI, 60, .inl P)), (a 4, .inl (cI, 60, .inl V)), (a 5, .inl (cI, 4, .inl Wt)), (a 6, .inl (cI, 60, .inl (fun j => nI (o j)))), (a 7, .inl (cI, 60, .inl G)), (a 8, .inl (cI, 4, .inl L)), (a 9, .inl (cI, 759375, .inl R))] := hD
  refine lv_aload_n hx hb dX8_clear_10 rfl (lv_at hl 1 rfl) ?_
  refine va_get (D := (dC, dI)) (ci := 8) (v := .ref (a 5)) (C := RX8) (T := TX8) (N := 10) hx hb hts i_X8 hown hK hP 0 rfl rfl 5 (by decide) k_1 (fun _ h9 => h9) rfl dX8_clear_11 ?_
  refine lv_iconst (v := 0) hx hb dX8_clear_14 (by decide) ?_
  refine lv_iconst (v := 1) hx hb dX8_clear_15 (by decide) ?_
  refine gk_st hx hb hK hP hD hS 5 0 rfl rfl 0 (by omega) (by omega) dX8_clear_16 (fun H locs hP hD hS => ?_)
  have hP : va_P (dC, dI) vwCl [(a 0, .inr (8, [.ref (a 1), .ref (a 2), .ref (a 3), .ref (a 4), .int 0, .ref (a 5), .ref (a 6), .ref (a 7), .ref (a 8), .ref (a 9)])), (a 1, .inl (cI, 60, .inl F)), (a 2, .inl (cI, 60, .inl T)), (a 3, .inl (cI, 60, .inl P)), (a 4, .inl (cI, 60, .inl V)), (a 5, .inl (cI, 4, .inl (upd Wt 0 1))), (a 6, .inl (cI, 60, .inl (fun j => nI (o j)))), (a 7, .inl (cI, 60, .inl G)), (a 8, .inl (cI, 4, .inl L)), (a 9, .inl (cI, 759375, .inl R))] H := hP
  have hD : va_D A [(a 0, .inr (8, [.ref (a 1), .ref (a 2), .ref (a 3), .ref (a 4), .int 0, .ref (a 5), .ref (a 6), .ref (a 7), .ref (a 8), .ref (a 9)])), (a 1, .inl (cI, 60, .inl F)), (a 2, .inl (cI, 60, .inl T)), (a 3, .inl (cI, 60, .inl P)), (a 4, .inl (cI, 60, .inl V)), (a 5, .inl (cI, 4, .inl (upd Wt 0 1))), (a 6, .inl (cI, 60, .inl (fun j => nI (o j)))), (a 7, .inl (cI, 60, .inl G)), (a 8, .inl (cI, 4, .inl L)), (a 9, .inl (cI, 759375, .inl R))] := hD
  refine lv_aload_n hx hb dX8_clear_17 rfl (lv_at hl 1 rfl) ?_
  refine va_get (D := (dC, dI)) (ci := 8) (v := .ref (a 5)) (C := RX8) (T := TX8) (N := 10) hx hb hts i_X8 hown hK hP 0 rfl rfl 5 (by decide) k_1 (fun _ h9 => h9) rfl dX8_clear_18 ?_
  refine lv_iconst (v := 1) hx hb dX8_clear_21 (by decide) ?_
  refine lv_iconst (v := 1) hx hb dX8_clear_22 (by decide) ?_
  refine gk_st hx hb hK hP hD hS 5 0 rfl rfl 1 (by omega) (by omega) dX8_clear_23 (fun H locs hP hD hS => ?_)
  have hP : va_P (dC, dI) vwCl [(a 0, .inr (8, [.ref (a 1), .ref (a 2), .ref (a 3), .ref (a 4), .int 0, .ref (a 5), .ref (a 6), .ref (a 7), .ref (a 8), .ref (a 9)])), (a 1, .inl (cI, 60, .inl F)), (a 2, .inl (cI, 60, .inl T)), (a 3, .inl (cI, 60, .inl P)), (a 4, .inl (cI, 60, .inl V)), (a 5, .inl (cI, 4, .inl (upd (upd Wt 0 1) 1 1))), (a 6, .inl (cI, 60, .inl (fun j => nI (o j)))), (a 7, .inl (cI, 60, .inl G)), (a 8, .inl (cI, 4, .inl L)), (a 9, .inl (cI, 759375, .inl R))] H := hP
  have hD : va_D A [(a 0, .inr (8, [.ref (a 1), .ref (a 2), .ref (a 3), .ref (a 4), .int 0, .ref (a 5), .ref (a 6), .ref (a 7), .ref (a 8), .ref (a 9)])), (a 1, .inl (cI, 60, .inl F)), (a 2, .inl (cI, 60, .inl T)), (a 3, .inl (cI, 60, .inl P)), (a 4, .inl (cI, 60, .inl V)), (a 5, .inl (cI, 4, .inl (upd (upd Wt 0 1) 1 1))), (a 6, .inl (cI, 60, .inl (fun j => nI (o j)))), (a 7, .inl (cI, 60, .inl G)), (a 8, .inl (cI, 4, .inl L)), (a 9, .inl (cI, 759375, .inl R))] := hD
  refine lv_aload_n hx hb dX8_clear_24 rfl (lv_at hl 1 rfl) ?_
  refine va_get (D := (dC, dI)) (ci := 8) (v := .ref (a 5)) (C := RX8) (T := TX8) (N := 10) hx hb hts i_X8 hown hK hP 0 rfl rfl 5 (by decide) k_1 (fun _ h9 => h9) rfl dX8_clear_25 ?_
  refine lv_iconst (v := 2) hx hb dX8_clear_28 (by decide) ?_
  refine lv_bipush (v := 12) hx hb dX8_clear_29 (by decide) ?_
  refine gk_st hx hb hK hP hD hS 5 0 rfl rfl 2 (by omega) (by omega) dX8_clear_31 (fun H locs hP hD hS => ?_)
  have hP : va_P (dC, dI) vwCl [(a 0, .inr (8, [.ref (a 1), .ref (a 2), .ref (a 3), .ref (a 4), .int 0, .ref (a 5), .ref (a 6), .ref (a 7), .ref (a 8), .ref (a 9)])), (a 1, .inl (cI, 60, .inl F)), (a 2, .inl (cI, 60, .inl T)), (a 3, .inl (cI, 60, .inl P)), (a 4, .inl (cI, 60, .inl V)), (a 5, .inl (cI, 4, .inl (upd (upd (upd Wt 0 1) 1 1) 2 12))), (a 6, .inl (cI, 60, .inl (fun j => nI (o j)))), (a 7, .inl (cI, 60, .inl G)), (a 8, .inl (cI, 4, .inl L)), (a 9, .inl (cI, 759375, .inl R))] H := hP
  have hD : va_D A [(a 0, .inr (8, [.ref (a 1), .ref (a 2), .ref (a 3), .ref (a 4), .int 0, .ref (a 5), .ref (a 6), .ref (a 7), .ref (a 8), .ref (a 9)])), (a 1, .inl (cI, 60, .inl F)), (a 2, .inl (cI, 60, .inl T)), (a 3, .inl (cI, 60, .inl P)), (a 4, .inl (cI, 60, .inl V)), (a 5, .inl (cI, 4, .inl (upd (upd (upd Wt 0 1) 1 1) 2 12))), (a 6, .inl (cI, 60, .inl (fun j => nI (o j)))), (a 7, .inl (cI, 60, .inl G)), (a 8, .inl (cI, 4, .inl L)), (a 9, .inl (cI, 759375, .inl R))] := hD
  refine lv_aload_n hx hb dX8_clear_32 rfl (lv_at hl 1 rfl) ?_
  refine va_get (D := (dC, dI)) (ci := 8) (v := .ref (a 5)) (C := RX8) (T := TX8) (N := 10) hx hb hts i_X8 hown hK hP 0 rfl rfl 5 (by decide) k_1 (fun _ h9 => h9) rfl dX8_clear_33 ?_
  refine lv_iconst (v := 3) hx hb dX8_clear_36 (by decide) ?_
  refine lv_iconst (v := 0) hx hb dX8_clear_37 (by decide) ?_
  refine gk_st hx hb hK hP hD hS 5 0 rfl rfl 3 (by omega) (by omega) dX8_clear_38 (fun H locs hP hD hS => ?_)
  have hP : va_P (dC, dI) vwCl [(a 0, .inr (8, [.ref (a 1), .ref (a 2), .ref (a 3), .ref (a 4), .int 0, .ref (a 5), .ref (a 6), .ref (a 7), .ref (a 8), .ref (a 9)])), (a 1, .inl (cI, 60, .inl F)), (a 2, .inl (cI, 60, .inl T)), (a 3, .inl (cI, 60, .inl P)), (a 4, .inl (cI, 60, .inl V)), (a 5, .inl (cI, 4, .inl (upd (upd (upd (upd Wt 0 1) 1 1) 2 12) 3 0))), (a 6, .inl (cI, 60, .inl (fun j => nI (o j)))), (a 7, .inl (cI, 60, .inl G)), (a 8, .inl (cI, 4, .inl L)), (a 9, .inl (cI, 759375, .inl R))] H := hP
  have hD : va_D A [(a 0, .inr (8, [.ref (a 1), .ref (a 2), .ref (a 3), .ref (a 4), .int 0, .ref (a 5), .ref (a 6), .ref (a 7), .ref (a 8), .ref (a 9)])), (a 1, .inl (cI, 60, .inl F)), (a 2, .inl (cI, 60, .inl T)), (a 3, .inl (cI, 60, .inl P)), (a 4, .inl (cI, 60, .inl V)), (a 5, .inl (cI, 4, .inl (upd (upd (upd (upd Wt 0 1) 1 1) 2 12) 3 0))), (a 6, .inl (cI, 60, .inl (fun j => nI (o j)))), (a 7, .inl (cI, 60, .inl G)), (a 8, .inl (cI, 4, .inl L)), (a 9, .inl (cI, 759375, .inl R))] := hD
  refine lv_iload_n hx hb dX8_clear_39 rfl (lv_at hl 0 rfl) ?_
  exact W.iret (v := nI n) hx hb hr (fun t ht hW => ⟨⟨_, ((0, F, T, P, V, upd (upd (upd (upd Wt 0 1) 1 1) 2 12) 3 0, o), (G, L, R)), rfl, (by exact ⟨rfl, rfl⟩), by rw [ht]; exact hP, va_K.moved hW.alike hK, hD⟩, hS.F ht⟩) hS.2.2 dX8_clear_40
