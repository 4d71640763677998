theorem gk_sameA {D : va_G} {cl : List vw_C} {c1 c2 : ClassId} {s : State} (h : va_K D cl ([(c1, .int)] ++ [(c2, .int)]) s) : c1 = c2 := by
  have h1 : s.vm.findClass _ = some c1 := (h.2 0 (c1, .int) rfl).2
  have h2 : s.vm.findClass _ = some c2 := (h.2 1 (c2, .int) rfl).2
  exact Option.some.inj (h1.symm.trans h2)
def allC (n nv kl : Nat) : Nat := if n ^ nv ≤ kl then 0 else 1
def nkl (n nv kl : Nat) : Nat := if n ^ nv ≤ kl then kl else min 38416 (max (n ^ nv) (2 * kl))
def allS (n nv kl : Nat) : Nat := if n ^ nv ≤ kl then 0 else min 38416 (max (n ^ nv) (2 * kl))
theorem pw14 {n nv : Nat} (hn : n ≤ 14) (hv : nv ≤ 4) : n ^ nv ≤ 38416 := by
  rcases Nat.eq_zero_or_pos n with e | e
  · subst e
    rcases Nat.eq_zero_or_pos nv with e2 | e2
    · subst e2
      decide
    · rw [Nat.zero_pow e2]
      decide
  · have h1 : n ^ nv ≤ n ^ 4 := Nat.pow_le_pow_right e hv
    have h2 : n ^ 4 ≤ 14 ^ 4 := Nat.pow_le_pow_left hn 4
    have h3 : (14 : Nat) ^ 4 = 38416 := by decide
    omega
theorem nkl_ge {n nv kl : Nat} (hn : n ≤ 14) (hv : nv ≤ 4) : n ^ nv ≤ nkl n nv kl := by
  have := pw14 hn hv
  unfold nkl
  split
  · assumption
  · omega
theorem nkl_le {n nv kl : Nat} (hk : kl ≤ 38416) : nkl n nv kl ≤ 38416 := by
  unfold nkl
  split
  · assumption
  · omega
theorem gk_2mul {k : Nat} : (2 : Int32) * nI k = nI (2 * k) := by
  rw [show (2 : Int32) = nI 2 from rfl]
  exact pk_mul 2 k
theorem mx_nI {a b : Nat} (ha : a < 2 ^ 31) (hb : b < 2 ^ 31) : (if nI a < nI b then nI b else nI a) = nI (max a b) := by
  by_cases h : a < b
  · rw [if_pos ((nI_ltI ha hb).mpr h), Nat.max_eq_right (by omega)]
  · rw [if_neg (fun q => h ((nI_ltI ha hb).mp q)), Nat.max_eq_left (by omega)]
theorem mi_nI {a b : Nat} (ha : a < 2 ^ 31) (hb : b < 2 ^ 31) : (if nI b < nI a then nI b else nI a) = nI (min a b) := by
  by_cases h : b < a
  · rw [if_pos ((nI_ltI hb ha).mpr h), Nat.min_eq_right (by omega)]
  · rw [if_neg (fun q => h ((nI_ltI hb ha).mp q)), Nat.min_eq_left (by omega)]
set_option maxHeartbeats 1000000 in
set_option maxRecDepth 100000 in
theorem c_X1_firstBest (l : Launch) (dC : Nat → ClassId) (dI : Nat → Nat → Nat) (cI : ClassId) (sz : Nat) (b : Nat → Nat) (n : Nat) (F T P V : Nat → Int32) (o kr : Nat → Nat) (hn : n ≤ 60) (ho : ∀ j, o j < 60) (Wt : Nat → Int32) (PL : Nat → Int32) (kn kl : Nat) (nv : Nat) (hv4 : nv ≤ 4) (hPL : ∀ v, v < nv → PL v = nI (n ^ v)) (hkl : n ^ nv ≤ kl) (hkb : kl ≤ 38416) (hn4 : n ≤ 14) (hko : ∀ j, j < n → kr (o j) = j) (hg : gB F T P Wt o n nv) (KN : Nat → Int32) (r : Nat) (hr0 : r < n) (hok : okF F T P Wt o n nv r) (hki : kiP F T P Wt o n nv KN) : Met l yX1_firstBest wsX1_firstBest ({ frames := 62, cells := 0, slots := 0, locals := 1000 } : Room) (va_Pc [.ref (b 16), .int (nI r), .int (nI (stt n (laF F T P Wt o n nv r) nv))] (fun U => U.heap.size = sz ∧ va_P (dC, dI) vwCl [(b 16, .inr (1, [.ref (b 1), .ref (b 14), .ref (b 17), .int (nI nv), .ref kn])), (b 17, .inl (cI, 4, .inl PL)), (kn, .inl (cI, kl, .inl KN)), (b 14, .inr (3, [.ref (b 1), .ref (b 8), .ref (b 15)])), (b 8, .inl (cI, 4, .inl Wt)), (b 15, .inl (cI, 4, .inl (fun j => oi (lnO o (laF F T P Wt o n nv r) j)))), (b 1, .inr (6, [.int (nI n), .ref (b 2), .ref (b 3), .ref (b 4), .ref (b 5), .ref (b 6), .ref (b 7)])), (b 2, .inl (cI, 60, .inl F)), (b 3, .inl (cI, 60, .inl T)), (b 4, .inl (cI, 60, .inl P)), (b 5, .inl (cI, 60, .inl V)), (b 6, .inl (cI, 60, .inl (fun j => nI (o j)))), (b 7, .inl (cI, 60, .inl (fun j => nI (kr j))))] U.heap ∧ va_K (dC, dI) vwCl [(cI, .int)] U ∧ va_D (fun _ => True) [(b 16, .inr (1, [.ref (b 1), .ref (b 14), .ref (b 17), .int (nI nv), .ref kn])), (b 17, .inl (cI, 4, .inl PL)), (kn, .inl (cI, kl, .inl KN)), (b 14, .inr (3, [.ref (b 1), .ref (b 8), .ref (b 15)])), (b 8, .inl (cI, 4, .inl Wt)), (b 15, .inl (cI, 4, .inl (fun j => oi (lnO o (laF F T P Wt o n nv r) j)))), (b 1, .inr (6, [.int (nI n), .ref (b 2), .ref (b 3), .ref (b 4), .ref (b 5), .ref (b 6), .ref (b 7)])), (b 2, .inl (cI, 60, .inl F)), (b 3, .inl (cI, 60, .inl T)), (b 4, .inl (cI, 60, .inl P)), (b 5, .inl (cI, 60, .inl V)), (b 6, .inl (cI, 60, .inl (fun j => nI (o j)))), (b 7, .inl (cI, 60, .inl (fun j => nI (kr j))))])) (va_Qi (fun (rr : Int32) (u : Nat → Int32) => rr = nI (chF F T P Wt o n nv r) ∧ kiP F T P Wt o n nv u) (fun u t => va_P (dC, dI) vwCl [(b 16, .inr (1, [.ref (b 1), .ref (b 14), .ref (b 17), .int (nI nv), .ref kn])), (b 17, .inl (cI, 4, .inl PL)), (kn, .inl (cI, kl, .inl u)), (b 14, .inr (3, [.ref (b 1), .ref (b 8), .ref (b 15)])), (b 8, .inl (cI, 4, .inl Wt)), (b 15, .inl (cI, 4, .inl (fun j => oi (lnO o (laF F T P Wt o n nv r) j)))), (b 1, .inr (6, [.int (nI n), .ref (b 2), .ref (b 3), .ref (b 4), .ref (b 5), .ref (b 6), .ref (b 7)])), (b 2, .inl (cI, 60, .inl F)), (b 3, .inl (cI, 60, .inl T)), (b 4, .inl (cI, 60, .inl P)), (b 5, .inl (cI, 60, .inl V)), (b 6, .inl (cI, 60, .inl (fun j => nI (o j)))), (b 7, .inl (cI, 60, .inl (fun j => nI (kr j))))] t.heap ∧ va_K (dC, dI) vwCl [(cI, .int)] t ∧ va_D (va_A [(b 16, .inr (1, [.ref (b 1), .ref (b 14), .ref (b 17), .int (nI nv), .ref kn])), (b 17, .inl (cI, 4, .inl PL)), (kn, .inl (cI, kl, .inl KN)), (b 14, .inr (3, [.ref (b 1), .ref (b 8), .ref (b 15)])), (b 8, .inl (cI, 4, .inl Wt)), (b 15, .inl (cI, 4, .inl (fun j => oi (lnO o (laF F T P Wt o n nv r) j)))), (b 1, .inr (6, [.int (nI n), .ref (b 2), .ref (b 3), .ref (b 4), .ref (b 5), .ref (b 6), .ref (b 7)])), (b 2, .inl (cI, 60, .inl F)), (b 3, .inl (cI, 60, .inl T)), (b 4, .inl (cI, 60, .inl P)), (b 5, .inl (cI, 60, .inl V)), (b 6, .inl (cI, 60, .inl (fun j => nI (o j)))), (b 7, .inl (cI, 60, .inl (fun j => nI (kr j))))] sz) [(b 16, .inr (1, [.ref (b 1), .ref (b 14), .ref (b 17), .int (nI nv), .ref kn])), (b 17, .inl (cI, 4, .inl PL)), (kn, .inl (cI, kl, .inl u)), (b 14, .inr (3, [.ref (b 1), .ref (b 8), .ref (b 15)])), (b 8, .inl (cI, 4, .inl Wt)), (b 15, .inl (cI, 4, .inl (fun j => oi (lnO o (laF F T P Wt o n nv r) j)))), (b 1, .inr (6, [.int (nI n), .ref (b 2), .ref (b 3), .ref (b 4), .ref (b 5), .ref (b 6), .ref (b 7)])), (b 2, .inl (cI, 60, .inl F)), (b 3, .inl (cI, 60, .inl T)), (b 4, .inl (cI, 60, .inl P)), (b 5, .inl (cI, 60, .inl V)), (b 6, .inl (cI, 60, .inl (fun j => nI (o j)))), (b 7, .inl (cI, 60, .inl (fun j => nI (kr j))))]) (va_A [(b 16, .inr (1, [.ref (b 1), .ref (b 14), .ref (b 17), .int (nI nv), .ref kn])), (b 17, .inl (cI, 4, .inl PL)), (kn, .inl (cI, kl, .inl KN)), (b 14, .inr (3, [.ref (b 1), .ref (b 8), .ref (b 15)])), (b 8, .inl (cI, 4, .inl Wt)), (b 15, .inl (cI, 4, .inl (fun j => oi (lnO o (laF F T P Wt o n nv r) j)))), (b 1, .inr (6, [.int (nI n), .ref (b 2), .ref (b 3), .ref (b 4), .ref (b 5), .ref (b 6), .ref (b 7)])), (b 2, .inl (cI, 60, .inl F)), (b 3, .inl (cI, 60, .inl T)), (b 4, .inl (cI, 60, .inl P)), (b 5, .inl (cI, 60, .inl V)), (b 6, .inl (cI, 60, .inl (fun j => nI (o j)))), (b 7, .inl (cI, 60, .inl (fun j => nI (kr j))))] sz)) 0 0 (va_A [(b 16, .inr (1, [.ref (b 1), .ref (b 14), .ref (b 17), .int (nI nv), .ref kn])), (b 17, .inl (cI, 4, .inl PL)), (kn, .inl (cI, kl, .inl KN)), (b 14, .inr (3, [.ref (b 1), .ref (b 8), .ref (b 15)])), (b 8, .inl (cI, 4, .inl Wt)), (b 15, .inl (cI, 4, .inl (fun j => oi (lnO o (laF F T P Wt o n nv r) j)))), (b 1, .inr (6, [.int (nI n), .ref (b 2), .ref (b 3), .ref (b 4), .ref (b 5), .ref (b 6), .ref (b 7)])), (b 2, .inl (cI, 60, .inl F)), (b 3, .inl (cI, 60, .inl T)), (b 4, .inl (cI, 60, .inl P)), (b 5, .inl (cI, 60, .inl V)), (b 6, .inl (cI, 60, .inl (fun j => nI (o j)))), (b 7, .inl (cI, 60, .inl (fun j => nI (kr j))))] sz) := by
  refine Met.ofW (cc := cX1_firstBest) (maxL := 7) (ret := (some .int)) (by decide) rfl ?_
  intro p e s m args below meth c s₁ B hml hv
  obtain ⟨rfl, hsz, hP, hK, hD0⟩ := hv
  have hx := B.exec
  have hb := B.bytes
  have hr := B.returns
  have hts := atoms_spec (ws := wsX1_firstBest) B.pre
  have hown : s.vm.findClass RX1 = some m.cls := findClass_of_methodNamed B.named
  have hlocks := B.notSynchronized
  subst hsz
  have hD := hD0.self (sz := s.heap.size)
  generalize hAe : va_A [(b 16, .inr (1, [.ref (b 1), .ref (b 14), .ref (b 17), .int (nI nv), .ref kn])), (b 17, .inl (cI, 4, .inl PL)), (kn, .inl (cI, kl, .inl KN)), (b 14, .inr (3, [.ref (b 1), .ref (b 8), .ref (b 15)])), (b 8, .inl (cI, 4, .inl Wt)), (b 15, .inl (cI, 4, .inl (fun j => oi (lnO o (laF F T P Wt o n nv r) j)))), (b 1, .inr (6, [.int (nI n), .ref (b 2), .ref (b 3), .ref (b 4), .ref (b 5), .ref (b 6), .ref (b 7)])), (b 2, .inl (cI, 60, .inl F)), (b 3, .inl (cI, 60, .inl T)), (b 4, .inl (cI, 60, .inl P)), (b 5, .inl (cI, 60, .inl V)), (b 6, .inl (cI, 60, .inl (fun j => nI (o j)))), (b 7, .inl (cI, 60, .inl (fun j => nI (kr j))))] s.heap.size = A at hD ⊢
  have hA : ∀ q : Nat, s.heap.size ≤ q → A q := fun q h => by rw [← hAe]; exact Or.inr h
  have hS : va_S A s.heap s.heap [] := va_S.rf
  have i_X1 : ∀ w ∈ u_ws RX1 TX1 5, w ∈ wsX1_firstBest := by decide +kernel
  have i_X6 : ∀ w ∈ u_ws RX6 TX6 7, w ∈ wsX1_firstBest := by decide +kernel
  have k_0 := hts (.fieldLink RX1 26 "VoiceRows$Finder" "voices" "I") (by decide +kernel)
  have k_1 := hts (.fieldLink RX1 22 "VoiceRows$Finder" "lines" "LVoiceRows$Lines;") (by decide +kernel)
  have k_2 := hts (.fieldLink RX1 18 "VoiceRows$Finder" "score" "LVoiceRows$Score;") (by decide +kernel)
  have k_3 := hts (.fieldLink RX1 47 "VoiceRows$Score" "order" "[I") (by decide +kernel)
  have hl := lv_entry ([.ref (b 16), .int (nI r), .int (nI (stt n (laF F T P Wt o n nv r) nv))]) (n := 7) (Nat.le_of_ble_eq_true rfl)
  rw [lg_entry_eq]
  generalize (lg_sl ([.ref (b 16), .int (nI r), .int (nI (stt n (laF F T P Wt o n nv r) nv))]) ++ List.replicate (7 - (lg_sl ([.ref (b 16), .int (nI r), .int (nI (stt n (laF F T P Wt o n nv r) nv))])).length) Slot.unset).toArray = ls at hl ⊢
  have hl : lv_has ls 7 [(0, .ref (b 16)), (1, .int (nI r)), (2, .int (nI (stt n (laF F T P Wt o n nv r) nv)))] := hl
  have hcf := chF_lt hr0 hok
  have hnv : 1 ≤ nv := by have := hcf.1; omega
  refine lv_aload_n hx hb dX1_firstBest_0 rfl (lv_at hl 0 rfl) ?_
  refine lv_iload_n hx hb dX1_firstBest_1 rfl (lv_at hl 1 rfl) ?_
  refine lv_iload_n hx hb dX1_firstBest_2 rfl (lv_at hl 2 rfl) ?_
  have hPc := hP.sub (ws' := [(b 16, .inr (1, [.ref (b 1), .ref (b 14), .ref (b 17), .int (nI nv), .ref kn])), (b 17, .inl (cI, 4, .inl PL)), (kn, .inl (cI, kl, .inl KN)), (b 14, .inr (3, [.ref (b 1), .ref (b 8), .ref (b 15)])), (b 8, .inl (cI, 4, .inl Wt)), (b 15, .inl (cI, 4, .inl (fun j => oi (lnO o (laF F T P Wt o n nv r) j)))), (b 1, .inr (6, [.int (nI n), .ref (b 2), .ref (b 3), .ref (b 4), .ref (b 5), .ref (b 6), .ref (b 7)])), (b 2, .inl (cI, 60, .inl F)), (b 3, .inl (cI, 60, .inl T)), (b 4, .inl (cI, 60, .inl P)), (b 5, .inl (cI, 60, .inl V)), (b 6, .inl (cI, 60, .inl (fun j => nI (o j)))), (b 7, .inl (cI, 60, .inl (fun j => nI (kr j))))]) [0, 1, 2, 3, 4, 5, 6, 7, 8, 9, 10, 11, 12] rfl
  have hDc := hD.sub (ws' := [(b 16, .inr (1, [.ref (b 1), .ref (b 14), .ref (b 17), .int (nI nv), .ref kn])), (b 17, .inl (cI, 4, .inl PL)), (kn, .inl (cI, kl, .inl KN)), (b 14, .inr (3, [.ref (b 1), .ref (b 8), .ref (b 15)])), (b 8, .inl (cI, 4, .inl Wt)), (b 15, .inl (cI, 4, .inl (fun j => oi (lnO o (laF F T P Wt o n nv r) j)))), (b 1, .inr (6, [.int (nI n), .ref (b 2), .ref (b 3), .ref (b 4), .ref (b 5), .ref (b 6), .ref (b 7)])), (b 2, .inl (cI, 60, .inl F)), (b 3, .inl (cI, 60, .inl T)), (b 4, .inl (cI, 60, .inl P)), (b 5, .inl (cI, 60, .inl V)), (b 6, .inl (cI, 60, .inl (fun j => nI (o j)))), (b 7, .inl (cI, 60, .inl (fun j => nI (kr j))))]) [0, 1, 2, 3, 4, 5, 6, 7, 8, 9, 10, 11, 12] (by decide) rfl
  have hFc := va_free (wc := [(b 16, .inr (1, [.ref (b 1), .ref (b 14), .ref (b 17), .int (nI nv), .ref kn])), (b 17, .inl (cI, 4, .inl PL)), (kn, .inl (cI, kl, .inl KN)), (b 14, .inr (3, [.ref (b 1), .ref (b 8), .ref (b 15)])), (b 8, .inl (cI, 4, .inl Wt)), (b 15, .inl (cI, 4, .inl (fun j => oi (lnO o (laF F T P Wt o n nv r) j)))), (b 1, .inr (6, [.int (nI n), .ref (b 2), .ref (b 3), .ref (b 4), .ref (b 5), .ref (b 6), .ref (b 7)])), (b 2, .inl (cI, 60, .inl F)), (b 3, .inl (cI, 60, .inl T)), (b 4, .inl (cI, 60, .inl P)), (b 5, .inl (cI, 60, .inl V)), (b 6, .inl (cI, 60, .inl (fun j => nI (o j)))), (b 7, .inl (cI, 60, .inl (fun j => nI (kr j))))]) hD hS hA [0, 1, 2, 3, 4, 5, 6, 7, 8, 9, 10, 11, 12] rfl
  refine va_calli (va_runV (As := [.int (nI r), .int (nI (stt n (laF F T P Wt o n nv r) nv))]) (rest := []) ⟨hx, hb, hml, hown, hts⟩ (c_X1_onward l dC dI cI b n F T P V o kr hn ho Wt PL kn kl nv hv4 hPL hkl hkb hn4 hko hg (n - r) r rfl (by omega) s.heap.size (laF F T P Wt o n nv r) KN hok.1 hki) (cwV 2 hts gX1_firstBest_X1_onward rfl rfl rfl (by decide +kernel) ⟨show (4 * (n - r) + 4) + 1 ≤ 62 from by omega, show 8 + (8 + 11) + (60 * (n - r) + 60) ≤ 1000 from by omega⟩) ⟨gk_fbW, va_recv hK hPc (ci := 1) (q0 := 0) rfl rfl, fun U hU hW => ⟨rfl, by rw [hU], by rw [hU]; exact hPc, va_K.moved hW.alike hK, hDc.weaken (fun _ _ _ _ => trivial)⟩⟩ rfl rfl hl.1 rfl (lv_room (Nat.le_of_ble_eq_true rfl)) dX1_firstBest_3 ⟨Nat.zero_le _, Nat.zero_le _⟩) hS (fun q _ h => hFc q h) hFc (fun r_1 u t H1 locs ht hvm hw hB hz1 hk1 hS => ?_)
  obtain ⟨hP1, hK1, hD1⟩ := hB
  rw [ht] at hP1
  try dsimp only at hw
  obtain ⟨hP, hD⟩ := va_join (wr := []) (w1 := [(b 16, .inr (1, [.ref (b 1), .ref (b 14), .ref (b 17), .int (nI nv), .ref kn])), (b 17, .inl (cI, 4, .inl PL)), (kn, .inl (cI, kl, .inl u)), (b 14, .inr (3, [.ref (b 1), .ref (b 8), .ref (b 15)])), (b 8, .inl (cI, 4, .inl Wt)), (b 15, .inl (cI, 4, .inl (fun j => oi (lnO o (laF F T P Wt o n nv r) j)))), (b 1, .inr (6, [.int (nI n), .ref (b 2), .ref (b 3), .ref (b 4), .ref (b 5), .ref (b 6), .ref (b 7)])), (b 2, .inl (cI, 60, .inl F)), (b 3, .inl (cI, 60, .inl T)), (b 4, .inl (cI, 60, .inl P)), (b 5, .inl (cI, 60, .inl V)), (b 6, .inl (cI, 60, .inl (fun j => nI (o j)))), (b 7, .inl (cI, 60, .inl (fun j => nI (kr j))))]) hP hD [0, 1, 2, 3, 4, 5, 6, 7, 8, 9, 10, 11, 12] [] rfl rfl (by decide) (by decide) hk1 hFc hP1 hD1
  generalize H1 = H at hP hS ⊢
  have hP : va_P (dC, dI) vwCl [(b 16, .inr (1, [.ref (b 1), .ref (b 14), .ref (b 17), .int (nI nv), .ref kn])), (b 17, .inl (cI, 4, .inl PL)), (kn, .inl (cI, kl, .inl u)), (b 14, .inr (3, [.ref (b 1), .ref (b 8), .ref (b 15)])), (b 8, .inl (cI, 4, .inl Wt)), (b 15, .inl (cI, 4, .inl (fun j => oi (lnO o (laF F T P Wt o n nv r) j)))), (b 1, .inr (6, [.int (nI n), .ref (b 2), .ref (b 3), .ref (b 4), .ref (b 5), .ref (b 6), .ref (b 7)])), (b 2, .inl (cI, 60, .inl F)), (b 3, .inl (cI, 60, .inl T)), (b 4, .inl (cI, 60, .inl P)), (b 5, .inl (cI, 60, .inl V)), (b 6, .inl (cI, 60, .inl (fun j => nI (o j)))), (b 7, .inl (cI, 60, .inl (fun j => nI (kr j))))] H := hP
  have hD : va_D A [(b 16, .inr (1, [.ref (b 1), .ref (b 14), .ref (b 17), .int (nI nv), .ref kn])), (b 17, .inl (cI, 4, .inl PL)), (kn, .inl (cI, kl, .inl u)), (b 14, .inr (3, [.ref (b 1), .ref (b 8), .ref (b 15)])), (b 8, .inl (cI, 4, .inl Wt)), (b 15, .inl (cI, 4, .inl (fun j => oi (lnO o (laF F T P Wt o n nv r) j)))), (b 1, .inr (6, [.int (nI n), .ref (b 2), .ref (b 3), .ref (b 4), .ref (b 5), .ref (b 6), .ref (b 7)])), (b 2, .inl (cI, 60, .inl F)), (b 3, .inl (cI, 60, .inl T)), (b 4, .inl (cI, 60, .inl P)), (b 5, .inl (cI, 60, .inl V)), (b 6, .inl (cI, 60, .inl (fun j => nI (o j)))), (b 7, .inl (cI, 60, .inl (fun j => nI (kr j))))] := hD
  obtain ⟨w1, w2⟩ := hw
  subst w1
  refine lv_istore_n (lv' := [(3, .int (encC (dp F T P Wt o nv (n - r) r (laF F T P Wt o n nv r)))), (0, .ref (b 16)), (1, .int (nI r)), (2, .int (nI (stt n (laF F T P Wt o n nv r) nv)))]) hx hb dX1_firstBest_6 rfl hl (by decide) rfl (fun ls hl => ?_)
  refine lv_iconst (v := 0) hx hb dX1_firstBest_7 (by decide) ?_
  refine lv_istore (lv' := [(4, .int 0), (3, .int (encC (dp F T P Wt o nv (n - r) r (laF F T P Wt o n nv r)))), (0, .ref (b 16)), (1, .int (nI r)), (2, .int (nI (stt n (laF F T P Wt o n nv r) nv)))]) hx hb dX1_firstBest_8 hl (by decide) rfl (fun ls hl => ?_)
  have L10 : ∀ (fu : Nat) (k : Nat) (x4 : Int32) (KN1 : Nat → Int32) (H : Heap) (locs : List Loc) (ls : Array Slot), x4 = nI k → k ≤ nv → (∀ v, v < k → ¬ encC (thr (dp F T P Wt o nv (n - (r + 1)) (r + 1)) (prc F T P Wt o (laF F T P Wt o n nv r) r) (laF F T P Wt o n nv r) r v) = encC (dp F T P Wt o nv (n - r) r (laF F T P Wt o n nv r))) → kiP F T P Wt o n nv KN1 → nv - k < fu → va_P (dC, dI) vwCl [(b 16, .inr (1, [.ref (b 1), .ref (b 14), .ref (b 17), .int (nI nv), .ref kn])), (b 17, .inl (cI, 4, .inl PL)), (kn, .inl (cI, kl, .inl KN1)), (b 14, .inr (3, [.ref (b 1), .ref (b 8), .ref (b 15)])), (b 8, .inl (cI, 4, .inl Wt)), (b 15, .inl (cI, 4, .inl (fun j => oi (lnO o (laF F T P Wt o n nv r) j)))), (b 1, .inr (6, [.int (nI n), .ref (b 2), .ref (b 3), .ref (b 4), .ref (b 5), .ref (b 6), .ref (b 7)])), (b 2, .inl (cI, 60, .inl F)), (b 3, .inl (cI, 60, .inl T)), (b 4, .inl (cI, 60, .inl P)), (b 5, .inl (cI, 60, .inl V)), (b 6, .inl (cI, 60, .inl (fun j => nI (o j)))), (b 7, .inl (cI, 60, .inl (fun j => nI (kr j))))] H → va_D A [(b 16, .inr (1, [.ref (b 1), .ref (b 14), .ref (b 17), .int (nI nv), .ref kn])), (b 17, .inl (cI, 4, .inl PL)), (kn, .inl (cI, kl, .inl KN1)), (b 14, .inr (3, [.ref (b 1), .ref (b 8), .ref (b 15)])), (b 8, .inl (cI, 4, .inl Wt)), (b 15, .inl (cI, 4, .inl (fun j => oi (lnO o (laF F T P Wt o n nv r) j)))), (b 1, .inr (6, [.int (nI n), .ref (b 2), .ref (b 3), .ref (b 4), .ref (b 5), .ref (b 6), .ref (b 7)])), (b 2, .inl (cI, 60, .inl F)), (b 3, .inl (cI, 60, .inl T)), (b 4, .inl (cI, 60, .inl P)), (b 5, .inl (cI, 60, .inl V)), (b 6, .inl (cI, 60, .inl (fun j => nI (o j)))), (b 7, .inl (cI, 60, .inl (fun j => nI (kr j))))] → va_S A s.heap H locs → lv_has ls 7 [(0, .ref (b 16)), (1, .int (nI r)), (2, .int (nI (stt n (laF F T P Wt o n nv r) nv))), (3, .int (encC (dp F T P Wt o nv (n - r) r (laF F T P Wt o n nv r)))), (4, .int x4)] → W p l e (headSpec wsX1_firstBest ({ frames := 62, cells := 0, slots := 0, locals := 1000 } : Room)).room s m [.ref (b 16), .int (nI r), .int (nI (stt n (laF F T P Wt o n nv r) nv))].toArray below meth c H locs 0 0 (MQ below (va_Qi (fun (rr : Int32) (u : Nat → Int32) => rr = nI (chF F T P Wt o n nv r) ∧ kiP F T P Wt o n nv u) (fun u t => va_P (dC, dI) vwCl [(b 16, .inr (1, [.ref (b 1), .ref (b 14), .ref (b 17), .int (nI nv), .ref kn])), (b 17, .inl (cI, 4, .inl PL)), (kn, .inl (cI, kl, .inl u)), (b 14, .inr (3, [.ref (b 1), .ref (b 8), .ref (b 15)])), (b 8, .inl (cI, 4, .inl Wt)), (b 15, .inl (cI, 4, .inl (fun j => oi (lnO o (laF F T P Wt o n nv r) j)))), (b 1, .inr (6, [.int (nI n), .ref (b 2), .ref (b 3), .ref (b 4), .ref (b 5), .ref (b 6), .ref (b 7)])), (b 2, .inl (cI, 60, .inl F)), (b 3, .inl (cI, 60, .inl T)), (b 4, .inl (cI, 60, .inl P)), (b 5, .inl (cI, 60, .inl V)), (b 6, .inl (cI, 60, .inl (fun j => nI (o j)))), (b 7, .inl (cI, 60, .inl (fun j => nI (kr j))))] t.heap ∧ va_K (dC, dI) vwCl [(cI, .int)] t ∧ va_D A [(b 16, .inr (1, [.ref (b 1), .ref (b 14), .ref (b 17), .int (nI nv), .ref kn])), (b 17, .inl (cI, 4, .inl PL)), (kn, .inl (cI, kl, .inl u)), (b 14, .inr (3, [.ref (b 1), .ref (b 8), .ref (b 15)])), (b 8, .inl (cI, 4, .inl Wt)), (b 15, .inl (cI, 4, .inl (fun j => oi (lnO o (laF F T P Wt o n nv r) j)))), (b 1, .inr (6, [.int (nI n), .ref (b 2), .ref (b 3), .ref (b 4), .ref (b 5), .ref (b 6), .ref (b 7)])), (b 2, .inl (cI, 60, .inl F)), (b 3, .inl (cI, 60, .inl T)), (b 4, .inl (cI, 60, .inl P)), (b 5, .inl (cI, 60, .inl V)), (b 6, .inl (cI, 60, .inl (fun j => nI (o j)))), (b 7, .inl (cI, 60, .inl (fun j => nI (kr j))))]) A) [.ref (b 16), .int (nI r), .int (nI (stt n (laF F T P Wt o n nv r) nv))].toArray s 0 0 A) (F0 m 10 ls []) := by
    intro fu
    induction fu with
    | zero =>
      intro k x4 KN1 H locs ls e4 hk0 hfb hk1 hfu10 hP hD hS hl
      exact absurd hfu10 (Nat.not_lt_zero _)
    | succ fu ih10 =>
      intro k x4 KN1 H locs ls e4 hk0 hfb hk1 hfu10 hP hD hS hl
      subst e4
      refine lv_iload hx hb dX1_firstBest_10 (lv_at hl 4 rfl) ?_
      refine lv_aload_n hx hb dX1_firstBest_12 rfl (lv_at hl 0 rfl) ?_
      refine va_get (D := (dC, dI)) (ci := 1) (v := .int (nI nv)) (C := RX1) (T := TX1) (N := 5) hx hb hts i_X1 hown hK hP 0 rfl rfl 3 (by decide) k_0 (fun _ h9 => h9) rfl dX1_firstBest_13 ?_
      refine lv_icmp_ge (tgt := 85) hx hb dX1_firstBest_16 (by decide) (fun c_2 => ?_) (fun c_2 => ?_)
      · skip
        have c_2 : k ≥ nv := gk_geT (a := k) (b := nv) (by first | omega | exact Nat.lt_trans (ho _) (by decide) | exact Nat.lt_of_le_of_lt atN_le (by omega) | exact Nat.lt_of_le_of_lt szN_le (by omega) | exact Nat.lt_of_le_of_lt clM_le (by omega) | exact Nat.lt_of_le_of_lt rkN_le (by omega) | exact Nat.lt_of_le_of_lt (cnt_le _ _) (by omega)) (by first | omega | exact Nat.lt_trans (ho _) (by decide) | exact Nat.lt_of_le_of_lt atN_le (by omega) | exact Nat.lt_of_le_of_lt szN_le (by omega) | exact Nat.lt_of_le_of_lt clM_le (by omega) | exact Nat.lt_of_le_of_lt rkN_le (by omega) | exact Nat.lt_of_le_of_lt (cnt_le _ _) (by omega)) c_2
        refine lv_iconst (v := 0) hx hb dX1_firstBest_85 (by decide) ?_
        exact W.iret (v := 0) hx hb hr (fun t ht hW => ⟨⟨_, KN1, rfl, (by exact absurd (congrArg encC hcf.2.1) (hfb _ (by have := hcf.1; omega))), by rw [ht]; exact hP, va_K.moved hW.alike hK, hD⟩, hS.F ht⟩) hS.2.2 dX1_firstBest_86
      · skip
        have c_2 : k < nv := gk_geF (a := k) (b := nv) (by first | omega | exact Nat.lt_trans (ho _) (by decide) | exact Nat.lt_of_le_of_lt atN_le (by omega) | exact Nat.lt_of_le_of_lt szN_le (by omega) | exact Nat.lt_of_le_of_lt clM_le (by omega) | exact Nat.lt_of_le_of_lt rkN_le (by omega) | exact Nat.lt_of_le_of_lt (cnt_le _ _) (by omega)) (by first | omega | exact Nat.lt_trans (ho _) (by decide) | exact Nat.lt_of_le_of_lt atN_le (by omega) | exact Nat.lt_of_le_of_lt szN_le (by omega) | exact Nat.lt_of_le_of_lt clM_le (by omega) | exact Nat.lt_of_le_of_lt rkN_le (by omega) | exact Nat.lt_of_le_of_lt (cnt_le _ _) (by omega)) c_2
        refine lv_aload_n hx hb dX1_firstBest_19 rfl (lv_at hl 0 rfl) ?_
        refine va_get (D := (dC, dI)) (ci := 1) (v := .ref (b 14)) (C := RX1) (T := TX1) (N := 5) hx hb hts i_X1 hown hK hP 0 rfl rfl 1 (by decide) k_1 (fun _ h9 => h9) rfl dX1_firstBest_20 ?_
        refine lv_aload_n hx hb dX1_firstBest_23 rfl (lv_at hl 0 rfl) ?_
        refine va_get (D := (dC, dI)) (ci := 1) (v := .ref (b 1)) (C := RX1) (T := TX1) (N := 5) hx hb hts i_X1 hown hK hP 0 rfl rfl 0 (by decide) k_2 (fun _ h9 => h9) rfl dX1_firstBest_24 ?_
        refine va_get (D := (dC, dI)) (ci := 6) (v := .ref (b 6)) (C := RX6) (T := TX6) (N := 7) hx hb hts i_X6 hown hK hP 6 rfl rfl 5 (by decide) k_3 (fun _ h9 => h9) rfl dX1_firstBest_27 ?_
        refine lv_iload_n hx hb dX1_firstBest_30 rfl (lv_at hl 1 rfl) ?_
        refine gk_ld hx hb hK hP 11 0 rfl rfl r (by omega) (by omega) (v := nI (o r)) (rfl) dX1_firstBest_31 ?_
        refine lv_iload hx hb dX1_firstBest_32 (lv_at hl 4 rfl) ?_
        have hPc_3 := hP.sub (ws' := [(b 14, .inr (3, [.ref (b 1), .ref (b 8), .ref (b 15)])), (b 8, .inl (cI, 4, .inl Wt)), (b 15, .inl (cI, 4, .inl (fun j => oi (lnO o (laF F T P Wt o n nv r) j)))), (b 1, .inr (6, [.int (nI n), .ref (b 2), .ref (b 3), .ref (b 4), .ref (b 5), .ref (b 6), .ref (b 7)])), (b 2, .inl (cI, 60, .inl F)), (b 3, .inl (cI, 60, .inl T)), (b 4, .inl (cI, 60, .inl P)), (b 5, .inl (cI, 60, .inl V)), (b 6, .inl (cI, 60, .inl (fun j => nI (o j)))), (b 7, .inl (cI, 60, .inl (fun j => nI (kr j))))]) [3, 4, 5, 6, 7, 8, 9, 10, 11, 12] rfl
        refine vp_callSi (gk_run (va_runV (As := [.int (nI (o r)), .int (nI k)]) (rest := []) ⟨hx, hb, hml, hown, hts⟩ (c_X3_added l dC dI cI b n F T P V o kr hn ho Wt (lnO o (laF F T P Wt o n nv r)) (lnO_le ho) (o r) k (ho _) (by omega)) (cwV 2 hts gX1_firstBest_X3_added rfl rfl rfl (by decide +kernel) ⟨show (1) + 1 ≤ 62 from by omega, show 8 + (6 + 11) + (26) ≤ 1000 from by omega⟩) ⟨gk_fb, va_recv hK hPc_3 (ci := 3) (q0 := 0) rfl rfl, fun U hU hW => ⟨rfl, by rw [hU]; exact hPc_3, va_K.moved hW.alike hK⟩⟩ rfl rfl hl.1 rfl (lv_room (Nat.le_of_ble_eq_true rfl)) dX1_firstBest_34 ⟨Nat.zero_le _, Nat.zero_le _⟩)) (fun r_4 er_4 => ?_)
        subst er_4
        refine lv_istore (lv' := [(5, .int (adC F T P Wt (lnO o (laF F T P Wt o n nv r)) (o r) k)), (0, .ref (b 16)), (1, .int (nI r)), (2, .int (nI (stt n (laF F T P Wt o n nv r) nv))), (3, .int (encC (dp F T P Wt o nv (n - r) r (laF F T P Wt o n nv r)))), (4, .int (nI k))]) hx hb dX1_firstBest_37 hl (by decide) rfl (fun ls hl => ?_)
        refine lv_iload hx hb dX1_firstBest_39 (lv_at hl 0 rfl) ?_
        refine lv_iconst (v := (-1)) hx hb dX1_firstBest_41 (by decide) ?_
        refine lv_icmp_eq (tgt := 79) hx hb dX1_firstBest_42 (by decide) (fun c_5 => ?_) (fun c_5 => ?_)
        · skip
          have q42t := c_5
          refine lv_iinc (v := nI (k + 1)) (lv' := [(4, .int (nI (k + 1))), (5, .int (adC F T P Wt (lnO o (laF F T P Wt o n nv r)) (o r) k)), (0, .ref (b 16)), (1, .int (nI r)), (2, .int (nI (stt n (laF F T P Wt o n nv r) nv))), (3, .int (encC (dp F T P Wt o nv (n - r) r (laF F T P Wt o n nv r))))]) hx hb dX1_firstBest_79 hl (k := 5) rfl (gk_inc1 _) (by decide) rfl (fun ls hl => ?_)
          refine lv_goto (tgt := 10) hx hb dX1_firstBest_82 (by decide) ?_
          exact ih10 (k + 1) _ _ _ _ ls (by rfl) (by omega) (by exact fbQ_s hfb (fbQ_1 hn4 hg hr0 hok (show k < nv by omega) q42t)) (by exact hk1) (by omega) hP hD hS (lv_sub hl [2, 3, 4, 5, 0] rfl)
        · skip
          have q42 := c_5
          refine lv_iload hx hb dX1_firstBest_45 (lv_at hl 0 rfl) ?_
          refine lv_iload_n hx hb dX1_firstBest_47 rfl (lv_at hl 4 rfl) ?_
          refine lv_icmp_gt (tgt := 79) hx hb dX1_firstBest_48 (by decide) (fun c_6 => ?_) (fun c_6 => ?_)
          · skip
            have q48t := c_6
            refine lv_iinc (v := nI (k + 1)) (lv' := [(4, .int (nI (k + 1))), (5, .int (adC F T P Wt (lnO o (laF F T P Wt o n nv r)) (o r) k)), (0, .ref (b 16)), (1, .int (nI r)), (2, .int (nI (stt n (laF F T P Wt o n nv r) nv))), (3, .int (encC (dp F T P Wt o nv (n - r) r (laF F T P Wt o n nv r))))]) hx hb dX1_firstBest_79 hl (k := 5) rfl (gk_inc1 _) (by decide) rfl (fun ls hl => ?_)
            refine lv_goto (tgt := 10) hx hb dX1_firstBest_82 (by decide) ?_
            exact ih10 (k + 1) _ _ _ _ ls (by rfl) (by omega) (by exact fbQ_s hfb (fbQ_2 hn4 hg hr0 hok (show k < nv by omega) q42 q48t)) (by exact hk1) (by omega) hP hD hS (lv_sub hl [2, 3, 4, 5, 0] rfl)
          · skip
            have q48 := c_6
            refine lv_aload_n hx hb dX1_firstBest_51 rfl (lv_at hl 1 rfl) ?_
            refine lv_iload_n hx hb dX1_firstBest_52 rfl (lv_at hl 2 rfl) ?_
            refine lv_iload_n hx hb dX1_firstBest_53 rfl (lv_at hl 3 rfl) ?_
            refine lv_iload hx hb dX1_firstBest_54 (lv_at hl 5 rfl) ?_
            have hPc := hP.sub (ws' := [(b 16, .inr (1, [.ref (b 1), .ref (b 14), .ref (b 17), .int (nI nv), .ref kn])), (b 17, .inl (cI, 4, .inl PL)), (kn, .inl (cI, kl, .inl KN1)), (b 14, .inr (3, [.ref (b 1), .ref (b 8), .ref (b 15)])), (b 8, .inl (cI, 4, .inl Wt)), (b 15, .inl (cI, 4, .inl (fun j => oi (lnO o (laF F T P Wt o n nv r) j)))), (b 1, .inr (6, [.int (nI n), .ref (b 2), .ref (b 3), .ref (b 4), .ref (b 5), .ref (b 6), .ref (b 7)])), (b 2, .inl (cI, 60, .inl F)), (b 3, .inl (cI, 60, .inl T)), (b 4, .inl (cI, 60, .inl P)), (b 5, .inl (cI, 60, .inl V)), (b 6, .inl (cI, 60, .inl (fun j => nI (o j)))), (b 7, .inl (cI, 60, .inl (fun j => nI (kr j))))]) [0, 1, 2, 3, 4, 5, 6, 7, 8, 9, 10, 11, 12] rfl
            have hDc := hD.sub (ws' := [(b 16, .inr (1, [.ref (b 1), .ref (b 14), .ref (b 17), .int (nI nv), .ref kn])), (b 17, .inl (cI, 4, .inl PL)), (kn, .inl (cI, kl, .inl KN1)), (b 14, .inr (3, [.ref (b 1), .ref (b 8), .ref (b 15)])), (b 8, .inl (cI, 4, .inl Wt)), (b 15, .inl (cI, 4, .inl (fun j => oi (lnO o (laF F T P Wt o n nv r) j)))), (b 1, .inr (6, [.int (nI n), .ref (b 2), .ref (b 3), .ref (b 4), .ref (b 5), .ref (b 6), .ref (b 7)])), (b 2, .inl (cI, 60, .inl F)), (b 3, .inl (cI, 60, .inl T)), (b 4, .inl (cI, 60, .inl P)), (b 5, .inl (cI, 60, .inl V)), (b 6, .inl (cI, 60, .inl (fun j => nI (o j)))), (b 7, .inl (cI, 60, .inl (fun j => nI (kr j))))]) [0, 1, 2, 3, 4, 5, 6, 7, 8, 9, 10, 11, 12] (by decide) rfl
            have hFc := va_free (wc := [(b 16, .inr (1, [.ref (b 1), .ref (b 14), .ref (b 17), .int (nI nv), .ref kn])), (b 17, .inl (cI, 4, .inl PL)), (kn, .inl (cI, kl, .inl KN1)), (b 14, .inr (3, [.ref (b 1), .ref (b 8), .ref (b 15)])), (b 8, .inl (cI, 4, .inl Wt)), (b 15, .inl (cI, 4, .inl (fun j => oi (lnO o (laF F T P Wt o n nv r) j)))), (b 1, .inr (6, [.int (nI n), .ref (b 2), .ref (b 3), .ref (b 4), .ref (b 5), .ref (b 6), .ref (b 7)])), (b 2, .inl (cI, 60, .inl F)), (b 3, .inl (cI, 60, .inl T)), (b 4, .inl (cI, 60, .inl P)), (b 5, .inl (cI, 60, .inl V)), (b 6, .inl (cI, 60, .inl (fun j => nI (o j)))), (b 7, .inl (cI, 60, .inl (fun j => nI (kr j))))]) hD hS hA [0, 1, 2, 3, 4, 5, 6, 7, 8, 9, 10, 11, 12] rfl
            refine va_calli (va_runV (As := [.int (nI r), .int (nI (stt n (laF F T P Wt o n nv r) nv)), .int (nI k)]) (rest := []) ⟨hx, hb, hml, hown, hts⟩ (c_X1_behind l dC dI cI H.size b n F T P V o kr hn ho Wt (laF F T P Wt o n nv r) PL kn kl KN1 nv hv4 hPL hkl hkb hn4 hko hg r k hr0 (by omega) hok.1 hk1) (cwV 3 hts gX1_firstBest_X1_behind rfl rfl rfl (by decide +kernel) ⟨show (4 * (n - r) + 2) + 1 ≤ 62 from by omega, show 8 + (7 + 11) + (60 * (n - r) + 30) ≤ 1000 from by omega⟩) ⟨gk_fbW, va_recv hK hPc (ci := 1) (q0 := 0) rfl rfl, fun U hU hW => ⟨rfl, by rw [hU], by rw [hU]; exact hPc, va_K.moved hW.alike hK, hDc.weaken (fun _ _ _ _ => trivial)⟩⟩ rfl rfl hl.1 rfl (lv_room (Nat.le_of_ble_eq_true rfl)) dX1_firstBest_56 ⟨Nat.zero_le _, Nat.zero_le _⟩) hS (fun q _ h => hFc q h) hFc (fun r_7 u t H1 locs ht hvm hw hB hz1 hk1 hS => ?_)
            obtain ⟨K2, rfl⟩ : ∃ z, z = u := ⟨_, rfl⟩
            obtain ⟨hP1, hK1, hD1⟩ := hB
            rw [ht] at hP1
            try dsimp only at hw
            obtain ⟨hP, hD⟩ := va_join (wr := []) (w1 := [(b 16, .inr (1, [.ref (b 1), .ref (b 14), .ref (b 17), .int (nI nv), .ref kn])), (b 17, .inl (cI, 4, .inl PL)), (kn, .inl (cI, kl, .inl K2)), (b 14, .inr (3, [.ref (b 1), .ref (b 8), .ref (b 15)])), (b 8, .inl (cI, 4, .inl Wt)), (b 15, .inl (cI, 4, .inl (fun j => oi (lnO o (laF F T P Wt o n nv r) j)))), (b 1, .inr (6, [.int (nI n), .ref (b 2), .ref (b 3), .ref (b 4), .ref (b 5), .ref (b 6), .ref (b 7)])), (b 2, .inl (cI, 60, .inl F)), (b 3, .inl (cI, 60, .inl T)), (b 4, .inl (cI, 60, .inl P)), (b 5, .inl (cI, 60, .inl V)), (b 6, .inl (cI, 60, .inl (fun j => nI (o j)))), (b 7, .inl (cI, 60, .inl (fun j => nI (kr j))))]) hP hD [0, 1, 2, 3, 4, 5, 6, 7, 8, 9, 10, 11, 12] [] rfl rfl (by decide) (by decide) hk1 hFc hP1 hD1
            generalize H1 = H at hP hS ⊢
            have hP : va_P (dC, dI) vwCl [(b 16, .inr (1, [.ref (b 1), .ref (b 14), .ref (b 17), .int (nI nv), .ref kn])), (b 17, .inl (cI, 4, .inl PL)), (kn, .inl (cI, kl, .inl K2)), (b 14, .inr (3, [.ref (b 1), .ref (b 8), .ref (b 15)])), (b 8, .inl (cI, 4, .inl Wt)), (b 15, .inl (cI, 4, .inl (fun j => oi (lnO o (laF F T P Wt o n nv r) j)))), (b 1, .inr (6, [.int (nI n), .ref (b 2), .ref (b 3), .ref (b 4), .ref (b 5), .ref (b 6), .ref (b 7)])), (b 2, .inl (cI, 60, .inl F)), (b 3, .inl (cI, 60, .inl T)), (b 4, .inl (cI, 60, .inl P)), (b 5, .inl (cI, 60, .inl V)), (b 6, .inl (cI, 60, .inl (fun j => nI (o j)))), (b 7, .inl (cI, 60, .inl (fun j => nI (kr j))))] H := hP
            have hD : va_D A [(b 16, .inr (1, [.ref (b 1), .ref (b 14), .ref (b 17), .int (nI nv), .ref kn])), (b 17, .inl (cI, 4, .inl PL)), (kn, .inl (cI, kl, .inl K2)), (b 14, .inr (3, [.ref (b 1), .ref (b 8), .ref (b 15)])), (b 8, .inl (cI, 4, .inl Wt)), (b 15, .inl (cI, 4, .inl (fun j => oi (lnO o (laF F T P Wt o n nv r) j)))), (b 1, .inr (6, [.int (nI n), .ref (b 2), .ref (b 3), .ref (b 4), .ref (b 5), .ref (b 6), .ref (b 7)])), (b 2, .inl (cI, 60, .inl F)), (b 3, .inl (cI, 60, .inl T)), (b 4, .inl (cI, 60, .inl P)), (b 5, .inl (cI, 60, .inl V)), (b 6, .inl (cI, 60, .inl (fun j => nI (o j)))), (b 7, .inl (cI, 60, .inl (fun j => nI (kr j))))] := hD
            obtain ⟨w3, w4⟩ := hw
            subst w3
            refine lv_istore (lv' := [(6, .int (encC (dp F T P Wt o nv (n - (r + 1)) (r + 1) (updN (laF F T P Wt o n nv r) k (r + 1))))), (5, .int (adC F T P Wt (lnO o (laF F T P Wt o n nv r)) (o r) k)), (0, .ref (b 16)), (1, .int (nI r)), (2, .int (nI (stt n (laF F T P Wt o n nv r) nv))), (3, .int (encC (dp F T P Wt o nv (n - r) r (laF F T P Wt o n nv r)))), (4, .int (nI k))]) hx hb dX1_firstBest_59 hl (by decide) rfl (fun ls hl => ?_)
            refine lv_iload hx hb dX1_firstBest_61 (lv_at hl 0 rfl) ?_
            refine lv_iconst (v := (-1)) hx hb dX1_firstBest_63 (by decide) ?_
            refine lv_icmp_eq (tgt := 79) hx hb dX1_firstBest_64 (by decide) (fun c_8 => ?_) (fun c_8 => ?_)
            · skip
              have q64t := c_8
              refine lv_iinc (v := nI (k + 1)) (lv' := [(4, .int (nI (k + 1))), (6, .int (encC (dp F T P Wt o nv (n - (r + 1)) (r + 1) (updN (laF F T P Wt o n nv r) k (r + 1))))), (5, .int (adC F T P Wt (lnO o (laF F T P Wt o n nv r)) (o r) k)), (0, .ref (b 16)), (1, .int (nI r)), (2, .int (nI (stt n (laF F T P Wt o n nv r) nv))), (3, .int (encC (dp F T P Wt o nv (n - r) r (laF F T P Wt o n nv r))))]) hx hb dX1_firstBest_79 hl (k := 6) rfl (gk_inc1 _) (by decide) rfl (fun ls hl => ?_)
              refine lv_goto (tgt := 10) hx hb dX1_firstBest_82 (by decide) ?_
              exact ih10 (k + 1) _ _ _ _ ls (by rfl) (by omega) (by exact fbQ_s hfb (fbQ_3 hn4 hg hr0 hok (show k < nv by omega) q42 q64t)) (by exact w4) (by omega) hP hD hS (lv_sub hl [3, 4, 5, 6, 0] rfl)
            · skip
              have q64 := c_8
              refine lv_iload hx hb dX1_firstBest_67 (lv_at hl 1 rfl) ?_
              refine lv_iload hx hb dX1_firstBest_69 (lv_at hl 0 rfl) ?_
              refine lv_iadd hx hb dX1_firstBest_71 ?_
              refine lv_iload_n hx hb dX1_firstBest_72 rfl (lv_at hl 5 rfl) ?_
              refine lv_icmp_ne (tgt := 79) hx hb dX1_firstBest_73 (by decide) (fun c_9 => ?_) (fun c_9 => ?_)
              · skip
                have q73t := c_9
                refine lv_iinc (v := nI (k + 1)) (lv' := [(4, .int (nI (k + 1))), (6, .int (encC (dp F T P Wt o nv (n - (r + 1)) (r + 1) (updN (laF F T P Wt o n nv r) k (r + 1))))), (5, .int (adC F T P Wt (lnO o (laF F T P Wt o n nv r)) (o r) k)), (0, .ref (b 16)), (1, .int (nI r)), (2, .int (nI (stt n (laF F T P Wt o n nv r) nv))), (3, .int (encC (dp F T P Wt o nv (n - r) r (laF F T P Wt o n nv r))))]) hx hb dX1_firstBest_79 hl (k := 6) rfl (gk_inc1 _) (by decide) rfl (fun ls hl => ?_)
                refine lv_goto (tgt := 10) hx hb dX1_firstBest_82 (by decide) ?_
                exact ih10 (k + 1) _ _ _ _ ls (by rfl) (by omega) (by exact fbQ_s hfb (fbQ_4 hn4 hg hr0 hok (show k < nv by omega) q42 q64 q73t)) (by exact w4) (by omega) hP hD hS (lv_sub hl [3, 4, 5, 6, 0] rfl)
              · skip
                have q73 := c_9
                refine lv_iload hx hb dX1_firstBest_76 (lv_at hl 6 rfl) ?_
                exact W.iret (v := nI k) hx hb hr (fun t ht hW => ⟨⟨_, K2, rfl, (by exact ⟨congrArg nI (fbQ_y hn4 hg hr0 hok (show k < nv by omega) hfb q42 q64 q73), w4⟩), by rw [ht]; exact hP, va_K.moved hW.alike hK, hD⟩, hS.F ht⟩) hS.2.2 dX1_firstBest_78
  exact L10 ((nv) + 1) 0 _ _ _ _ ls (by rfl) (by omega) (by exact fun v hv => absurd hv (Nat.not_lt_zero v)) (by exact w2) (by omega) hP hD hS (lv_sub hl [2, 3, 4, 1, 0] rfl)

set_option maxHeartbeats 1000000 in
set_option maxRecDepth 100000 in
theorem c_X1_giveFound (l : Launch) (dC : Nat → ClassId) (dI : Nat → Nat → Nat) (cI : ClassId) (sz : Nat) (b : Nat → Nat) (n : Nat) (F T P V : Nat → Int32) (o kr : Nat → Nat) (hn : n ≤ 60) (ho : ∀ j, o j < 60) (Wt : Nat → Int32) (PL : Nat → Int32) (kn kl : Nat) (nv : Nat) (hv4 : nv ≤ 4) (hPL : ∀ v, v < nv → PL v = nI (n ^ v)) (hkl : n ^ nv ≤ kl) (hkb : kl ≤ 38416) (hn4 : n ≤ 14) (hko : ∀ j, j < n → kr (o j) = j) (hg : gB F T P Wt o n nv) (KN : Nat → Int32) (LA : Nat → Int32) (hp : prm n o) (hok0 : okF F T P Wt o n nv 0) (hki : kiP F T P Wt o n nv KN) : Met l yX1_giveFound wsX1_giveFound ({ frames := 64, cells := 0, slots := 0, locals := 1100 } : Room) (va_Pc [.ref (b 16)] (fun U => U.heap.size = sz ∧ va_P (dC, dI) vwCl [(b 16, .inr (1, [.ref (b 1), .ref (b 14), .ref (b 17), .int (nI nv), .ref kn])), (b 17, .inl (cI, 4, .inl PL)), (kn, .inl (cI, kl, .inl KN)), (b 14, .inr (3, [.ref (b 1), .ref (b 8), .ref (b 15)])), (b 8, .inl (cI, 4, .inl Wt)), (b 15, .inl (cI, 4, .inl LA)), (b 1, .inr (6, [.int (nI n), .ref (b 2), .ref (b 3), .ref (b 4), .ref (b 5), .ref (b 6), .ref (b 7)])), (b 2, .inl (cI, 60, .inl F)), (b 3, .inl (cI, 60, .inl T)), (b 4, .inl (cI, 60, .inl P)), (b 5, .inl (cI, 60, .inl V)), (b 6, .inl (cI, 60, .inl (fun j => nI (o j)))), (b 7, .inl (cI, 60, .inl (fun j => nI (kr j))))] U.heap ∧ va_K (dC, dI) vwCl [(cI, .int)] U ∧ va_D (fun _ => True) [(b 16, .inr (1, [.ref (b 1), .ref (b 14), .ref (b 17), .int (nI nv), .ref kn])), (b 17, .inl (cI, 4, .inl PL)), (kn, .inl (cI, kl, .inl KN)), (b 14, .inr (3, [.ref (b 1), .ref (b 8), .ref (b 15)])), (b 8, .inl (cI, 4, .inl Wt)), (b 15, .inl (cI, 4, .inl LA)), (b 1, .inr (6, [.int (nI n), .ref (b 2), .ref (b 3), .ref (b 4), .ref (b 5), .ref (b 6), .ref (b 7)])), (b 2, .inl (cI, 60, .inl F)), (b 3, .inl (cI, 60, .inl T)), (b 4, .inl (cI, 60, .inl P)), (b 5, .inl (cI, 60, .inl V)), (b 6, .inl (cI, 60, .inl (fun j => nI (o j)))), (b 7, .inl (cI, 60, .inl (fun j => nI (kr j))))])) (va_Qv (fun u : (Nat → Int32) × (Nat → Int32) × (Nat → Int32) => (∀ j, j < n → u.2.2 (o j) = nI (chF F T P Wt o n nv j)) ∧ (∀ j, n ≤ j → u.2.2 j = V j)) (fun u t => va_P (dC, dI) vwCl [(b 16, .inr (1, [.ref (b 1), .ref (b 14), .ref (b 17), .int (nI nv), .ref kn])), (b 17, .inl (cI, 4, .inl PL)), (kn, .inl (cI, kl, .inl u.2.1)), (b 14, .inr (3, [.ref (b 1), .ref (b 8), .ref (b 15)])), (b 8, .inl (cI, 4, .inl Wt)), (b 15, .inl (cI, 4, .inl u.1)), (b 1, .inr (6, [.int (nI n), .ref (b 2), .ref (b 3), .ref (b 4), .ref (b 5), .ref (b 6), .ref (b 7)])), (b 2, .inl (cI, 60, .inl F)), (b 3, .inl (cI, 60, .inl T)), (b 4, .inl (cI, 60, .inl P)), (b 5, .inl (cI, 60, .inl u.2.2)), (b 6, .inl (cI, 60, .inl (fun j => nI (o j)))), (b 7, .inl (cI, 60, .inl (fun j => nI (kr j))))] t.heap ∧ va_K (dC, dI) vwCl [(cI, .int)] t ∧ va_D (va_A [(b 16, .inr (1, [.ref (b 1), .ref (b 14), .ref (b 17), .int (nI nv), .ref kn])), (b 17, .inl (cI, 4, .inl PL)), (kn, .inl (cI, kl, .inl KN)), (b 14, .inr (3, [.ref (b 1), .ref (b 8), .ref (b 15)])), (b 8, .inl (cI, 4, .inl Wt)), (b 15, .inl (cI, 4, .inl LA)), (b 1, .inr (6, [.int (nI n), .ref (b 2), .ref (b 3), .ref (b 4), .ref (b 5), .ref (b 6), .ref (b 7)])), (b 2, .inl (cI, 60, .inl F)), (b 3, .inl (cI, 60, .inl T)), (b 4, .inl (cI, 60, .inl P)), (b 5, .inl (cI, 60, .inl V)), (b 6, .inl (cI, 60, .inl (fun j => nI (o j)))), (b 7, .inl (cI, 60, .inl (fun j => nI (kr j))))] sz) [(b 16, .inr (1, [.ref (b 1), .ref (b 14), .ref (b 17), .int (nI nv), .ref kn])), (b 17, .inl (cI, 4, .inl PL)), (kn, .inl (cI, kl, .inl u.2.1)), (b 14, .inr (3, [.ref (b 1), .ref (b 8), .ref (b 15)])), (b 8, .inl (cI, 4, .inl Wt)), (b 15, .inl (cI, 4, .inl u.1)), (b 1, .inr (6, [.int (nI n), .ref (b 2), .ref (b 3), .ref (b 4), .ref (b 5), .ref (b 6), .ref (b 7)])), (b 2, .inl (cI, 60, .inl F)), (b 3, .inl (cI, 60, .inl T)), (b 4, .inl (cI, 60, .inl P)), (b 5, .inl (cI, 60, .inl u.2.2)), (b 6, .inl (cI, 60, .inl (fun j => nI (o j)))), (b 7, .inl (cI, 60, .inl (fun j => nI (kr j))))]) (va_A [(b 16, .inr (1, [.ref (b 1), .ref (b 14), .ref (b 17), .int (nI nv), .ref kn])), (b 17, .inl (cI, 4, .inl PL)), (kn, .inl (cI, kl, .inl KN)), (b 14, .inr (3, [.ref (b 1), .ref (b 8), .ref (b 15)])), (b 8, .inl (cI, 4, .inl Wt)), (b 15, .inl (cI, 4, .inl LA)), (b 1, .inr (6, [.int (nI n), .ref (b 2), .ref (b 3), .ref (b 4), .ref (b 5), .ref (b 6), .ref (b 7)])), (b 2, .inl (cI, 60, .inl F)), (b 3, .inl (cI, 60, .inl T)), (b 4, .inl (cI, 60, .inl P)), (b 5, .inl (cI, 60, .inl V)), (b 6, .inl (cI, 60, .inl (fun j => nI (o j)))), (b 7, .inl (cI, 60, .inl (fun j => nI (kr j))))] sz)) 0 0 (va_A [(b 16, .inr (1, [.ref (b 1), .ref (b 14), .ref (b 17), .int (nI nv), .ref kn])), (b 17, .inl (cI, 4, .inl PL)), (kn, .inl (cI, kl, .inl KN)), (b 14, .inr (3, [.ref (b 1), .ref (b 8), .ref (b 15)])), (b 8, .inl (cI, 4, .inl Wt)), (b 15, .inl (cI, 4, .inl LA)), (b 1, .inr (6, [.int (nI n), .ref (b 2), .ref (b 3), .ref (b 4), .ref (b 5), .ref (b 6), .ref (b 7)])), (b 2, .inl (cI, 60, .inl F)), (b 3, .inl (cI, 60, .inl T)), (b 4, .inl (cI, 60, .inl P)), (b 5, .inl (cI, 60, .inl V)), (b 6, .inl (cI, 60, .inl (fun j => nI (o j)))), (b 7, .inl (cI, 60, .inl (fun j => nI (kr j))))] sz) := by
  refine Met.ofW (cc := cX1_giveFound) (maxL := 5) (ret := none) (by decide) rfl ?_
  intro p e s m args below meth c s₁ B hml hv
  obtain ⟨rfl, hsz, hP, hK, hD0⟩ := hv
  have hx := B.exec
  have hb := B.bytes
  have hr := B.returns
  have hts := atoms_spec (ws := wsX1_giveFound) B.pre
  have hown : s.vm.findClass RX1 = some m.cls := findClass_of_methodNamed B.named
  have hlocks := B.notSynchronized
  subst hsz
  have hD := hD0.self (sz := s.heap.size)
  generalize hAe : va_A [(b 16, .inr (1, [.ref (b 1), .ref (b 14), .ref (b 17), .int (nI nv), .ref kn])), (b 17, .inl (cI, 4, .inl PL)), (kn, .inl (cI, kl, .inl KN)), (b 14, .inr (3, [.ref (b 1), .ref (b 8), .ref (b 15)])), (b 8, .inl (cI, 4, .inl Wt)), (b 15, .inl (cI, 4, .inl LA)), (b 1, .inr (6, [.int (nI n), .ref (b 2), .ref (b 3), .ref (b 4), .ref (b 5), .ref (b 6), .ref (b 7)])), (b 2, .inl (cI, 60, .inl F)), (b 3, .inl (cI, 60, .inl T)), (b 4, .inl (cI, 60, .inl P)), (b 5, .inl (cI, 60, .inl V)), (b 6, .inl (cI, 60, .inl (fun j => nI (o j)))), (b 7, .inl (cI, 60, .inl (fun j => nI (kr j))))] s.heap.size = A at hD ⊢
  have hA : ∀ q : Nat, s.heap.size ≤ q → A q := fun q h => by rw [← hAe]; exact Or.inr h
  have hS : va_S A s.heap s.heap [] := va_S.rf
  have i_X1 : ∀ w ∈ u_ws RX1 TX1 5, w ∈ wsX1_giveFound := by decide +kernel
  have i_X6 : ∀ w ∈ u_ws RX6 TX6 7, w ∈ wsX1_giveFound := by decide +kernel
  have i_X3 : ∀ w ∈ u_ws RX3 TX3 3, w ∈ wsX1_giveFound := by decide +kernel
  have k_0 := hts (.fieldLink RX1 22 "VoiceRows$Finder" "lines" "LVoiceRows$Lines;") (by decide +kernel)
  have k_1 := hts (.fieldLink RX1 18 "VoiceRows$Finder" "score" "LVoiceRows$Score;") (by decide +kernel)
  have k_2 := hts (.fieldLink RX1 42 "VoiceRows$Score" "count" "I") (by decide +kernel)
  have k_3 := hts (.fieldLink RX1 47 "VoiceRows$Score" "order" "[I") (by decide +kernel)
  have k_4 := hts (.fieldLink RX1 57 "VoiceRows$Lines" "last" "[I") (by decide +kernel)
  have k_5 := hts (.fieldLink RX1 60 "VoiceRows$Score" "voice" "[I") (by decide +kernel)
  have hl := lv_entry ([.ref (b 16)]) (n := 5) (Nat.le_of_ble_eq_true rfl)
  rw [lg_entry_eq]
  generalize (lg_sl ([.ref (b 16)]) ++ List.replicate (5 - (lg_sl ([.ref (b 16)])).length) Slot.unset).toArray = ls at hl ⊢
  have hl : lv_has ls 5 [(0, .ref (b 16))] := hl
  refine lv_aload_n hx hb dX1_giveFound_0 rfl (lv_at hl 0 rfl) ?_
  refine va_get (D := (dC, dI)) (ci := 1) (v := .ref (b 14)) (C := RX1) (T := TX1) (N := 5) hx hb hts i_X1 hown hK hP 0 rfl rfl 1 (by decide) k_0 (fun _ h9 => h9) rfl dX1_giveFound_1 ?_
  have hPc := hP.sub (ws' := [(b 14, .inr (3, [.ref (b 1), .ref (b 8), .ref (b 15)])), (b 8, .inl (cI, 4, .inl Wt)), (b 15, .inl (cI, 4, .inl LA)), (b 1, .inr (6, [.int (nI n), .ref (b 2), .ref (b 3), .ref (b 4), .ref (b 5), .ref (b 6), .ref (b 7)])), (b 2, .inl (cI, 60, .inl F)), (b 3, .inl (cI, 60, .inl T)), (b 4, .inl (cI, 60, .inl P)), (b 5, .inl (cI, 60, .inl V)), (b 6, .inl (cI, 60, .inl (fun j => nI (o j)))), (b 7, .inl (cI, 60, .inl (fun j => nI (kr j))))]) [3, 4, 5, 6, 7, 8, 9, 10, 11, 12] rfl
  have hDc := hD.sub (ws' := [(b 14, .inr (3, [.ref (b 1), .ref (b 8), .ref (b 15)])), (b 8, .inl (cI, 4, .inl Wt)), (b 15, .inl (cI, 4, .inl LA)), (b 1, .inr (6, [.int (nI n), .ref (b 2), .ref (b 3), .ref (b 4), .ref (b 5), .ref (b 6), .ref (b 7)])), (b 2, .inl (cI, 60, .inl F)), (b 3, .inl (cI, 60, .inl T)), (b 4, .inl (cI, 60, .inl P)), (b 5, .inl (cI, 60, .inl V)), (b 6, .inl (cI, 60, .inl (fun j => nI (o j)))), (b 7, .inl (cI, 60, .inl (fun j => nI (kr j))))]) [3, 4, 5, 6, 7, 8, 9, 10, 11, 12] (by decide) rfl
  have hFc := va_free (wc := [(b 14, .inr (3, [.ref (b 1), .ref (b 8), .ref (b 15)])), (b 8, .inl (cI, 4, .inl Wt)), (b 15, .inl (cI, 4, .inl LA)), (b 1, .inr (6, [.int (nI n), .ref (b 2), .ref (b 3), .ref (b 4), .ref (b 5), .ref (b 6), .ref (b 7)])), (b 2, .inl (cI, 60, .inl F)), (b 3, .inl (cI, 60, .inl T)), (b 4, .inl (cI, 60, .inl P)), (b 5, .inl (cI, 60, .inl V)), (b 6, .inl (cI, 60, .inl (fun j => nI (o j)))), (b 7, .inl (cI, 60, .inl (fun j => nI (kr j))))]) hD hS hA [3, 4, 5, 6, 7, 8, 9, 10, 11, 12] rfl
  refine va_callv (va_runV (As := []) (rest := []) ⟨hx, hb, hml, hown, hts⟩ (c_X3_empty l dC dI cI s.heap.size b n F T P V o kr hn ho Wt LA) (cwV 0 hts gX1_giveFound_X3_empty rfl rfl rfl (by decide +kernel) ⟨show (1) + 1 ≤ 64 from by omega, show 8 + (1 + 11) + (23) ≤ 1100 from by omega⟩) ⟨gk_fbW, va_recv hK hPc (ci := 3) (q0 := 0) rfl rfl, fun U hU hW => ⟨rfl, by rw [hU], by rw [hU]; exact hPc, va_K.moved hW.alike hK, hDc.weaken (fun _ _ _ _ => trivial)⟩⟩ rfl rfl hl.1 rfl (lv_room (Nat.le_of_ble_eq_true rfl)) dX1_giveFound_4 ⟨Nat.zero_le _, Nat.zero_le _⟩) hS (fun q _ h => hFc q h) hFc (fun u t H1 locs ht hvm hw hB hz1 hk1 hS => ?_)
  obtain ⟨hP1, hK1, hD1⟩ := hB
  rw [ht] at hP1
  try dsimp only at hw
  obtain ⟨hP, hD⟩ := va_join (wr := [(b 16, .inr (1, [.ref (b 1), .ref (b 14), .ref (b 17), .int (nI nv), .ref kn])), (b 17, .inl (cI, 4, .inl PL)), (kn, .inl (cI, kl, .inl KN))]) (w1 := [(b 14, .inr (3, [.ref (b 1), .ref (b 8), .ref (b 15)])), (b 8, .inl (cI, 4, .inl Wt)), (b 15, .inl (cI, 4, .inl (fun j => oi (ln0 j)))), (b 1, .inr (6, [.int (nI n), .ref (b 2), .ref (b 3), .ref (b 4), .ref (b 5), .ref (b 6), .ref (b 7)])), (b 2, .inl (cI, 60, .inl F)), (b 3, .inl (cI, 60, .inl T)), (b 4, .inl (cI, 60, .inl P)), (b 5, .inl (cI, 60, .inl V)), (b 6, .inl (cI, 60, .inl (fun j => nI (o j)))), (b 7, .inl (cI, 60, .inl (fun j => nI (kr j))))]) hP hD [3, 4, 5, 6, 7, 8, 9, 10, 11, 12] [0, 1, 2] rfl rfl (by decide) (by decide) hk1 hFc hP1 hD1
  generalize H1 = H at hP hS ⊢
  have hP : va_P (dC, dI) vwCl [(b 16, .inr (1, [.ref (b 1), .ref (b 14), .ref (b 17), .int (nI nv), .ref kn])), (b 17, .inl (cI, 4, .inl PL)), (kn, .inl (cI, kl, .inl KN)), (b 14, .inr (3, [.ref (b 1), .ref (b 8), .ref (b 15)])), (b 8, .inl (cI, 4, .inl Wt)), (b 15, .inl (cI, 4, .inl (fun j => oi (ln0 j)))), (b 1, .inr (6, [.int (nI n), .ref (b 2), .ref (b 3), .ref (b 4), .ref (b 5), .ref (b 6), .ref (b 7)])), (b 2, .inl (cI, 60, .inl F)), (b 3, .inl (cI, 60, .inl T)), (b 4, .inl (cI, 60, .inl P)), (b 5, .inl (cI, 60, .inl V)), (b 6, .inl (cI, 60, .inl (fun j => nI (o j)))), (b 7, .inl (cI, 60, .inl (fun j => nI (kr j))))] H := hP
  have hD : va_D A [(b 16, .inr (1, [.ref (b 1), .ref (b 14), .ref (b 17), .int (nI nv), .ref kn])), (b 17, .inl (cI, 4, .inl PL)), (kn, .inl (cI, kl, .inl KN)), (b 14, .inr (3, [.ref (b 1), .ref (b 8), .ref (b 15)])), (b 8, .inl (cI, 4, .inl Wt)), (b 15, .inl (cI, 4, .inl (fun j => oi (ln0 j)))), (b 1, .inr (6, [.int (nI n), .ref (b 2), .ref (b 3), .ref (b 4), .ref (b 5), .ref (b 6), .ref (b 7)])), (b 2, .inl (cI, 60, .inl F)), (b 3, .inl (cI, 60, .inl T)), (b 4, .inl (cI, 60, .inl P)), (b 5, .inl (cI, 60, .inl V)), (b 6, .inl (cI, 60, .inl (fun j => nI (o j)))), (b 7, .inl (cI, 60, .inl (fun j => nI (kr j))))] := hD
  refine lv_iconst (v := 0) hx hb dX1_giveFound_7 (by decide) ?_
  refine lv_istore_n (lv' := [(1, .int 0), (0, .ref (b 16))]) hx hb dX1_giveFound_8 rfl hl (by decide) rfl (fun ls hl => ?_)
  refine lv_iconst (v := 0) hx hb dX1_giveFound_9 (by decide) ?_
  refine lv_istore_n (lv' := [(2, .int 0), (1, .int 0), (0, .ref (b 16))]) hx hb dX1_giveFound_10 rfl hl (by decide) rfl (fun ls hl => ?_)
  have L11 : ∀ (fu : Nat) (r : Nat) (x1 x2 : Int32) (LA1 KN1 V1 : Nat → Int32) (H : Heap) (locs : List Loc) (ls : Array Slot), x1 = nI (stt n (laF F T P Wt o n nv r) nv) → x2 = nI r → LA1 = (fun j => oi (lnO o (laF F T P Wt o n nv r) j)) → r ≤ n → okF F T P Wt o n nv r → kiP F T P Wt o n nv KN1 → (∀ j, j < r → V1 (o j) = nI (chF F T P Wt o n nv j)) → (∀ j, n ≤ j → V1 j = V j) → n - r < fu → va_P (dC, dI) vwCl [(b 16, .inr (1, [.ref (b 1), .ref (b 14), .ref (b 17), .int (nI nv), .ref kn])), (b 17, .inl (cI, 4, .inl PL)), (kn, .inl (cI, kl, .inl KN1)), (b 14, .inr (3, [.ref (b 1), .ref (b 8), .ref (b 15)])), (b 8, .inl (cI, 4, .inl Wt)), (b 15, .inl (cI, 4, .inl LA1)), (b 1, .inr (6, [.int (nI n), .ref (b 2), .ref (b 3), .ref (b 4), .ref (b 5), .ref (b 6), .ref (b 7)])), (b 2, .inl (cI, 60, .inl F)), (b 3, .inl (cI, 60, .inl T)), (b 4, .inl (cI, 60, .inl P)), (b 5, .inl (cI, 60, .inl V1)), (b 6, .inl (cI, 60, .inl (fun j => nI (o j)))), (b 7, .inl (cI, 60, .inl (fun j => nI (kr j))))] H → va_D A [(b 16, .inr (1, [.ref (b 1), .ref (b 14), .ref (b 17), .int (nI nv), .ref kn])), (b 17, .inl (cI, 4, .inl PL)), (kn, .inl (cI, kl, .inl KN1)), (b 14, .inr (3, [.ref (b 1), .ref (b 8), .ref (b 15)])), (b 8, .inl (cI, 4, .inl Wt)), (b 15, .inl (cI, 4, .inl LA1)), (b 1, .inr (6, [.int (nI n), .ref (b 2), .ref (b 3), .ref (b 4), .ref (b 5), .ref (b 6), .ref (b 7)])), (b 2, .inl (cI, 60, .inl F)), (b 3, .inl (cI, 60, .inl T)), (b 4, .inl (cI, 60, .inl P)), (b 5, .inl (cI, 60, .inl V1)), (b 6, .inl (cI, 60, .inl (fun j => nI (o j)))), (b 7, .inl (cI, 60, .inl (fun j => nI (kr j))))] → va_S A s.heap H locs → lv_has ls 5 [(0, .ref (b 16)), (1, .int x1), (2, .int x2)] → W p l e (headSpec wsX1_giveFound ({ frames := 64, cells := 0, slots := 0, locals := 1100 } : Room)).room s m [.ref (b 16)].toArray below meth c H locs 0 0 (MQ below (va_Qv (fun u : (Nat → Int32) × (Nat → Int32) × (Nat → Int32) => (∀ j, j < n → u.2.2 (o j) = nI (chF F T P Wt o n nv j)) ∧ (∀ j, n ≤ j → u.2.2 j = V j)) (fun u t => va_P (dC, dI) vwCl [(b 16, .inr (1, [.ref (b 1), .ref (b 14), .ref (b 17), .int (nI nv), .ref kn])), (b 17, .inl (cI, 4, .inl PL)), (kn, .inl (cI, kl, .inl u.2.1)), (b 14, .inr (3, [.ref (b 1), .ref (b 8), .ref (b 15)])), (b 8, .inl (cI, 4, .inl Wt)), (b 15, .inl (cI, 4, .inl u.1)), (b 1, .inr (6, [.int (nI n), .ref (b 2), .ref (b 3), .ref (b 4), .ref (b 5), .ref (b 6), .ref (b 7)])), (b 2, .inl (cI, 60, .inl F)), (b 3, .inl (cI, 60, .inl T)), (b 4, .inl (cI, 60, .inl P)), (b 5, .inl (cI, 60, .inl u.2.2)), (b 6, .inl (cI, 60, .inl (fun j => nI (o j)))), (b 7, .inl (cI, 60, .inl (fun j => nI (kr j))))] t.heap ∧ va_K (dC, dI) vwCl [(cI, .int)] t ∧ va_D A [(b 16, .inr (1, [.ref (b 1), .ref (b 14), .ref (b 17), .int (nI nv), .ref kn])), (b 17, .inl (cI, 4, .inl PL)), (kn, .inl (cI, kl, .inl u.2.1)), (b 14, .inr (3, [.ref (b 1), .ref (b 8), .ref (b 15)])), (b 8, .inl (cI, 4, .inl Wt)), (b 15, .inl (cI, 4, .inl u.1)), (b 1, .inr (6, [.int (nI n), .ref (b 2), .ref (b 3), .ref (b 4), .ref (b 5), .ref (b 6), .ref (b 7)])), (b 2, .inl (cI, 60, .inl F)), (b 3, .inl (cI, 60, .inl T)), (b 4, .inl (cI, 60, .inl P)), (b 5, .inl (cI, 60, .inl u.2.2)), (b 6, .inl (cI, 60, .inl (fun j => nI (o j)))), (b 7, .inl (cI, 60, .inl (fun j => nI (kr j))))]) A) [.ref (b 16)].toArray s 0 0 A) (F0 m 11 ls []) := by
    intro fu
    induction fu with
    | zero =>
      intro r x1 x2 LA1 KN1 V1 H locs ls e1 e2 r_LA1 hr1 hok hk1 hg1 hg2 hfu11 hP hD hS hl
      exact absurd hfu11 (Nat.not_lt_zero _)
    | succ fu ih11 =>
      intro r x1 x2 LA1 KN1 V1 H locs ls e1 e2 r_LA1 hr1 hok hk1 hg1 hg2 hfu11 hP hD hS hl
      subst e1
      subst e2
      subst r_LA1
      refine lv_iload_n hx hb dX1_giveFound_11 rfl (lv_at hl 2 rfl) ?_
      refine lv_aload_n hx hb dX1_giveFound_12 rfl (lv_at hl 0 rfl) ?_
      refine va_get (D := (dC, dI)) (ci := 1) (v := .ref (b 1)) (C := RX1) (T := TX1) (N := 5) hx hb hts i_X1 hown hK hP 0 rfl rfl 0 (by decide) k_1 (fun _ h9 => h9) rfl dX1_giveFound_13 ?_
      refine va_get (D := (dC, dI)) (ci := 6) (v := .int (nI n)) (C := RX6) (T := TX6) (N := 7) hx hb hts i_X6 hown hK hP 6 rfl rfl 0 (by decide) k_2 (fun _ h9 => h9) rfl dX1_giveFound_16 ?_
      refine lv_icmp_ge (tgt := 77) hx hb dX1_giveFound_19 (by decide) (fun c_2 => ?_) (fun c_2 => ?_)
      · skip
        have c_2 : r ≥ n := gk_geT (a := r) (b := n) (by first | omega | exact Nat.lt_trans (ho _) (by decide) | exact Nat.lt_of_le_of_lt atN_le (by omega) | exact Nat.lt_of_le_of_lt szN_le (by omega) | exact Nat.lt_of_le_of_lt clM_le (by omega) | exact Nat.lt_of_le_of_lt rkN_le (by omega) | exact Nat.lt_of_le_of_lt (cnt_le _ _) (by omega)) (by first | omega | exact Nat.lt_trans (ho _) (by decide) | exact Nat.lt_of_le_of_lt atN_le (by omega) | exact Nat.lt_of_le_of_lt szN_le (by omega) | exact Nat.lt_of_le_of_lt clM_le (by omega) | exact Nat.lt_of_le_of_lt rkN_le (by omega) | exact Nat.lt_of_le_of_lt (cnt_le _ _) (by omega)) c_2
        exact W.vret hx hb hr (fun t ht hW => ⟨⟨(_, KN1, V1), rfl, (by exact ⟨fun j hj => hg1 j (by omega), hg2⟩), by rw [ht]; exact hP, va_K.moved hW.alike hK, hD⟩, hS.F ht⟩) hS.2.2 dX1_giveFound_77
      · skip
        have c_2 : r < n := gk_geF (a := r) (b := n) (by first | omega | exact Nat.lt_trans (ho _) (by decide) | exact Nat.lt_of_le_of_lt atN_le (by omega) | exact Nat.lt_of_le_of_lt szN_le (by omega) | exact Nat.lt_of_le_of_lt clM_le (by omega) | exact Nat.lt_of_le_of_lt rkN_le (by omega) | exact Nat.lt_of_le_of_lt (cnt_le _ _) (by omega)) (by first | omega | exact Nat.lt_trans (ho _) (by decide) | exact Nat.lt_of_le_of_lt atN_le (by omega) | exact Nat.lt_of_le_of_lt szN_le (by omega) | exact Nat.lt_of_le_of_lt clM_le (by omega) | exact Nat.lt_of_le_of_lt rkN_le (by omega) | exact Nat.lt_of_le_of_lt (cnt_le _ _) (by omega)) c_2
        refine lv_aload_n hx hb dX1_giveFound_22 rfl (lv_at hl 0 rfl) ?_
        refine va_get (D := (dC, dI)) (ci := 1) (v := .ref (b 1)) (C := RX1) (T := TX1) (N := 5) hx hb hts i_X1 hown hK hP 0 rfl rfl 0 (by decide) k_1 (fun _ h9 => h9) rfl dX1_giveFound_23 ?_
        refine va_get (D := (dC, dI)) (ci := 6) (v := .ref (b 6)) (C := RX6) (T := TX6) (N := 7) hx hb hts i_X6 hown hK hP 6 rfl rfl 5 (by decide) k_3 (fun _ h9 => h9) rfl dX1_giveFound_26 ?_
        refine lv_iload_n hx hb dX1_giveFound_29 rfl (lv_at hl 2 rfl) ?_
        refine gk_ld hx hb hK hP 11 0 rfl rfl r (by omega) (by omega) (v := nI (o r)) (rfl) dX1_giveFound_30 ?_
        refine lv_istore_n (lv' := [(3, .int (nI (o r))), (0, .ref (b 16)), (1, .int (nI (stt n (laF F T P Wt o n nv r) nv))), (2, .int (nI r))]) hx hb dX1_giveFound_31 rfl hl (by decide) rfl (fun ls hl => ?_)
        refine lv_aload_n hx hb dX1_giveFound_32 rfl (lv_at hl 1 rfl) ?_
        refine lv_iload_n hx hb dX1_giveFound_33 rfl (lv_at hl 3 rfl) ?_
        refine lv_iload_n hx hb dX1_giveFound_34 rfl (lv_at hl 2 rfl) ?_
        have hPc := hP.sub (ws' := [(b 16, .inr (1, [.ref (b 1), .ref (b 14), .ref (b 17), .int (nI nv), .ref kn])), (b 17, .inl (cI, 4, .inl PL)), (kn, .inl (cI, kl, .inl KN1)), (b 14, .inr (3, [.ref (b 1), .ref (b 8), .ref (b 15)])), (b 8, .inl (cI, 4, .inl Wt)), (b 15, .inl (cI, 4, .inl (fun j => oi (lnO o (laF F T P Wt o n nv r) j)))), (b 1, .inr (6, [.int (nI n), .ref (b 2), .ref (b 3), .ref (b 4), .ref (b 5), .ref (b 6), .ref (b 7)])), (b 2, .inl (cI, 60, .inl F)), (b 3, .inl (cI, 60, .inl T)), (b 4, .inl (cI, 60, .inl P)), (b 5, .inl (cI, 60, .inl V1)), (b 6, .inl (cI, 60, .inl (fun j => nI (o j)))), (b 7, .inl (cI, 60, .inl (fun j => nI (kr j))))]) [0, 1, 2, 3, 4, 5, 6, 7, 8, 9, 10, 11, 12] rfl
        have hDc := hD.sub (ws' := [(b 16, .inr (1, [.ref (b 1), .ref (b 14), .ref (b 17), .int (nI nv), .ref kn])), (b 17, .inl (cI, 4, .inl PL)), (kn, .inl (cI, kl, .inl KN1)), (b 14, .inr (3, [.ref (b 1), .ref (b 8), .ref (b 15)])), (b 8, .inl (cI, 4, .inl Wt)), (b 15, .inl (cI, 4, .inl (fun j => oi (lnO o (laF F T P Wt o n nv r) j)))), (b 1, .inr (6, [.int (nI n), .ref (b 2), .ref (b 3), .ref (b 4), .ref (b 5), .ref (b 6), .ref (b 7)])), (b 2, .inl (cI, 60, .inl F)), (b 3, .inl (cI, 60, .inl T)), (b 4, .inl (cI, 60, .inl P)), (b 5, .inl (cI, 60, .inl V1)), (b 6, .inl (cI, 60, .inl (fun j => nI (o j)))), (b 7, .inl (cI, 60, .inl (fun j => nI (kr j))))]) [0, 1, 2, 3, 4, 5, 6, 7, 8, 9, 10, 11, 12] (by decide) rfl
        have hFc := va_free (wc := [(b 16, .inr (1, [.ref (b 1), .ref (b 14), .ref (b 17), .int (nI nv), .ref kn])), (b 17, .inl (cI, 4, .inl PL)), (kn, .inl (cI, kl, .inl KN1)), (b 14, .inr (3, [.ref (b 1), .ref (b 8), .ref (b 15)])), (b 8, .inl (cI, 4, .inl Wt)), (b 15, .inl (cI, 4, .inl (fun j => oi (lnO o (laF F T P Wt o n nv r) j)))), (b 1, .inr (6, [.int (nI n), .ref (b 2), .ref (b 3), .ref (b 4), .ref (b 5), .ref (b 6), .ref (b 7)])), (b 2, .inl (cI, 60, .inl F)), (b 3, .inl (cI, 60, .inl T)), (b 4, .inl (cI, 60, .inl P)), (b 5, .inl (cI, 60, .inl V1)), (b 6, .inl (cI, 60, .inl (fun j => nI (o j)))), (b 7, .inl (cI, 60, .inl (fun j => nI (kr j))))]) hD hS hA [0, 1, 2, 3, 4, 5, 6, 7, 8, 9, 10, 11, 12] rfl
        refine va_calli (va_runV (As := [.int (nI r), .int (nI (stt n (laF F T P Wt o n nv r) nv))]) (rest := []) ⟨hx, hb, hml, hown, hts⟩ (c_X1_firstBest l dC dI cI H.size b n F T P V1 o kr hn ho Wt PL kn kl nv hv4 hPL hkl hkb hn4 hko hg KN1 r (by omega) hok hk1) (cwV 2 hts gX1_giveFound_X1_firstBest rfl rfl rfl (by decide +kernel) ⟨show (62) + 1 ≤ 64 from by omega, show 8 + (7 + 11) + (1000) ≤ 1100 from by omega⟩) ⟨gk_fbW, va_recv hK hPc (ci := 1) (q0 := 0) rfl rfl, fun U hU hW => ⟨rfl, by rw [hU], by rw [hU]; exact hPc, va_K.moved hW.alike hK, hDc.weaken (fun _ _ _ _ => trivial)⟩⟩ rfl rfl hl.1 rfl (lv_room (Nat.le_of_ble_eq_true rfl)) dX1_giveFound_35 ⟨Nat.zero_le _, Nat.zero_le _⟩) hS (fun q _ h => hFc q h) hFc (fun r_3 u t H1 locs ht hvm hw hB hz1 hk1 hS => ?_)
        obtain ⟨K2, rfl⟩ : ∃ z, z = u := ⟨_, rfl⟩
        obtain ⟨hP1, hK1, hD1⟩ := hB
        rw [ht] at hP1
        try dsimp only at hw
        obtain ⟨hP, hD⟩ := va_join (wr := []) (w1 := [(b 16, .inr (1, [.ref (b 1), .ref (b 14), .ref (b 17), .int (nI nv), .ref kn])), (b 17, .inl (cI, 4, .inl PL)), (kn, .inl (cI, kl, .inl K2)), (b 14, .inr (3, [.ref (b 1), .ref (b 8), .ref (b 15)])), (b 8, .inl (cI, 4, .inl Wt)), (b 15, .inl (cI, 4, .inl (fun j => oi (lnO o (laF F T P Wt o n nv r) j)))), (b 1, .inr (6, [.int (nI n), .ref (b 2), .ref (b 3), .ref (b 4), .ref (b 5), .ref (b 6), .ref (b 7)])), (b 2, .inl (cI, 60, .inl F)), (b 3, .inl (cI, 60, .inl T)), (b 4, .inl (cI, 60, .inl P)), (b 5, .inl (cI, 60, .inl V1)), (b 6, .inl (cI, 60, .inl (fun j => nI (o j)))), (b 7, .inl (cI, 60, .inl (fun j => nI (kr j))))]) hP hD [0, 1, 2, 3, 4, 5, 6, 7, 8, 9, 10, 11, 12] [] rfl rfl (by decide) (by decide) hk1 hFc hP1 hD1
        generalize H1 = H at hP hS ⊢
        have hP : va_P (dC, dI) vwCl [(b 16, .inr (1, [.ref (b 1), .ref (b 14), .ref (b 17), .int (nI nv), .ref kn])), (b 17, .inl (cI, 4, .inl PL)), (kn, .inl (cI, kl, .inl K2)), (b 14, .inr (3, [.ref (b 1), .ref (b 8), .ref (b 15)])), (b 8, .inl (cI, 4, .inl Wt)), (b 15, .inl (cI, 4, .inl (fun j => oi (lnO o (laF F T P Wt o n nv r) j)))), (b 1, .inr (6, [.int (nI n), .ref (b 2), .ref (b 3), .ref (b 4), .ref (b 5), .ref (b 6), .ref (b 7)])), (b 2, .inl (cI, 60, .inl F)), (b 3, .inl (cI, 60, .inl T)), (b 4, .inl (cI, 60, .inl P)), (b 5, .inl (cI, 60, .inl V1)), (b 6, .inl (cI, 60, .inl (fun j => nI (o j)))), (b 7, .inl (cI, 60, .inl (fun j => nI (kr j))))] H := hP
        have hD : va_D A [(b 16, .inr (1, [.ref (b 1), .ref (b 14), .ref (b 17), .int (nI nv), .ref kn])), (b 17, .inl (cI, 4, .inl PL)), (kn, .inl (cI, kl, .inl K2)), (b 14, .inr (3, [.ref (b 1), .ref (b 8), .ref (b 15)])), (b 8, .inl (cI, 4, .inl Wt)), (b 15, .inl (cI, 4, .inl (fun j => oi (lnO o (laF F T P Wt o n nv r) j)))), (b 1, .inr (6, [.int (nI n), .ref (b 2), .ref (b 3), .ref (b 4), .ref (b 5), .ref (b 6), .ref (b 7)])), (b 2, .inl (cI, 60, .inl F)), (b 3, .inl (cI, 60, .inl T)), (b 4, .inl (cI, 60, .inl P)), (b 5, .inl (cI, 60, .inl V1)), (b 6, .inl (cI, 60, .inl (fun j => nI (o j)))), (b 7, .inl (cI, 60, .inl (fun j => nI (kr j))))] := hD
        obtain ⟨w1, w2⟩ := hw
        subst w1
        have hcf := chF_lt (show r < n by omega) hok
        refine lv_istore (lv' := [(4, .int (nI (chF F T P Wt o n nv r))), (3, .int (nI (o r))), (0, .ref (b 16)), (1, .int (nI (stt n (laF F T P Wt o n nv r) nv))), (2, .int (nI r))]) hx hb dX1_giveFound_38 hl (by decide) rfl (fun ls hl => ?_)
        refine lv_aload_n hx hb dX1_giveFound_40 rfl (lv_at hl 2 rfl) ?_
        refine lv_iload_n hx hb dX1_giveFound_41 rfl (lv_at hl 4 rfl) ?_
        refine lv_iload_n hx hb dX1_giveFound_42 rfl (lv_at hl 3 rfl) ?_
        refine lv_iload hx hb dX1_giveFound_43 (lv_at hl 0 rfl) ?_
        refine vp_callSi (gk_run (va_runV (As := [.int (nI r), .int (nI (stt n (laF F T P Wt o n nv r) nv)), .int (nI (chF F T P Wt o n nv r))]) (rest := []) ⟨hx, hb, hml, hown, hts⟩ (c_X1_stateBehind l dC dI cI b n F T P V1 o kr hn ho Wt (laF F T P Wt o n nv r) PL kn kl K2 nv hv4 hPL hkl hkb hn4 hko hg r (chF F T P Wt o n nv r) (by omega) hcf.1 hok.1) (cwV 3 hts gX1_giveFound_X1_stateBehind rfl rfl rfl (by decide +kernel) ⟨show (0) + 1 ≤ 64 from by omega, show 8 + (6 + 11) + (0) ≤ 1100 from by omega⟩) ⟨gk_fb, va_recv hK hP (ci := 1) (q0 := 0) rfl rfl, fun U hU hW => ⟨rfl, by rw [hU]; exact hP, va_K.moved hW.alike hK⟩⟩ rfl rfl hl.1 rfl (lv_room (Nat.le_of_ble_eq_true rfl)) dX1_giveFound_45 ⟨Nat.zero_le _, Nat.zero_le _⟩)) (fun r_4 er_4 => ?_)
        subst er_4
        refine lv_istore_n (lv' := [(1, .int (nI (stt n (updN (laF F T P Wt o n nv r) (chF F T P Wt o n nv r) (r + 1)) nv))), (4, .int (nI (chF F T P Wt o n nv r))), (3, .int (nI (o r))), (0, .ref (b 16)), (2, .int (nI r))]) hx hb dX1_giveFound_48 rfl hl (by decide) rfl (fun ls hl => ?_)
        refine lv_aload_n hx hb dX1_giveFound_49 rfl (lv_at hl 3 rfl) ?_
        refine va_get (D := (dC, dI)) (ci := 1) (v := .ref (b 14)) (C := RX1) (T := TX1) (N := 5) hx hb hts i_X1 hown hK hP 0 rfl rfl 1 (by decide) k_0 (fun _ h9 => h9) rfl dX1_giveFound_50 ?_
        refine va_get (D := (dC, dI)) (ci := 3) (v := .ref (b 15)) (C := RX3) (T := TX3) (N := 3) hx hb hts i_X3 hown hK hP 3 rfl rfl 2 (by decide) k_4 (fun _ h9 => h9) rfl dX1_giveFound_53 ?_
        refine lv_iload hx hb dX1_giveFound_56 (lv_at hl 1 rfl) ?_
        refine lv_iload_n hx hb dX1_giveFound_58 rfl (lv_at hl 2 rfl) ?_
        refine gk_st hx hb hK hP hD hS 5 0 rfl rfl (chF F T P Wt o n nv r) (by have := hcf.1; omega) (by omega) dX1_giveFound_59 (fun H locs hP hD hS => ?_)
        have hP : va_P (dC, dI) vwCl [(b 16, .inr (1, [.ref (b 1), .ref (b 14), .ref (b 17), .int (nI nv), .ref kn])), (b 17, .inl (cI, 4, .inl PL)), (kn, .inl (cI, kl, .inl K2)), (b 14, .inr (3, [.ref (b 1), .ref (b 8), .ref (b 15)])), (b 8, .inl (cI, 4, .inl Wt)), (b 15, .inl (cI, 4, .inl (upd (fun j => oi (lnO o (laF F T P Wt o n nv r) j)) (chF F T P Wt o n nv r) (nI (o r))))), (b 1, .inr (6, [.int (nI n), .ref (b 2), .ref (b 3), .ref (b 4), .ref (b 5), .ref (b 6), .ref (b 7)])), (b 2, .inl (cI, 60, .inl F)), (b 3, .inl (cI, 60, .inl T)), (b 4, .inl (cI, 60, .inl P)), (b 5, .inl (cI, 60, .inl V1)), (b 6, .inl (cI, 60, .inl (fun j => nI (o j)))), (b 7, .inl (cI, 60, .inl (fun j => nI (kr j))))] H := hP
        have hD : va_D A [(b 16, .inr (1, [.ref (b 1), .ref (b 14), .ref (b 17), .int (nI nv), .ref kn])), (b 17, .inl (cI, 4, .inl PL)), (kn, .inl (cI, kl, .inl K2)), (b 14, .inr (3, [.ref (b 1), .ref (b 8), .ref (b 15)])), (b 8, .inl (cI, 4, .inl Wt)), (b 15, .inl (cI, 4, .inl (upd (fun j => oi (lnO o (laF F T P Wt o n nv r) j)) (chF F T P Wt o n nv r) (nI (o r))))), (b 1, .inr (6, [.int (nI n), .ref (b 2), .ref (b 3), .ref (b 4), .ref (b 5), .ref (b 6), .ref (b 7)])), (b 2, .inl (cI, 60, .inl F)), (b 3, .inl (cI, 60, .inl T)), (b 4, .inl (cI, 60, .inl P)), (b 5, .inl (cI, 60, .inl V1)), (b 6, .inl (cI, 60, .inl (fun j => nI (o j)))), (b 7, .inl (cI, 60, .inl (fun j => nI (kr j))))] := hD
        have eR : upd (fun j => oi (lnO o (laF F T P Wt o n nv r) j)) (chF F T P Wt o n nv r) (nI (o r)) = (fun j => oi (lnO o (laF F T P Wt o n nv (r + 1)) j)) := by rw [upd_oi, lnO_up]; rfl
        rw [eR] at hP hD
        have hP : va_P (dC, dI) vwCl [(b 16, .inr (1, [.ref (b 1), .ref (b 14), .ref (b 17), .int (nI nv), .ref kn])), (b 17, .inl (cI, 4, .inl PL)), (kn, .inl (cI, kl, .inl K2)), (b 14, .inr (3, [.ref (b 1), .ref (b 8), .ref (b 15)])), (b 8, .inl (cI, 4, .inl Wt)), (b 15, .inl (cI, 4, .inl (fun j => oi (lnO o (laF F T P Wt o n nv (r + 1)) j)))), (b 1, .inr (6, [.int (nI n), .ref (b 2), .ref (b 3), .ref (b 4), .ref (b 5), .ref (b 6), .ref (b 7)])), (b 2, .inl (cI, 60, .inl F)), (b 3, .inl (cI, 60, .inl T)), (b 4, .inl (cI, 60, .inl P)), (b 5, .inl (cI, 60, .inl V1)), (b 6, .inl (cI, 60, .inl (fun j => nI (o j)))), (b 7, .inl (cI, 60, .inl (fun j => nI (kr j))))] H := hP
        have hD : va_D A [(b 16, .inr (1, [.ref (b 1), .ref (b 14), .ref (b 17), .int (nI nv), .ref kn])), (b 17, .inl (cI, 4, .inl PL)), (kn, .inl (cI, kl, .inl K2)), (b 14, .inr (3, [.ref (b 1), .ref (b 8), .ref (b 15)])), (b 8, .inl (cI, 4, .inl Wt)), (b 15, .inl (cI, 4, .inl (fun j => oi (lnO o (laF F T P Wt o n nv (r + 1)) j)))), (b 1, .inr (6, [.int (nI n), .ref (b 2), .ref (b 3), .ref (b 4), .ref (b 5), .ref (b 6), .ref (b 7)])), (b 2, .inl (cI, 60, .inl F)), (b 3, .inl (cI, 60, .inl T)), (b 4, .inl (cI, 60, .inl P)), (b 5, .inl (cI, 60, .inl V1)), (b 6, .inl (cI, 60, .inl (fun j => nI (o j)))), (b 7, .inl (cI, 60, .inl (fun j => nI (kr j))))] := hD
        refine lv_aload_n hx hb dX1_giveFound_60 rfl (lv_at hl 3 rfl) ?_
        refine va_get (D := (dC, dI)) (ci := 1) (v := .ref (b 1)) (C := RX1) (T := TX1) (N := 5) hx hb hts i_X1 hown hK hP 0 rfl rfl 0 (by decide) k_1 (fun _ h9 => h9) rfl dX1_giveFound_61 ?_
        refine va_get (D := (dC, dI)) (ci := 6) (v := .ref (b 5)) (C := RX6) (T := TX6) (N := 7) hx hb hts i_X6 hown hK hP 6 rfl rfl 4 (by decide) k_5 (fun _ h9 => h9) rfl dX1_giveFound_64 ?_
        refine lv_iload_n hx hb dX1_giveFound_67 rfl (lv_at hl 2 rfl) ?_
        refine lv_iload hx hb dX1_giveFound_68 (lv_at hl 1 rfl) ?_
        refine gk_st hx hb hK hP hD hS 10 0 rfl rfl (o r) (ho _) (by omega) dX1_giveFound_70 (fun H locs hP hD hS => ?_)
        have hP : va_P (dC, dI) vwCl [(b 16, .inr (1, [.ref (b 1), .ref (b 14), .ref (b 17), .int (nI nv), .ref kn])), (b 17, .inl (cI, 4, .inl PL)), (kn, .inl (cI, kl, .inl K2)), (b 14, .inr (3, [.ref (b 1), .ref (b 8), .ref (b 15)])), (b 8, .inl (cI, 4, .inl Wt)), (b 15, .inl (cI, 4, .inl (fun j => oi (lnO o (laF F T P Wt o n nv (r + 1)) j)))), (b 1, .inr (6, [.int (nI n), .ref (b 2), .ref (b 3), .ref (b 4), .ref (b 5), .ref (b 6), .ref (b 7)])), (b 2, .inl (cI, 60, .inl F)), (b 3, .inl (cI, 60, .inl T)), (b 4, .inl (cI, 60, .inl P)), (b 5, .inl (cI, 60, .inl (upd V1 (o r) (nI (chF F T P Wt o n nv r))))), (b 6, .inl (cI, 60, .inl (fun j => nI (o j)))), (b 7, .inl (cI, 60, .inl (fun j => nI (kr j))))] H := hP
        have hD : va_D A [(b 16, .inr (1, [.ref (b 1), .ref (b 14), .ref (b 17), .int (nI nv), .ref kn])), (b 17, .inl (cI, 4, .inl PL)), (kn, .inl (cI, kl, .inl K2)), (b 14, .inr (3, [.ref (b 1), .ref (b 8), .ref (b 15)])), (b 8, .inl (cI, 4, .inl Wt)), (b 15, .inl (cI, 4, .inl (fun j => oi (lnO o (laF F T P Wt o n nv (r + 1)) j)))), (b 1, .inr (6, [.int (nI n), .ref (b 2), .ref (b 3), .ref (b 4), .ref (b 5), .ref (b 6), .ref (b 7)])), (b 2, .inl (cI, 60, .inl F)), (b 3, .inl (cI, 60, .inl T)), (b 4, .inl (cI, 60, .inl P)), (b 5, .inl (cI, 60, .inl (upd V1 (o r) (nI (chF F T P Wt o n nv r))))), (b 6, .inl (cI, 60, .inl (fun j => nI (o j)))), (b 7, .inl (cI, 60, .inl (fun j => nI (kr j))))] := hD
        refine lv_iinc (v := nI (r + 1)) (lv' := [(2, .int (nI (r + 1))), (1, .int (nI (stt n (updN (laF F T P Wt o n nv r) (chF F T P Wt o n nv r) (r + 1)) nv))), (4, .int (nI (chF F T P Wt o n nv r))), (3, .int (nI (o r))), (0, .ref (b 16))]) hx hb dX1_giveFound_71 hl (k := 4) rfl (gk_inc1 _) (by decide) rfl (fun ls hl => ?_)
        refine lv_goto (tgt := 11) hx hb dX1_giveFound_74 (by decide) ?_
        exact ih11 (r + 1) _ _ _ _ _ _ _ ls (by rfl) (by rfl) (by rfl) (by omega) (by exact okF_s (by omega) hok) (by exact w2) (by exact give_step (G := fun j => nI (chF F T P Wt o n nv j)) hp (by omega) hg1) (by exact give_keep hp (by omega) hg2) (by omega) hP hD hS (lv_sub hl [4, 1, 0] rfl)
  exact L11 ((n) + 1) 0 _ _ _ _ _ _ _ ls (by rw [show laF F T P Wt o n nv 0 = ln0 from rfl, stt_0]; rfl) (by rfl) (by rfl) (by omega) (by exact hok0) (by exact hki) (by exact fun j hj => absurd hj (Nat.not_lt_zero j)) (by exact fun _ _ => rfl) (by omega) hP hD hS (lv_sub hl [2, 1, 0] rfl)

set_option maxHeartbeats 1000000 in
set_option maxRecDepth 100000 in
theorem c_J7_rangeCheck_23922 (l : Launch) (N hi : Nat) (hN : N < 2 ^ 31) (hh : hi ≤ N) : Met l yJ7_rangeCheck_23922 wsJ7_rangeCheck_23922 ({ frames := 0, cells := 0, slots := 0, locals := 0 } : Room) (va_Pc [.int (nI N), .int 0, .int (nI hi)] (fun _ => True)) (va_Sv (fun _ => True)) 0 0 (fun _ => False) := by
  refine Met.ofW (cc := cJ7_rangeCheck_23922) (maxL := 3) (ret := none) (by decide) rfl ?_
  intro p e s m args below meth c s₁ B hml hv
  obtain ⟨rfl, -⟩ := hv
  have hx := B.exec
  have hb := B.bytes
  have hr := B.returns
  have hts := atoms_spec (ws := wsJ7_rangeCheck_23922) B.pre
  have hown : s.vm.findClass RJ7 = some m.cls := findClass_of_methodNamed B.named
  have hlocks := B.notSynchronized
  have hl := lv_entry ([.int (nI N), .int 0, .int (nI hi)]) (n := 3) (Nat.le_of_ble_eq_true rfl)
  rw [lg_entry_eq]
  generalize (lg_sl ([.int (nI N), .int 0, .int (nI hi)]) ++ List.replicate (3 - (lg_sl ([.int (nI N), .int 0, .int (nI hi)])).length) Slot.unset).toArray = ls at hl ⊢
  have hl : lv_has ls 3 [(0, .int (nI N)), (1, .int 0), (2, .int (nI hi))] := hl
  refine lv_iload_n hx hb dJ7_rangeCheck_23922_0 rfl (lv_at hl 1 rfl) ?_
  refine lv_iload_n hx hb dJ7_rangeCheck_23922_1 rfl (lv_at hl 2 rfl) ?_
  refine lv_icmp_le (tgt := 46) hx hb dJ7_rangeCheck_23922_2 (by decide) (fun c_1 => ?_) (fun c_1 => ?_)
  · skip
    have c_1 : 0 ≤ hi := gk_leT (a := 0) (b := hi) (by first | omega | exact Nat.lt_trans (ho _) (by decide) | exact Nat.lt_of_le_of_lt atN_le (by omega) | exact Nat.lt_of_le_of_lt szN_le (by omega) | exact Nat.lt_of_le_of_lt clM_le (by omega) | exact Nat.lt_of_le_of_lt rkN_le (by omega) | exact Nat.lt_of_le_of_lt (cnt_le _ _) (by omega)) (by first | omega | exact Nat.lt_trans (ho _) (by decide) | exact Nat.lt_of_le_of_lt atN_le (by omega) | exact Nat.lt_of_le_of_lt szN_le (by omega) | exact Nat.lt_of_le_of_lt clM_le (by omega) | exact Nat.lt_of_le_of_lt rkN_le (by omega) | exact Nat.lt_of_le_of_lt (cnt_le _ _) (by omega)) c_1
    refine lv_iload_n hx hb dJ7_rangeCheck_23922_46 rfl (lv_at hl 1 rfl) ?_
    refine lv_if_ge (tgt := 59) hx hb dJ7_rangeCheck_23922_47 (by decide) (fun c_2 => ?_) (fun c_2 => ?_)
    · skip
      refine lv_iload_n hx hb dJ7_rangeCheck_23922_59 rfl (lv_at hl 2 rfl) ?_
      refine lv_iload_n hx hb dJ7_rangeCheck_23922_60 rfl (lv_at hl 0 rfl) ?_
      refine lv_icmp_le (tgt := 73) hx hb dJ7_rangeCheck_23922_61 (by decide) (fun c_3 => ?_) (fun c_3 => ?_)
      · skip
        have c_3 : hi ≤ N := gk_leT (a := hi) (b := N) (by first | omega | exact Nat.lt_trans (ho _) (by decide) | exact Nat.lt_of_le_of_lt atN_le (by omega) | exact Nat.lt_of_le_of_lt szN_le (by omega) | exact Nat.lt_of_le_of_lt clM_le (by omega) | exact Nat.lt_of_le_of_lt rkN_le (by omega) | exact Nat.lt_of_le_of_lt (cnt_le _ _) (by omega)) (by first | omega | exact Nat.lt_trans (ho _) (by decide) | exact Nat.lt_of_le_of_lt atN_le (by omega) | exact Nat.lt_of_le_of_lt szN_le (by omega) | exact Nat.lt_of_le_of_lt clM_le (by omega) | exact Nat.lt_of_le_of_lt rkN_le (by omega) | exact Nat.lt_of_le_of_lt (cnt_le _ _) (by omega)) c_3
        exact W.vret hx hb hr (fun t ht _ => ⟨rfl, trivial, ht⟩) (fun q h => by cases h) dJ7_rangeCheck_23922_73
      · skip
        exact absurd (nI_le (by omega) (by omega)) c_3
    · skip
      exact absurd (by decide) c_2
  · skip
    exact absurd (nI_pos' (by omega)) c_1

set_option maxHeartbeats 1000000 in
set_option maxRecDepth 100000 in
theorem c_J7_fill_fda19 (l : Launch) (dC : Nat → ClassId) (dI : Nat → Nat → Nat) (cI : ClassId) (sz : Nat) (q N : Nat) (f : Nat → Int32) (hN : N < 2 ^ 31) (hi : Nat) (hh : hi ≤ N) (x : Int32) : Met l yJ7_fill_fda19 wsJ7_fill_fda19 ({ frames := 1, cells := 0, slots := 0, locals := 22 } : Room) (va_Pc [.ref q, .int 0, .int (nI hi), .int x] (fun U => U.heap.size = sz ∧ va_P (dC, dI) vwCl [(q, .inl (cI, N, .inl f))] U.heap ∧ va_K (dC, dI) vwCl [(cI, .int)] U ∧ va_D (fun _ => True) [(q, .inl (cI, N, .inl f))])) (va_Qv (fun _ : Unit => True) (fun u t => va_P (dC, dI) vwCl [(q, .inl (cI, N, .inl (fillF f x 0 hi)))] t.heap ∧ va_K (dC, dI) vwCl [(cI, .int)] t ∧ va_D (va_A [(q, .inl (cI, N, .inl f))] sz) [(q, .inl (cI, N, .inl (fillF f x 0 hi)))]) (va_A [(q, .inl (cI, N, .inl f))] sz)) 0 0 (va_A [(q, .inl (cI, N, .inl f))] sz) := by
  refine Met.ofW (cc := cJ7_fill_fda19) (maxL := 5) (ret := none) (by decide) rfl ?_
  intro p e s m args below meth c s₁ B hml hv
  obtain ⟨rfl, hsz, hP, hK, hD0⟩ := hv
  have hx := B.exec
  have hb := B.bytes
  have hr := B.returns
  have hts := atoms_spec (ws := wsJ7_fill_fda19) B.pre
  have hown : s.vm.findClass RJ7 = some m.cls := findClass_of_methodNamed B.named
  have hlocks := B.notSynchronized
  subst hsz
  have hD := hD0.self (sz := s.heap.size)
  generalize hAe : va_A [(q, .inl (cI, N, .inl f))] s.heap.size = A at hD ⊢
  have hA : ∀ q : Nat, s.heap.size ≤ q → A q := fun q h => by rw [← hAe]; exact Or.inr h
  have hS : va_S A s.heap s.heap [] := va_S.rf
  have hl := lv_entry ([.ref q, .int 0, .int (nI hi), .int x]) (n := 5) (Nat.le_of_ble_eq_true rfl)
  rw [lg_entry_eq]
  generalize (lg_sl ([.ref q, .int 0, .int (nI hi), .int x]) ++ List.replicate (5 - (lg_sl ([.ref q, .int 0, .int (nI hi), .int x])).length) Slot.unset).toArray = ls at hl ⊢
  have hl : lv_has ls 5 [(0, .ref q), (1, .int 0), (2, .int (nI hi)), (3, .int x)] := hl
  refine lv_aload_n hx hb dJ7_fill_fda19_0 rfl (lv_at hl 0 rfl) ?_
  refine va_alen hx hb hK hP 0 0 rfl rfl (v := nI N) rfl dJ7_fill_fda19_1 ?_
  refine lv_iload_n hx hb dJ7_fill_fda19_2 rfl (lv_at hl 1 rfl) ?_
  refine lv_iload_n hx hb dJ7_fill_fda19_3 rfl (lv_at hl 2 rfl) ?_
  refine va_csv (gk_run (va_runS (As := [.int (nI N), .int 0, .int (nI hi)]) (rest := []) ⟨hx, hb, hml, hown, hts⟩ (c_J7_rangeCheck_23922 l N hi hN hh) (gk_cwS 3 hts gJ7_fill_fda19_J7_rangeCheck_23922 rfl rfl rfl (by decide +kernel) ⟨Nat.le_of_ble_eq_true rfl, Nat.le_of_ble_eq_true rfl⟩) ⟨gk_fbT, fun U hU hW => ⟨rfl, trivial⟩⟩ rfl rfl hl.1 rfl (lv_room (Nat.le_of_ble_eq_true rfl)) dJ7_fill_fda19_4 ⟨Nat.zero_le _, Nat.zero_le _⟩)) (fun _ => ?_)
  refine lv_iload_n hx hb dJ7_fill_fda19_7 rfl (lv_at hl 1 rfl) ?_
  refine lv_istore (lv' := [(4, .int 0), (0, .ref q), (1, .int 0), (2, .int (nI hi)), (3, .int x)]) hx hb dJ7_fill_fda19_8 hl (by decide) rfl (fun ls hl => ?_)
  have L10 : ∀ (fu : Nat) (i : Nat) (x4 : Int32) (f1 : Nat → Int32) (H : Heap) (locs : List Loc) (ls : Array Slot), x4 = nI i → f1 = fillF f x 0 i → i ≤ hi → hi - i < fu → va_P (dC, dI) vwCl [(q, .inl (cI, N, .inl f1))] H → va_D A [(q, .inl (cI, N, .inl f1))] → va_S A s.heap H locs → lv_has ls 5 [(0, .ref q), (1, .int 0), (2, .int (nI hi)), (3, .int x), (4, .int x4)] → W p l e (headSpec wsJ7_fill_fda19 ({ frames := 1, cells := 0, slots := 0, locals := 22 } : Room)).room s m [.ref q, .int 0, .int (nI hi), .int x].toArray below meth c H locs 0 0 (MQ below (va_Qv (fun _ : Unit => True) (fun u t => va_P (dC, dI) vwCl [(q, .inl (cI, N, .inl (fillF f x 0 hi)))] t.heap ∧ va_K (dC, dI) vwCl [(cI, .int)] t ∧ va_D A [(q, .inl (cI, N, .inl (fillF f x 0 hi)))]) A) [.ref q, .int 0, .int (nI hi), .int x].toArray s 0 0 A) (F0 m 10 ls []) := by
    intro fu
    induction fu with
    | zero =>
      intro i x4 f1 H locs ls e4 r_f1 hi1 hfu10 hP hD hS hl
      exact absurd hfu10 (Nat.not_lt_zero _)
    | succ fu ih10 =>
      intro i x4 f1 H locs ls e4 r_f1 hi1 hfu10 hP hD hS hl
      subst e4
      subst r_f1
      refine lv_iload hx hb dJ7_fill_fda19_10 (lv_at hl 4 rfl) ?_
      refine lv_iload_n hx hb dJ7_fill_fda19_12 rfl (lv_at hl 2 rfl) ?_
      refine lv_icmp_ge (tgt := 27) hx hb dJ7_fill_fda19_13 (by decide) (fun c_1 => ?_) (fun c_1 => ?_)
      · skip
        have c_1 : i ≥ hi := gk_geT (a := i) (b := hi) (by first | omega | exact Nat.lt_trans (ho _) (by decide) | exact Nat.lt_of_le_of_lt atN_le (by omega) | exact Nat.lt_of_le_of_lt szN_le (by omega) | exact Nat.lt_of_le_of_lt clM_le (by omega) | exact Nat.lt_of_le_of_lt rkN_le (by omega) | exact Nat.lt_of_le_of_lt (cnt_le _ _) (by omega)) (by first | omega | exact Nat.lt_trans (ho _) (by decide) | exact Nat.lt_of_le_of_lt atN_le (by omega) | exact Nat.lt_of_le_of_lt szN_le (by omega) | exact Nat.lt_of_le_of_lt clM_le (by omega) | exact Nat.lt_of_le_of_lt rkN_le (by omega) | exact Nat.lt_of_le_of_lt (cnt_le _ _) (by omega)) c_1
        obtain rfl : i = hi := by omega
        exact W.vret hx hb hr (fun t ht hW => ⟨⟨(), rfl, (by exact trivial), by rw [ht]; exact hP, va_K.moved hW.alike hK, hD⟩, hS.F ht⟩) hS.2.2 dJ7_fill_fda19_27
      · skip
        have c_1 : i < hi := gk_geF (a := i) (b := hi) (by first | omega | exact Nat.lt_trans (ho _) (by decide) | exact Nat.lt_of_le_of_lt atN_le (by omega) | exact Nat.lt_of_le_of_lt szN_le (by omega) | exact Nat.lt_of_le_of_lt clM_le (by omega) | exact Nat.lt_of_le_of_lt rkN_le (by omega) | exact Nat.lt_of_le_of_lt (cnt_le _ _) (by omega)) (by first | omega | exact Nat.lt_trans (ho _) (by decide) | exact Nat.lt_of_le_of_lt atN_le (by omega) | exact Nat.lt_of_le_of_lt szN_le (by omega) | exact Nat.lt_of_le_of_lt clM_le (by omega) | exact Nat.lt_of_le_of_lt rkN_le (by omega) | exact Nat.lt_of_le_of_lt (cnt_le _ _) (by omega)) c_1
        refine lv_aload_n hx hb dJ7_fill_fda19_16 rfl (lv_at hl 0 rfl) ?_
        refine lv_iload hx hb dJ7_fill_fda19_17 (lv_at hl 4 rfl) ?_
        refine lv_iload_n hx hb dJ7_fill_fda19_19 rfl (lv_at hl 3 rfl) ?_
        refine gk_st hx hb hK hP hD hS 0 0 rfl rfl i (by omega) (by omega) dJ7_fill_fda19_20 (fun H locs hP hD hS => ?_)
        have hP : va_P (dC, dI) vwCl [(q, .inl (cI, N, .inl (upd (fillF f x 0 i) i x)))] H := hP
        have hD : va_D A [(q, .inl (cI, N, .inl (upd (fillF f x 0 i) i x)))] := hD
        refine lv_iinc (v := nI (i + 1)) (lv' := [(4, .int (nI (i + 1))), (0, .ref q), (1, .int 0), (2, .int (nI hi)), (3, .int x)]) hx hb dJ7_fill_fda19_21 hl (k := 4) rfl (gk_inc1 _) (by decide) rfl (fun ls hl => ?_)
        refine lv_goto (tgt := 10) hx hb dJ7_fill_fda19_24 (by decide) ?_
        exact ih10 (i + 1) _ _ _ _ ls (by rfl) (by first | exact fillF_0 | exact fillF_s (by omega)) (by omega) (by omega) hP hD hS (lv_sub hl [1, 2, 3, 4, 0] rfl)
  exact L10 ((hi) + 1) 0 _ _ _ _ ls (by rfl) (by first | exact fillF_0 | exact fillF_s (by omega)) (by omega) (by omega) hP hD hS (lv_sub hl [1, 2, 3, 4, 0] rfl)
