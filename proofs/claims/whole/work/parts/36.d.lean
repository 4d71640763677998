theorem gk_fb1 {av : List Value} {D : va_G} {cl : List vw_C} {ws : va_W} {tys : List (ClassId × FieldType)} {w : Cond} (hw : w.onTables = true) : FrameBlind (va_Pc av (fun U => va_P D cl ws U.heap ∧ va_K D cl tys U ∧ va_Nw w U)) := fun a U g mk q => by
  obtain ⟨q0, qP, qK, qN⟩ := q
  exact ⟨q0, qP, va_K.moved (u := U) (U := U.calling g mk a) (Vm.Alike.refl U.vm) qK, va_Nw.same hw (u := U) (U := U.calling g mk a) rfl qN⟩
theorem gk_fbW1 {av : List Value} {D : va_G} {cl : List vw_C} {ws : va_W} {tys : List (ClassId × FieldType)} {sz : Nat} {A : Nat → Prop} {w : Cond} (hw : w.onTables = true) : FrameBlind (va_Pc av (fun U => U.heap.size = sz ∧ va_P D cl ws U.heap ∧ va_K D cl tys U ∧ va_D A ws ∧ va_Nw w U)) := fun a U g mk q => by
  obtain ⟨q0, q1, qP, qK, qD, qN⟩ := q
  exact ⟨q0, q1, qP, va_K.moved (u := U) (U := U.calling g mk a) (Vm.Alike.refl U.vm) qK, qD, va_Nw.same hw (u := U) (U := U.calling g mk a) rfl qN⟩
-- a number that is a place below n
def ixB (x : Int32) (n : Nat) : Bool := decide (0 ≤ x) && decide (x < nI n)
theorem nI60 {n : Nat} (hn : n ≤ 60) : (nI n).toInt = n := nI_toInt (by omega)
theorem ixB_t {x : Int32} {n : Nat} : ixB x n = true ↔ 0 ≤ x ∧ x < nI n := by simp [ixB]
theorem ixB_f {x : Int32} {n : Nat} : ixB x n = false ↔ ¬ (0 ≤ x ∧ x < nI n) := by
  rw [← ixB_t]
  cases ixB x n <;> simp
theorem ix_of {x : Int32} {n : Nat} (hn : n < 2 ^ 31) (h : 0 ≤ x ∧ x < nI n) : ∃ j, j < n ∧ x = nI j := by
  obtain ⟨j, hj, rfl⟩ := nI_of (x := x) (by rw [Int32.not_lt]; exact h.1)
  exact ⟨j, (nI_ltI hj hn).mp h.2, rfl⟩
theorem ix_cl {x : Int32} {j n : Nat} (hj : j < n) (hn : n < 2 ^ 31) (e : x = nI j) : x.toNatClampNeg = j := by
  rw [e]
  exact nI_clamp (by omega)
theorem ix_in {x : Int32} {j n : Nat} (hj : j < n) (hn : n < 2 ^ 31) (e : x = nI j) : ixB x n = true := by
  rw [ixB_t, e]
  exact ⟨nI_pos' (by omega), (nI_ltI (by omega) hn).mpr hj⟩
theorem lt_m1 {x : Int32} {n : Nat} (hn : n ≤ 1000000) : x ≤ nI n - 1 ↔ x < nI n := by
  have h1 : (nI n).toInt = n := nI_toInt (by omega)
  have h2 : (nI n - 1).toInt = (n : Int) - 1 := by
    have := pk_sub_toInt (a := n) (b := 1) (by omega) (by omega)
    exact this
  rw [Int32.le_iff_toInt_le, Int32.lt_iff_toInt_lt, h1, h2]
  omega
theorem has_b {x : Int32} {n : Nat} (hn : n ≤ 1000000) : b2i (decide (0 ≤ x) && decide (x ≤ nI n - 1)) = b2i (ixB x n) := by
  unfold ixB
  rw [show decide (x ≤ nI n - 1) = decide (x < nI n) from decide_eq_decide.mpr (lt_m1 hn)]
theorem prm_add {n : Nat} {o : Nat → Nat} (h : prm n o) : prm (n + 1) (updN o n n) := by
  intro p
  simp only [cnt, updN_s]
  rw [cnt_congr (n := n) (q := fun i => p (o i)) (fun k hk => by simp only [updN_n (Nat.ne_of_lt hk)]), h p]
abbrev xW (cI : ClassId) (b : Nat → Nat) (n : Int32) (F T P V O K Wt : Nat → Int32) (rc : Int32) (RB RE : Nat → Int32) (p1 p2 : Int32) (LA : Nat → Int32) (vs : Int32) (PL : Nat → Int32) (kn kl : Nat) (KN CH : Nat → Int32) : va_W := [(b 0, .inr (7, [.ref (b 1), .ref (b 8), .ref (b 9), .ref (b 12), .ref (b 13), .ref (b 16), .ref (b 19)])), (b 1, .inr (6, [.int n, .ref (b 2), .ref (b 3), .ref (b 4), .ref (b 5), .ref (b 6), .ref (b 7)])), (b 2, .inl (cI, 60, .inl F)), (b 3, .inl (cI, 60, .inl T)), (b 4, .inl (cI, 60, .inl P)), (b 5, .inl (cI, 60, .inl V)), (b 6, .inl (cI, 60, .inl O)), (b 7, .inl (cI, 60, .inl K)), (b 8, .inl (cI, 4, .inl Wt)), (b 9, .inr (5, [.ref (b 1), .int rc, .ref (b 10), .ref (b 11)])), (b 10, .inl (cI, 61, .inl RB)), (b 11, .inl (cI, 61, .inl RE)), (b 12, .inr (4, [.ref (b 1), .int p1, .int p2])), (b 13, .inr (0, [.ref (b 1), .ref (b 8), .ref (b 12)])), (b 14, .inr (3, [.ref (b 1), .ref (b 8), .ref (b 15)])), (b 15, .inl (cI, 4, .inl LA)), (b 16, .inr (1, [.ref (b 1), .ref (b 14), .ref (b 17), .int vs, .ref kn])), (b 17, .inl (cI, 4, .inl PL)), (kn, .inl (cI, kl, .inl KN)), (b 19, .inr (2, [.ref (b 1), .ref (b 14), .ref (b 20)])), (b 20, .inl (cI, 60, .inl CH))]
abbrev SS : Type := Nat × (Nat → Int32) × (Nat → Int32) × (Nat → Int32) × (Nat → Int32) × (Nat → Int32) × (Nat → Nat)
abbrev XJ : Type := (Nat → Nat) × Int32 × (Nat → Int32) × (Nat → Int32) × Int32 × Int32 × (Nat → Int32) × Int32 × (Nat → Int32) × Nat × Nat × (Nat → Int32) × (Nat → Int32)
abbrev MJ : Type := (Nat → Int32) × (Nat → Int32) × (Nat → Int32)
abbrev xWu (cI : ClassId) (b : Nat → Nat) (u : SS) (j : XJ) : va_W := xW cI b (nI u.1) u.2.1 u.2.2.1 u.2.2.2.1 u.2.2.2.2.1 (fun i => nI (u.2.2.2.2.2.2 i)) (fun i => nI (j.1 i)) u.2.2.2.2.2.1 j.2.1 j.2.2.1 j.2.2.2.1 j.2.2.2.2.1 j.2.2.2.2.2.1 j.2.2.2.2.2.2.1 j.2.2.2.2.2.2.2.1 j.2.2.2.2.2.2.2.2.1 j.2.2.2.2.2.2.2.2.2.1 j.2.2.2.2.2.2.2.2.2.2.1 j.2.2.2.2.2.2.2.2.2.2.2.1 j.2.2.2.2.2.2.2.2.2.2.2.2
abbrev mWu (cI : ClassId) (a : Nat → Nat) (u : SS) (j : MJ) : va_W := mW cI a (nI u.1) u.2.1 u.2.2.1 u.2.2.2.1 u.2.2.2.2.1 u.2.2.2.2.2.1 (fun i => nI (u.2.2.2.2.2.2 i)) j.1 j.2.1 j.2.2
set_option maxHeartbeats 4000000 in
set_option maxRecDepth 100000 in
theorem c_X6_has (l : Launch) (dC : Nat → ClassId) (dI : Nat → Nat → Nat) (cI : ClassId) (b : Nat → Nat) (n : Nat) (F T P V : Nat → Int32) (o kr : Nat → Nat) (hn : n ≤ 60) (ho : ∀ j, o j < 60) (x : Int32) : Met l yX6_has wsX6_has ({ frames := 1, cells := 0, slots := 0, locals := 22 } : Room) (va_Pc [.ref (b 1), .int x] (fun U => va_P (dC, dI) vwCl (sW cI b (nI n) F T P V (fun j => nI (o j)) (fun j => nI (kr j))) U.heap ∧ va_K (dC, dI) vwCl [(cI, .int)] U ∧ va_Nw (.methodLinkNest RX6 34 yX7_within RX7) U)) (vp_Si (fun r => r = b2i (ixB x n))) 0 0 (fun _ => False) := by
  refine Met.ofW (cc := cX6_has) (maxL := 2) (ret := (some .boolean)) (by decide) rfl ?_
  intro p e s m args below meth c s₁ B hml hv
  obtain ⟨rfl, hP, hK, hN0⟩ := hv
  have hx := B.exec
  have hb := B.bytes
  have hr := B.returns
  have hts := atoms_spec (ws := wsX6_has) B.pre
  have hown : s.vm.findClass RX6 = some m.cls := findClass_of_methodNamed B.named
  have hlocks := B.notSynchronized
  have i_X6 : ∀ w ∈ u_ws RX6 TX6 7, w ∈ wsX6_has := by decide +kernel
  have k_0 := hts (.fieldLink RX6 30 "VoiceRows$Score" "count" "I") (by decide +kernel)
  have hl := lv_entry ([.ref (b 1), .int x]) (n := 2) (Nat.le_of_ble_eq_true rfl)
  rw [lg_entry_eq]
  generalize (lg_sl ([.ref (b 1), .int x]) ++ List.replicate (2 - (lg_sl ([.ref (b 1), .int x])).length) Slot.unset).toArray = ls at hl ⊢
  have hl : lv_has ls 2 [(0, .ref (b 1)), (1, .int x)] := hl
  refine lv_iload_n hx hb dX6_has_0 rfl (lv_at hl 1 rfl) ?_
  refine lv_iconst (v := 0) hx hb dX6_has_1 (by decide) ?_
  refine lv_aload_n hx hb dX6_has_2 rfl (lv_at hl 0 rfl) ?_
  refine va_get (D := (dC, dI)) (ci := 6) (v := .int (nI n)) (C := RX6) (T := TX6) (N := 7) hx hb hts i_X6 hown hK hP 0 rfl rfl 0 (by decide) k_0 (fun _ h9 => h9) rfl dX6_has_3 ?_
  refine lv_iconst (v := 1) hx hb dX6_has_6 (by decide) ?_
  refine lv_isub hx hb dX6_has_7 ?_
  refine vp_callSi (gk_run (va_runSN (As := [.int x, .int 0, .int ((nI n) - 1)]) (rest := []) ⟨hx, hb, hml, hown, hts⟩ (c_X7_within l x 0 (nI n - 1)) ⟨va_cnB 3 hts gX6_has_X7_within_n34 rfl rfl rfl hN0 (hts (.initialized RX7) (by decide +kernel)) (by decide +kernel) ⟨Nat.le_of_ble_eq_true rfl, Nat.le_of_ble_eq_true rfl⟩, hts (.static yX7_within) (by decide +kernel), trivial⟩ ⟨gk_fbT, fun U hU hW => ⟨rfl, trivial⟩⟩ rfl rfl hl.1 rfl (lv_room (Nat.le_of_ble_eq_true rfl)) dX6_has_8 ⟨Nat.zero_le _, Nat.zero_le _⟩)) (fun r_1 er_1 => ?_)
  subst er_1
  exact W.zret (v := b2i (decide (0 ≤ x) && decide (x ≤ nI n - 1))) hx hb hr (b2i_nar _) (fun t ht _ => ⟨_, rfl, by exact has_b (by omega), ht⟩) (fun q h => by cases h) dX6_has_11

set_option maxHeartbeats 4000000 in
set_option maxRecDepth 100000 in
theorem c_X6_change (l : Launch) (dC : Nat → ClassId) (dI : Nat → Nat → Nat) (cI : ClassId) (sz : Nat) (b : Nat → Nat) (n : Nat) (F T P V : Nat → Int32) (o kr : Nat → Nat) (hn : n ≤ 60) (ho : ∀ j, o j < 60) (hp : prm n o) (x : Nat) (hx0 : x < 60) (f tv q : Int32) : Met l yX6_change wsX6_change ({ frames := 2, cells := 0, slots := 0, locals := 45 } : Room) (va_Pc [.ref (b 1), .int (nI x), .int f, .int tv, .int q] (fun U => U.heap.size = sz ∧ va_P (dC, dI) vwCl (sW cI b (nI n) F T P V (fun j => nI (o j)) (fun j => nI (kr j))) U.heap ∧ va_K (dC, dI) vwCl [(cI, .int)] U ∧ va_D (fun _ => True) (sW cI b (nI n) F T P V (fun j => nI (o j)) (fun j => nI (kr j))))) (va_Qv (fun u : (Nat → Nat) × (Nat → Nat) => (∀ j, u.1 j < 60) ∧ prm n u.1 ∧ srt (upd F x f) (upd P x q) n u.1 ∧ (∀ j, n ≤ j → u.1 j = o j) ∧ (∀ j, j < n → u.2 (u.1 j) = j)) (fun u t => va_P (dC, dI) vwCl (sW cI b (nI n) (upd F x f) (upd T x tv) (upd P x q) V (fun j => nI (u.1 j)) (fun j => nI (u.2 j))) t.heap ∧ va_K (dC, dI) vwCl [(cI, .int)] t ∧ va_D (va_A (sW cI b (nI n) F T P V (fun j => nI (o j)) (fun j => nI (kr j))) sz) (sW cI b (nI n) (upd F x f) (upd T x tv) (upd P x q) V (fun j => nI (u.1 j)) (fun j => nI (u.2 j)))) (va_A (sW cI b (nI n) F T P V (fun j => nI (o j)) (fun j => nI (kr j))) sz)) 0 0 (va_A (sW cI b (nI n) F T P V (fun j => nI (o j)) (fun j => nI (kr j))) sz) := by
  refine Met.ofW (cc := cX6_change) (maxL := 5) (ret := none) (by decide) rfl ?_
  intro p e s m args below meth c s₁ B hml hv
  obtain ⟨rfl, hsz, hP, hK, hD0⟩ := hv
  have hx := B.exec
  have hb := B.bytes
  have hr := B.returns
  have hts := atoms_spec (ws := wsX6_change) B.pre
  have hown : s.vm.findClass RX6 = some m.cls := findClass_of_methodNamed B.named
  have hlocks := B.notSynchronized
  subst hsz
  have hD := hD0.self (sz := s.heap.size)
  generalize hAe : va_A (sW cI b (nI n) F T P V (fun j => nI (o j)) (fun j => nI (kr j))) s.heap.size = A at hD ⊢
  have hA : ∀ q : Nat, s.heap.size ≤ q → A q := fun q h => by rw [← hAe]; exact Or.inr h
  have hS : va_S A s.heap s.heap [] := va_S.rf
  have i_X6 : ∀ w ∈ u_ws RX6 TX6 7, w ∈ wsX6_change := by decide +kernel
  have k_0 := hts (.fieldLink RX6 9 "VoiceRows$Score" "from" "[I") (by decide +kernel)
  have k_1 := hts (.fieldLink RX6 15 "VoiceRows$Score" "to" "[I") (by decide +kernel)
  have k_2 := hts (.fieldLink RX6 18 "VoiceRows$Score" "pitch" "[I") (by decide +kernel)
  have hl := lv_entry ([.ref (b 1), .int (nI x), .int f, .int tv, .int q]) (n := 5) (Nat.le_of_ble_eq_true rfl)
  rw [lg_entry_eq]
  generalize (lg_sl ([.ref (b 1), .int (nI x), .int f, .int tv, .int q]) ++ List.replicate (5 - (lg_sl ([.ref (b 1), .int (nI x), .int f, .int tv, .int q])).length) Slot.unset).toArray = ls at hl ⊢
  have hl : lv_has ls 5 [(0, .ref (b 1)), (1, .int (nI x)), (2, .int f), (3, .int tv), (4, .int q)] := hl
  refine lv_aload_n hx hb dX6_change_0 rfl (lv_at hl 0 rfl) ?_
  refine va_get (D := (dC, dI)) (ci := 6) (v := .ref (b 2)) (C := RX6) (T := TX6) (N := 7) hx hb hts i_X6 hown hK hP 0 rfl rfl 1 (by decide) k_0 (fun _ h9 => h9) rfl dX6_change_1 ?_
  refine lv_iload_n hx hb dX6_change_4 rfl (lv_at hl 1 rfl) ?_
  refine lv_iload_n hx hb dX6_change_5 rfl (lv_at hl 2 rfl) ?_
  refine gk_st hx hb hK hP hD hS 1 0 rfl rfl x (by omega) (by omega) dX6_change_6 (fun H locs hP hD hS => ?_)
  have hP : va_P (dC, dI) vwCl [(b 1, .inr (6, [.int (nI n), .ref (b 2), .ref (b 3), .ref (b 4), .ref (b 5), .ref (b 6), .ref (b 7)])), (b 2, .inl (cI, 60, .inl (upd F x f))), (b 3, .inl (cI, 60, .inl T)), (b 4, .inl (cI, 60, .inl P)), (b 5, .inl (cI, 60, .inl V)), (b 6, .inl (cI, 60, .inl (fun j => nI (o j)))), (b 7, .inl (cI, 60, .inl (fun j => nI (kr j))))] H := hP
  have hD : va_D A [(b 1, .inr (6, [.int (nI n), .ref (b 2), .ref (b 3), .ref (b 4), .ref (b 5), .ref (b 6), .ref (b 7)])), (b 2, .inl (cI, 60, .inl (upd F x f))), (b 3, .inl (cI, 60, .inl T)), (b 4, .inl (cI, 60, .inl P)), (b 5, .inl (cI, 60, .inl V)), (b 6, .inl (cI, 60, .inl (fun j => nI (o j)))), (b 7, .inl (cI, 60, .inl (fun j => nI (kr j))))] := hD
  refine lv_aload_n hx hb dX6_change_7 rfl (lv_at hl 0 rfl) ?_
  refine va_get (D := (dC, dI)) (ci := 6) (v := .ref (b 3)) (C := RX6) (T := TX6) (N := 7) hx hb hts i_X6 hown hK hP 0 rfl rfl 2 (by decide) k_1 (fun _ h9 => h9) rfl dX6_change_8 ?_
  refine lv_iload_n hx hb dX6_change_11 rfl (lv_at hl 1 rfl) ?_
  refine lv_iload_n hx hb dX6_change_12 rfl (lv_at hl 3 rfl) ?_
  refine gk_st hx hb hK hP hD hS 2 0 rfl rfl x (by omega) (by omega) dX6_change_13 (fun H locs hP hD hS => ?_)
  have hP : va_P (dC, dI) vwCl [(b 1, .inr (6, [.int (nI n), .ref (b 2), .ref (b 3), .ref (b 4), .ref (b 5), .ref (b 6), .ref (b 7)])), (b 2, .inl (cI, 60, .inl (upd F x f))), (b 3, .inl (cI, 60, .inl (upd T x tv))), (b 4, .inl (cI, 60, .inl P)), (b 5, .inl (cI, 60, .inl V)), (b 6, .inl (cI, 60, .inl (fun j => nI (o j)))), (b 7, .inl (cI, 60, .inl (fun j => nI (kr j))))] H := hP
  have hD : va_D A [(b 1, .inr (6, [.int (nI n), .ref (b 2), .ref (b 3), .ref (b 4), .ref (b 5), .ref (b 6), .ref (b 7)])), (b 2, .inl (cI, 60, .inl (upd F x f))), (b 3, .inl (cI, 60, .inl (upd T x tv))), (b 4, .inl (cI, 60, .inl P)), (b 5, .inl (cI, 60, .inl V)), (b 6, .inl (cI, 60, .inl (fun j => nI (o j)))), (b 7, .inl (cI, 60, .inl (fun j => nI (kr j))))] := hD
  refine lv_aload_n hx hb dX6_change_14 rfl (lv_at hl 0 rfl) ?_
  refine va_get (D := (dC, dI)) (ci := 6) (v := .ref (b 4)) (C := RX6) (T := TX6) (N := 7) hx hb hts i_X6 hown hK hP 0 rfl rfl 3 (by decide) k_2 (fun _ h9 => h9) rfl dX6_change_15 ?_
  refine lv_iload_n hx hb dX6_change_18 rfl (lv_at hl 1 rfl) ?_
  refine lv_iload hx hb dX6_change_19 (lv_at hl 4 rfl) ?_
  refine gk_st hx hb hK hP hD hS 3 0 rfl rfl x (by omega) (by omega) dX6_change_21 (fun H locs hP hD hS => ?_)
  have hP : va_P (dC, dI) vwCl [(b 1, .inr (6, [.int (nI n), .ref (b 2), .ref (b 3), .ref (b 4), .ref (b 5), .ref (b 6), .ref (b 7)])), (b 2, .inl (cI, 60, .inl (upd F x f))), (b 3, .inl (cI, 60, .inl (upd T x tv))), (b 4, .inl (cI, 60, .inl (upd P x q))), (b 5, .inl (cI, 60, .inl V)), (b 6, .inl (cI, 60, .inl (fun j => nI (o j)))), (b 7, .inl (cI, 60, .inl (fun j => nI (kr j))))] H := hP
  have hD : va_D A [(b 1, .inr (6, [.int (nI n), .ref (b 2), .ref (b 3), .ref (b 4), .ref (b 5), .ref (b 6), .ref (b 7)])), (b 2, .inl (cI, 60, .inl (upd F x f))), (b 3, .inl (cI, 60, .inl (upd T x tv))), (b 4, .inl (cI, 60, .inl (upd P x q))), (b 5, .inl (cI, 60, .inl V)), (b 6, .inl (cI, 60, .inl (fun j => nI (o j)))), (b 7, .inl (cI, 60, .inl (fun j => nI (kr j))))] := hD
  refine lv_aload_n hx hb dX6_change_22 rfl (lv_at hl 0 rfl) ?_
  have hPc := hP.sub (ws' := [(b 1, .inr (6, [.int (nI n), .ref (b 2), .ref (b 3), .ref (b 4), .ref (b 5), .ref (b 6), .ref (b 7)])), (b 2, .inl (cI, 60, .inl (upd F x f))), (b 3, .inl (cI, 60, .inl (upd T x tv))), (b 4, .inl (cI, 60, .inl (upd P x q))), (b 5, .inl (cI, 60, .inl V)), (b 6, .inl (cI, 60, .inl (fun j => nI (o j)))), (b 7, .inl (cI, 60, .inl (fun j => nI (kr j))))]) [0, 1, 2, 3, 4, 5, 6] rfl
  have hDc := hD.sub (ws' := [(b 1, .inr (6, [.int (nI n), .ref (b 2), .ref (b 3), .ref (b 4), .ref (b 5), .ref (b 6), .ref (b 7)])), (b 2, .inl (cI, 60, .inl (upd F x f))), (b 3, .inl (cI, 60, .inl (upd T x tv))), (b 4, .inl (cI, 60, .inl (upd P x q))), (b 5, .inl (cI, 60, .inl V)), (b 6, .inl (cI, 60, .inl (fun j => nI (o j)))), (b 7, .inl (cI, 60, .inl (fun j => nI (kr j))))]) [0, 1, 2, 3, 4, 5, 6] (by decide) rfl
  have hFc := va_free (wc := [(b 1, .inr (6, [.int (nI n), .ref (b 2), .ref (b 3), .ref (b 4), .ref (b 5), .ref (b 6), .ref (b 7)])), (b 2, .inl (cI, 60, .inl (upd F x f))), (b 3, .inl (cI, 60, .inl (upd T x tv))), (b 4, .inl (cI, 60, .inl (upd P x q))), (b 5, .inl (cI, 60, .inl V)), (b 6, .inl (cI, 60, .inl (fun j => nI (o j)))), (b 7, .inl (cI, 60, .inl (fun j => nI (kr j))))]) hD hS hA [0, 1, 2, 3, 4, 5, 6] rfl
  refine va_callv (va_runV (As := []) (rest := []) ⟨hx, hb, hml, hown, hts⟩ (c_X6_sortOrder l dC dI cI H.size b n (upd F x f) (upd T x tv) (upd P x q) V o kr hn ho hp) (cwV 0 hts gX6_change_X6_sortOrder rfl rfl rfl (by decide +kernel) ⟨Nat.le_of_ble_eq_true rfl, Nat.le_of_ble_eq_true rfl⟩) ⟨gk_fbW, va_recv hK hPc (ci := 6) (q0 := 0) rfl rfl, fun U hU hW => ⟨rfl, by rw [hU], by rw [hU]; exact hPc, va_K.moved hW.alike hK, hDc.weaken (fun _ _ _ _ => trivial)⟩⟩ rfl rfl hl.1 rfl (lv_room (Nat.le_of_ble_eq_true rfl)) dX6_change_23 ⟨Nat.zero_le _, Nat.zero_le _⟩) hS (fun q _ h => hFc q h) hFc (fun u t H1 locs ht hvm hw hB hz1 hk1 hS => ?_)
  obtain ⟨o1, k1⟩ := u
  obtain ⟨hP1, hK1, hD1⟩ := hB
  rw [ht] at hP1
  try dsimp only at hw
  obtain ⟨hP, hD⟩ := va_join (wr := []) (w1 := [(b 1, .inr (6, [.int (nI n), .ref (b 2), .ref (b 3), .ref (b 4), .ref (b 5), .ref (b 6), .ref (b 7)])), (b 2, .inl (cI, 60, .inl (upd F x f))), (b 3, .inl (cI, 60, .inl (upd T x tv))), (b 4, .inl (cI, 60, .inl (upd P x q))), (b 5, .inl (cI, 60, .inl V)), (b 6, .inl (cI, 60, .inl (fun j => nI (o1 j)))), (b 7, .inl (cI, 60, .inl (fun j => nI (k1 j))))]) hP hD [0, 1, 2, 3, 4, 5, 6] [] rfl rfl (by decide) (by decide) hk1 hFc hP1 hD1
  generalize H1 = H at hP hS ⊢
  have hP : va_P (dC, dI) vwCl [(b 1, .inr (6, [.int (nI n), .ref (b 2), .ref (b 3), .ref (b 4), .ref (b 5), .ref (b 6), .ref (b 7)])), (b 2, .inl (cI, 60, .inl (upd F x f))), (b 3, .inl (cI, 60, .inl (upd T x tv))), (b 4, .inl (cI, 60, .inl (upd P x q))), (b 5, .inl (cI, 60, .inl V)), (b 6, .inl (cI, 60, .inl (fun j => nI (o1 j)))), (b 7, .inl (cI, 60, .inl (fun j => nI (k1 j))))] H := hP
  have hD : va_D A [(b 1, .inr (6, [.int (nI n), .ref (b 2), .ref (b 3), .ref (b 4), .ref (b 5), .ref (b 6), .ref (b 7)])), (b 2, .inl (cI, 60, .inl (upd F x f))), (b 3, .inl (cI, 60, .inl (upd T x tv))), (b 4, .inl (cI, 60, .inl (upd P x q))), (b 5, .inl (cI, 60, .inl V)), (b 6, .inl (cI, 60, .inl (fun j => nI (o1 j)))), (b 7, .inl (cI, 60, .inl (fun j => nI (k1 j))))] := hD
  exact W.vret hx hb hr (fun t ht hW => ⟨⟨(o1, k1), rfl, (by exact hw), by rw [ht]; exact hP, va_K.moved hW.alike hK, hD⟩, hS.F ht⟩) hS.2.2 dX6_change_26

set_option maxHeartbeats 4000000 in
set_option maxRecDepth 100000 in
theorem c_X6_add (l : Launch) (dC : Nat → ClassId) (dI : Nat → Nat → Nat) (cI : ClassId) (sz : Nat) (b : Nat → Nat) (n : Nat) (F T P V : Nat → Int32) (o kr : Nat → Nat) (hn : n ≤ 60) (ho : ∀ j, o j < 60) (hp : prm n o) (hn1 : n < 60) (f tt q : Int32) : Met l yX6_add wsX6_add ({ frames := 3, cells := 0, slots := 0, locals := 69 } : Room) (va_Pc [.ref (b 1), .int f, .int tt, .int q] (fun U => U.heap.size = sz ∧ va_P (dC, dI) vwCl (sW cI b (nI n) F T P V (fun j => nI (o j)) (fun j => nI (kr j))) U.heap ∧ va_K (dC, dI) vwCl [(cI, .int)] U ∧ va_D (fun _ => True) (sW cI b (nI n) F T P V (fun j => nI (o j)) (fun j => nI (kr j))))) (va_Qi (fun (r : Int32) (u : (Nat → Nat) × (Nat → Nat)) => r = nI n ∧ (∀ j, u.1 j < 60) ∧ prm (n + 1) u.1 ∧ srt (upd F n f) (upd P n q) (n + 1) u.1 ∧ (∀ j, n + 1 ≤ j → u.1 j = o j) ∧ (∀ j, j < n + 1 → u.2 (u.1 j) = j)) (fun u t => va_P (dC, dI) vwCl (sW cI b (nI (n + 1)) (upd F n f) (upd T n tt) (upd P n q) (upd V n (-1)) (fun j => nI (u.1 j)) (fun j => nI (u.2 j))) t.heap ∧ va_K (dC, dI) vwCl [(cI, .int)] t ∧ va_D (va_A (sW cI b (nI n) F T P V (fun j => nI (o j)) (fun j => nI (kr j))) sz) (sW cI b (nI (n + 1)) (upd F n f) (upd T n tt) (upd P n q) (upd V n (-1)) (fun j => nI (u.1 j)) (fun j => nI (u.2 j)))) (va_A (sW cI b (nI n) F T P V (fun j => nI (o j)) (fun j => nI (kr j))) sz)) 0 0 (va_A (sW cI b (nI n) F T P V (fun j => nI (o j)) (fun j => nI (kr j))) sz) := by
  refine Met.ofW (cc := cX6_add) (maxL := 5) (ret := (some .int)) (by decide) rfl ?_
  intro p e s m args below meth c s₁ B hml hv
  obtain ⟨rfl, hsz, hP, hK, hD0⟩ := hv
  have hx := B.exec
  have hb := B.bytes
  have hr := B.returns
  have hts := atoms_spec (ws := wsX6_add) B.pre
  have hown : s.vm.findClass RX6 = some m.cls := findClass_of_methodNamed B.named
  have hlocks := B.notSynchronized
  subst hsz
  have hD := hD0.self (sz := s.heap.size)
  generalize hAe : va_A (sW cI b (nI n) F T P V (fun j => nI (o j)) (fun j => nI (kr j))) s.heap.size = A at hD ⊢
  have hA : ∀ q : Nat, s.heap.size ≤ q → A q := fun q h => by rw [← hAe]; exact Or.inr h
  have hS : va_S A s.heap s.heap [] := va_S.rf
  have i_X6 : ∀ w ∈ u_ws RX6 TX6 7, w ∈ wsX6_add := by decide +kernel
  have k_0 := hts (.fieldLink RX6 30 "VoiceRows$Score" "count" "I") (by decide +kernel)
  have k_1 := hts (.fieldLink RX6 21 "VoiceRows$Score" "voice" "[I") (by decide +kernel)
  have k_2 := hts (.fieldLink RX6 24 "VoiceRows$Score" "order" "[I") (by decide +kernel)
  have hl := lv_entry ([.ref (b 1), .int f, .int tt, .int q]) (n := 5) (Nat.le_of_ble_eq_true rfl)
  rw [lg_entry_eq]
  generalize (lg_sl ([.ref (b 1), .int f, .int tt, .int q]) ++ List.replicate (5 - (lg_sl ([.ref (b 1), .int f, .int tt, .int q])).length) Slot.unset).toArray = ls at hl ⊢
  have hl : lv_has ls 5 [(0, .ref (b 1)), (1, .int f), (2, .int tt), (3, .int q)] := hl
  refine lv_aload_n hx hb dX6_add_0 rfl (lv_at hl 0 rfl) ?_
  refine va_get (D := (dC, dI)) (ci := 6) (v := .int (nI n)) (C := RX6) (T := TX6) (N := 7) hx hb hts i_X6 hown hK hP 0 rfl rfl 0 (by decide) k_0 (fun _ h9 => h9) rfl dX6_add_1 ?_
  refine lv_istore (lv' := [(4, .int (nI n)), (0, .ref (b 1)), (1, .int f), (2, .int tt), (3, .int q)]) hx hb dX6_add_4 hl (by decide) rfl (fun ls hl => ?_)
  refine lv_aload_n hx hb dX6_add_6 rfl (lv_at hl 1 rfl) ?_
  refine lv_dup hx hb dX6_add_7 rfl ?_
  refine va_get (D := (dC, dI)) (ci := 6) (v := .int (nI n)) (C := RX6) (T := TX6) (N := 7) hx hb hts i_X6 hown hK hP 0 rfl rfl 0 (by decide) k_0 (fun _ h9 => h9) rfl dX6_add_8 ?_
  refine lv_iconst (v := 1) hx hb dX6_add_11 (by decide) ?_
  refine lv_iadd hx hb dX6_add_12 ?_
  refine gk_top (y := nI (n + 1)) (gk_addl _ _ _ (by decide)) ?_
  refine va_put (D := (dC, dI)) (ci := 6) (v := .int (nI (n + 1))) (ty := .int) (C := RX6) (T := TX6) (N := 7) hx hb hts i_X6 tyX6 tyX6_ok nmX6 hown hK hP hD hS 0 rfl rfl 0 (by decide) k_0 (fun _ h9 => h9) rfl (by decide +kernel) rfl rfl (Nat.le_of_ble_eq_true rfl) dX6_add_13 (fun H locs hP hD hS => ?_)
  have hP : va_P (dC, dI) vwCl [(b 1, .inr (6, [.int (nI (n + 1)), .ref (b 2), .ref (b 3), .ref (b 4), .ref (b 5), .ref (b 6), .ref (b 7)])), (b 2, .inl (cI, 60, .inl F)), (b 3, .inl (cI, 60, .inl T)), (b 4, .inl (cI, 60, .inl P)), (b 5, .inl (cI, 60, .inl V)), (b 6, .inl (cI, 60, .inl (fun j => nI (o j)))), (b 7, .inl (cI, 60, .inl (fun j => nI (kr j))))] H := hP
  have hD : va_D A [(b 1, .inr (6, [.int (nI (n + 1)), .ref (b 2), .ref (b 3), .ref (b 4), .ref (b 5), .ref (b 6), .ref (b 7)])), (b 2, .inl (cI, 60, .inl F)), (b 3, .inl (cI, 60, .inl T)), (b 4, .inl (cI, 60, .inl P)), (b 5, .inl (cI, 60, .inl V)), (b 6, .inl (cI, 60, .inl (fun j => nI (o j)))), (b 7, .inl (cI, 60, .inl (fun j => nI (kr j))))] := hD
  refine lv_aload_n hx hb dX6_add_16 rfl (lv_at hl 1 rfl) ?_
  refine va_get (D := (dC, dI)) (ci := 6) (v := .ref (b 5)) (C := RX6) (T := TX6) (N := 7) hx hb hts i_X6 hown hK hP 0 rfl rfl 4 (by decide) k_1 (fun _ h9 => h9) rfl dX6_add_17 ?_
  refine lv_iload hx hb dX6_add_20 (lv_at hl 0 rfl) ?_
  refine lv_iconst (v := (-1)) hx hb dX6_add_22 (by decide) ?_
  refine gk_st hx hb hK hP hD hS 4 0 rfl rfl n (by omega) (by omega) dX6_add_23 (fun H locs hP hD hS => ?_)
  have hP : va_P (dC, dI) vwCl [(b 1, .inr (6, [.int (nI (n + 1)), .ref (b 2), .ref (b 3), .ref (b 4), .ref (b 5), .ref (b 6), .ref (b 7)])), (b 2, .inl (cI, 60, .inl F)), (b 3, .inl (cI, 60, .inl T)), (b 4, .inl (cI, 60, .inl P)), (b 5, .inl (cI, 60, .inl (upd V n (-1)))), (b 6, .inl (cI, 60, .inl (fun j => nI (o j)))), (b 7, .inl (cI, 60, .inl (fun j => nI (kr j))))] H := hP
  have hD : va_D A [(b 1, .inr (6, [.int (nI (n + 1)), .ref (b 2), .ref (b 3), .ref (b 4), .ref (b 5), .ref (b 6), .ref (b 7)])), (b 2, .inl (cI, 60, .inl F)), (b 3, .inl (cI, 60, .inl T)), (b 4, .inl (cI, 60, .inl P)), (b 5, .inl (cI, 60, .inl (upd V n (-1)))), (b 6, .inl (cI, 60, .inl (fun j => nI (o j)))), (b 7, .inl (cI, 60, .inl (fun j => nI (kr j))))] := hD
  refine lv_aload_n hx hb dX6_add_24 rfl (lv_at hl 1 rfl) ?_
  refine va_get (D := (dC, dI)) (ci := 6) (v := .ref (b 6)) (C := RX6) (T := TX6) (N := 7) hx hb hts i_X6 hown hK hP 0 rfl rfl 5 (by decide) k_2 (fun _ h9 => h9) rfl dX6_add_25 ?_
  refine lv_iload hx hb dX6_add_28 (lv_at hl 0 rfl) ?_
  refine lv_iload hx hb dX6_add_30 (lv_at hl 0 rfl) ?_
  refine gk_st hx hb hK hP hD hS 5 0 rfl rfl n (by omega) (by omega) dX6_add_32 (fun H locs hP hD hS => ?_)
  have hP : va_P (dC, dI) vwCl [(b 1, .inr (6, [.int (nI (n + 1)), .ref (b 2), .ref (b 3), .ref (b 4), .ref (b 5), .ref (b 6), .ref (b 7)])), (b 2, .inl (cI, 60, .inl F)), (b 3, .inl (cI, 60, .inl T)), (b 4, .inl (cI, 60, .inl P)), (b 5, .inl (cI, 60, .inl (upd V n (-1)))), (b 6, .inl (cI, 60, .inl (upd (fun j => nI (o j)) n (nI n)))), (b 7, .inl (cI, 60, .inl (fun j => nI (kr j))))] H := hP
  have hD : va_D A [(b 1, .inr (6, [.int (nI (n + 1)), .ref (b 2), .ref (b 3), .ref (b 4), .ref (b 5), .ref (b 6), .ref (b 7)])), (b 2, .inl (cI, 60, .inl F)), (b 3, .inl (cI, 60, .inl T)), (b 4, .inl (cI, 60, .inl P)), (b 5, .inl (cI, 60, .inl (upd V n (-1)))), (b 6, .inl (cI, 60, .inl (upd (fun j => nI (o j)) n (nI n)))), (b 7, .inl (cI, 60, .inl (fun j => nI (kr j))))] := hD
  have eR : upd (fun j => nI (o j)) n (nI n) = (fun j => nI (updN o n n j)) := upd_nI
  rw [eR] at hP hD
  have hP : va_P (dC, dI) vwCl [(b 1, .inr (6, [.int (nI (n + 1)), .ref (b 2), .ref (b 3), .ref (b 4), .ref (b 5), .ref (b 6), .ref (b 7)])), (b 2, .inl (cI, 60, .inl F)), (b 3, .inl (cI, 60, .inl T)), (b 4, .inl (cI, 60, .inl P)), (b 5, .inl (cI, 60, .inl (upd V n (-1)))), (b 6, .inl (cI, 60, .inl (fun j => nI (updN o n n j)))), (b 7, .inl (cI, 60, .inl (fun j => nI (kr j))))] H := hP
  have hD : va_D A [(b 1, .inr (6, [.int (nI (n + 1)), .ref (b 2), .ref (b 3), .ref (b 4), .ref (b 5), .ref (b 6), .ref (b 7)])), (b 2, .inl (cI, 60, .inl F)), (b 3, .inl (cI, 60, .inl T)), (b 4, .inl (cI, 60, .inl P)), (b 5, .inl (cI, 60, .inl (upd V n (-1)))), (b 6, .inl (cI, 60, .inl (fun j => nI (updN o n n j)))), (b 7, .inl (cI, 60, .inl (fun j => nI (kr j))))] := hD
  refine lv_aload_n hx hb dX6_add_33 rfl (lv_at hl 1 rfl) ?_
  refine lv_iload hx hb dX6_add_34 (lv_at hl 0 rfl) ?_
  refine lv_iload_n hx hb dX6_add_36 rfl (lv_at hl 2 rfl) ?_
  refine lv_iload_n hx hb dX6_add_37 rfl (lv_at hl 3 rfl) ?_
  refine lv_iload_n hx hb dX6_add_38 rfl (lv_at hl 4 rfl) ?_
  have hPc := hP.sub (ws' := [(b 1, .inr (6, [.int (nI (n + 1)), .ref (b 2), .ref (b 3), .ref (b 4), .ref (b 5), .ref (b 6), .ref (b 7)])), (b 2, .inl (cI, 60, .inl F)), (b 3, .inl (cI, 60, .inl T)), (b 4, .inl (cI, 60, .inl P)), (b 5, .inl (cI, 60, .inl (upd V n (-1)))), (b 6, .inl (cI, 60, .inl (fun j => nI (updN o n n j)))), (b 7, .inl (cI, 60, .inl (fun j => nI (kr j))))]) [0, 1, 2, 3, 4, 5, 6] rfl
  have hDc := hD.sub (ws' := [(b 1, .inr (6, [.int (nI (n + 1)), .ref (b 2), .ref (b 3), .ref (b 4), .ref (b 5), .ref (b 6), .ref (b 7)])), (b 2, .inl (cI, 60, .inl F)), (b 3, .inl (cI, 60, .inl T)), (b 4, .inl (cI, 60, .inl P)), (b 5, .inl (cI, 60, .inl (upd V n (-1)))), (b 6, .inl (cI, 60, .inl (fun j => nI (updN o n n j)))), (b 7, .inl (cI, 60, .inl (fun j => nI (kr j))))]) [0, 1, 2, 3, 4, 5, 6] (by decide) rfl
  have hFc := va_free (wc := [(b 1, .inr (6, [.int (nI (n + 1)), .ref (b 2), .ref (b 3), .ref (b 4), .ref (b 5), .ref (b 6), .ref (b 7)])), (b 2, .inl (cI, 60, .inl F)), (b 3, .inl (cI, 60, .inl T)), (b 4, .inl (cI, 60, .inl P)), (b 5, .inl (cI, 60, .inl (upd V n (-1)))), (b 6, .inl (cI, 60, .inl (fun j => nI (updN o n n j)))), (b 7, .inl (cI, 60, .inl (fun j => nI (kr j))))]) hD hS hA [0, 1, 2, 3, 4, 5, 6] rfl
  refine va_callv (va_runV (As := [.int (nI n), .int f, .int tt, .int q]) (rest := []) ⟨hx, hb, hml, hown, hts⟩ (c_X6_change l dC dI cI H.size b (n + 1) F T P (upd V n (-1)) (updN o n n) kr (by omega) (updN_lt ho (by omega)) (prm_add hp) n (by omega) f tt q) (cwV 4 hts gX6_add_X6_change rfl rfl rfl (by decide +kernel) ⟨Nat.le_of_ble_eq_true rfl, Nat.le_of_ble_eq_true rfl⟩) ⟨gk_fbW, va_recv hK hPc (ci := 6) (q0 := 0) rfl rfl, fun U hU hW => ⟨rfl, by rw [hU], by rw [hU]; exact hPc, va_K.moved hW.alike hK, hDc.weaken (fun _ _ _ _ => trivial)⟩⟩ rfl rfl hl.1 rfl (lv_room (Nat.le_of_ble_eq_true rfl)) dX6_add_39 ⟨Nat.zero_le _, Nat.zero_le _⟩) hS (fun q _ h => hFc q h) hFc (fun u t H1 locs ht hvm hw hB hz1 hk1 hS => ?_)
  obtain ⟨o1, k1⟩ := u
  obtain ⟨hP1, hK1, hD1⟩ := hB
  rw [ht] at hP1
  try dsimp only at hw
  obtain ⟨hP, hD⟩ := va_join (wr := []) (w1 := [(b 1, .inr (6, [.int (nI (n + 1)), .ref (b 2), .ref (b 3), .ref (b 4), .ref (b 5), .ref (b 6), .ref (b 7)])), (b 2, .inl (cI, 60, .inl (upd F n f))), (b 3, .inl (cI, 60, .inl (upd T n tt))), (b 4, .inl (cI, 60, .inl (upd P n q))), (b 5, .inl (cI, 60, .inl (upd V n (-1)))), (b 6, .inl (cI, 60, .inl (fun j => nI (o1 j)))), (b 7, .inl (cI, 60, .inl (fun j => nI (k1 j))))]) hP hD [0, 1, 2, 3, 4, 5, 6] [] rfl rfl (by decide) (by decide) hk1 hFc hP1 hD1
  generalize H1 = H at hP hS ⊢
  have hP : va_P (dC, dI) vwCl [(b 1, .inr (6, [.int (nI (n + 1)), .ref (b 2), .ref (b 3), .ref (b 4), .ref (b 5), .ref (b 6), .ref (b 7)])), (b 2, .inl (cI, 60, .inl (upd F n f))), (b 3, .inl (cI, 60, .inl (upd T n tt))), (b 4, .inl (cI, 60, .inl (upd P n q))), (b 5, .inl (cI, 60, .inl (upd V n (-1)))), (b 6, .inl (cI, 60, .inl (fun j => nI (o1 j)))), (b 7, .inl (cI, 60, .inl (fun j => nI (k1 j))))] H := hP
  have hD : va_D A [(b 1, .inr (6, [.int (nI (n + 1)), .ref (b 2), .ref (b 3), .ref (b 4), .ref (b 5), .ref (b 6), .ref (b 7)])), (b 2, .inl (cI, 60, .inl (upd F n f))), (b 3, .inl (cI, 60, .inl (upd T n tt))), (b 4, .inl (cI, 60, .inl (upd P n q))), (b 5, .inl (cI, 60, .inl (upd V n (-1)))), (b 6, .inl (cI, 60, .inl (fun j => nI (o1 j)))), (b 7, .inl (cI, 60, .inl (fun j => nI (k1 j))))] := hD
  obtain ⟨w1, w2, w3, w4, w5⟩ := hw
  refine lv_iload hx hb dX6_add_42 (lv_at hl 0 rfl) ?_
  exact W.iret (v := nI n) hx hb hr (fun t ht hW => ⟨⟨_, (o1, k1), rfl, (by exact ⟨rfl, w1, w2, w3, fun j hj => (w4 j hj).trans (updN_n (by omega)), w5⟩), by rw [ht]; exact hP, va_K.moved hW.alike hK, hD⟩, hS.F ht⟩) hS.2.2 dX6_add_44
