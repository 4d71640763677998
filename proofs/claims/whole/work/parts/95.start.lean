theorem gk_len4 {args : Array Value} {s : State} {tm : Term} {fw : Nat} {cell : Cell} (hfe : tm.eval args s none [] s = some (.ref fw)) (hl : (Term.length tm).eval args s none [] s = some (.int 4)) (h1 : s.heap[fw]? = some cell) : cell.slots.size = 4 := by
  simp only [Term.eval, hfe, Option.bind_eq_bind, Option.bind_some] at hl
  cases hA : s.arrayAt? fw with
  | none =>
    rw [hA] at hl
    cases hl
  | some scr =>
    rw [hA] at hl
    simp only [Option.bind_some] at hl
    have hcb := (State.arrayAt?_spec hA).1
    rw [Option.some.inj (hcb.symm.trans h1)] at hl
    split at hl
    · rename_i hlt
      have h4 : Int32.ofNat cell.slots.size = 4 := Value.int.inj (Option.some.inj hl)
      have h5 := congrArg Int32.toInt h4
      rw [Int32.toInt_ofNat_of_lt hlt, tI4] at h5
      omega
    · cases hl
theorem gk_fbZI {av : List Value} {D : va_G} {cl : List vw_C} {ws : va_W} {tys : List (ClassId × FieldType)} {sz fw : Nat} {A B : Nat → Prop} {f0 : Nat → Int32} {cI : ClassId} : FrameBlind (va_Pc av (fun U => U.heap.size = sz ∧ va_P D cl ws U.heap ∧ va_K D cl tys U ∧ va_D A ws ∧ va_Z "VoiceRows" "FIRST_WEIGHTS" "[I" (.ref fw) B U U.heap ∧ va_X fw 4 f0 U U.heap ∧ fw < U.heap.size ∧ ¬ B fw ∧ va_Nw (.methodLinkNest RX7 9 yX6_init RX7) U ∧ va_Nw (.castable "[I" "java/lang/Cloneable") U ∧ (∀ scr : Cell, U.heap[fw]? = some scr → scr.cls = cI))) := fun a U g mk q => by
  obtain ⟨q0, q1, qP, qK, qD, qZ, qX, ql, qA, qN, qC, qc⟩ := q
  exact ⟨q0, q1, qP, va_K.moved (u := U) (U := U.calling g mk a) (Vm.Alike.refl U.vm) qK, qD, va_Z.moved (u := U) (U := U.calling g mk a) (Vm.Alike.refl U.vm) qZ, va_X.moved (u := U) (U := U.calling g mk a) (Vm.Alike.refl U.vm) qX, ql, qA, va_Nw.same (by decide) (u := U) (U := U.calling g mk a) rfl qN, va_Nw.same (by decide) (u := U) (U := U.calling g mk a) rfl qC, qc⟩
theorem inv0 : INV 0 (fun _ => 0) (fun _ => 0) (fun _ => 0) (fun _ => 0) (upd (upd (upd (upd (fun _ => 0) 0 1) 1 1) 2 12) 3 0) (fun _ => 0) (fun _ => 0) := by
  refine ⟨by omega, fun _ => (by decide : 0 < 60), ?_, ?_, fun j h => by omega, ⟨fun _ => ⟨(by decide : (0 : Int) ≤ (0 : Int32).toInt), (by decide : (0 : Int32).toInt ≤ 100000)⟩, fun _ => ⟨(by decide : (0 : Int) ≤ (0 : Int32).toInt), (by decide : (0 : Int32).toInt ≤ 100000)⟩, fun _ => ⟨(by decide : (0 : Int) ≤ (0 : Int32).toInt), (by decide : (0 : Int32).toInt ≤ 127)⟩, fun _ => ⟨(by decide : (-1 : Int) ≤ (0 : Int32).toInt), (by decide : (0 : Int32).toInt ≤ 3)⟩, fun j => ?_⟩, fun j h => by omega⟩
  · intro p
    rfl
  · intro i j h1 h2
    omega
  · rcases (show j = 0 ∨ j = 1 ∨ j = 2 ∨ j = 3 ∨ 4 ≤ j by omega) with e | e | e | e | e
    · subst e; exact ⟨by decide, by decide⟩
    · subst e; exact ⟨by decide, by decide⟩
    · subst e; exact ⟨by decide, by decide⟩
    · subst e; exact ⟨by decide, by decide⟩
    · rw [pk_un (by omega), pk_un (by omega), pk_un (by omega), pk_un (by omega)]
      exact ⟨(by decide : (0 : Int) ≤ (0 : Int32).toInt), (by decide : (0 : Int32).toInt ≤ 1000)⟩
set_option maxHeartbeats 4000000 in
set_option maxRecDepth 100000 in
theorem whole_start_open {p : Program} {e : Env} {s : State} {m : MethodId} {below : List Frame} {meth : Method} {c : Code} (l : Launch) {sa Ln : Nat} {xs : Nat → Int32} (hL : Ln ≤ 2560) (C0 : lw_At p s m meth c sa Ln xs)
    (hopen : ∀ (fw : Nat) (scr : Cell), (Term.static "VoiceRows" "FIRST_WEIGHTS" "[I").eval #[Value.ref sa] s none [] s = some (.ref fw) → s.heap[fw]? = some scr → s.vm.findClass "[I" = some scr.cls) : W p l e room_1 s m #[Value.ref sa] below meth c s.heap [] 0 0 (lw_Z below #[Value.ref sa] s) (entryFrame m ([Value.ref sa] : List Value).toArray 4) := by
  obtain ⟨hx, hb, hr, hml, hown, hts0, hX, hbl, hlocks, hgv⟩ := id C0
  have hts : ∀ w ∈ wsL_law, w.before #[Value.ref sa] s = true := fun w h => hts0 w (wsL_law_in w h)
  have hA : ∀ q : Nat, s.heap.size ≤ q → (fun q : Nat => s.heap.size ≤ q) q := fun _ h => h
  obtain ⟨c0, iS0, hKn0⟩ := u_known (C := RX0) (T := TX0) (N := 3) (n := 3) hts (by decide +kernel) (hts (.instantiable RX0 3) (by decide +kernel))
  obtain ⟨c1, iS1, hKn1⟩ := u_known (C := RX1) (T := TX1) (N := 5) (n := 5) hts (by decide +kernel) (hts (.instantiable RX1 5) (by decide +kernel))
  obtain ⟨c2, iS2, hKn2⟩ := u_known (C := RX2) (T := TX2) (N := 3) (n := 3) hts (by decide +kernel) (hts (.instantiable RX2 3) (by decide +kernel))
  obtain ⟨c3, iS3, hKn3⟩ := u_known (C := RX3) (T := TX3) (N := 3) (n := 3) hts (by decide +kernel) (hts (.instantiable RX3 3) (by decide +kernel))
  obtain ⟨c4, iS4, hKn4⟩ := u_known (C := RX4) (T := TX4) (N := 3) (n := 3) hts (by decide +kernel) (hts (.instantiable RX4 3) (by decide +kernel))
  obtain ⟨c5, iS5, hKn5⟩ := u_known (C := RX5) (T := TX5) (N := 4) (n := 4) hts (by decide +kernel) (hts (.instantiable RX5 4) (by decide +kernel))
  obtain ⟨c6, iS6, hKn6⟩ := u_known (C := RX6) (T := TX6) (N := 7) (n := 7) hts (by decide +kernel) (hts (.instantiable RX6 7) (by decide +kernel))
  obtain ⟨c7, iS7, hKn7⟩ := u_known (C := RX7) (T := TX7) (N := 7) (n := 7) hts (by decide +kernel) (hts (.instantiable RX7 7) (by decide +kernel))
  obtain ⟨c8, iS8, hKn8⟩ := u_known (C := RX8) (T := TX8) (N := 10) (n := 10) hts (by decide +kernel) (hts (.instantiable RX8 10) (by decide +kernel))
  obtain ⟨cI, kI, cmp, hcI, hkI, hkk⟩ := Cond.arrayClass_spec (hts (.arrayClass .int) (by decide +kernel))
  obtain ⟨dC, dI, hKc⟩ : ∃ (dC : Nat → ClassId) (dI : Nat → Nat → Nat), ∀ (k : Nat) (q : vw_C), vwCl[k]? = some q → u_Kn s q.1 q.2.1 q.2.2 (dC k) (dI k) := by
    refine ⟨fun k => if k = 0 then c0 else if k = 1 then c1 else if k = 2 then c2 else if k = 3 then c3 else if k = 4 then c4 else if k = 5 then c5 else if k = 6 then c6 else if k = 7 then c7 else c8, fun k => if k = 0 then iS0 else if k = 1 then iS1 else if k = 2 then iS2 else if k = 3 then iS3 else if k = 4 then iS4 else if k = 5 then iS5 else if k = 6 then iS6 else if k = 7 then iS7 else iS8, ?_⟩
    intro k q hq
    match k, hq with
    | 0, hq => cases hq; exact hKn0
    | 1, hq => cases hq; exact hKn1
    | 2, hq => cases hq; exact hKn2
    | 3, hq => cases hq; exact hKn3
    | 4, hq => cases hq; exact hKn4
    | 5, hq => cases hq; exact hKn5
    | 6, hq => cases hq; exact hKn6
    | 7, hq => cases hq; exact hKn7
    | 8, hq => cases hq; exact hKn8
    | k + 9, hq => simp [vwCl] at hq
  have hK : va_K (dC, dI) vwCl [(cI, .int)] s := ⟨hKc, fun k q h => by
    have hz : k < 1 := (List.getElem?_eq_some_iff.mp h).1
    rw [show k = 0 by omega] at h
    cases h
    exact ⟨fun n z => ⟨fun _ h => (by cases h), kI, hkI, cmp, hkk⟩, hcI⟩⟩
  have hs := flat_of_before _ hgv
  have hA0 : ∀ a : Nat, a < s.heap.size → ¬ (fun q : Nat => s.heap.size ≤ q) a := fun a h => Nat.not_le.mpr h
  have harr : (Cond.arrayOf (.static "VoiceRows" "FIRST_WEIGHTS" "[I") .int).before #[Value.ref sa] s = true := hs _ (by decide +kernel)
  have hlen := va_eqt (hs (.eq (.length (.static "VoiceRows" "FIRST_WEIGHTS" "[I")) (.int 4)) (by decide +kernel))
  have he0 := va_eqt (hs (.eq (.elem (.static "VoiceRows" "FIRST_WEIGHTS" "[I") (.int 0)) (.int 1)) (by decide +kernel))
  have he1 := va_eqt (hs (.eq (.elem (.static "VoiceRows" "FIRST_WEIGHTS" "[I") (.int 1)) (.int 1)) (by decide +kernel))
  have he2 := va_eqt (hs (.eq (.elem (.static "VoiceRows" "FIRST_WEIGHTS" "[I") (.int 2)) (.int 12)) (by decide +kernel))
  have he3 := va_eqt (hs (.eq (.elem (.static "VoiceRows" "FIRST_WEIGHTS" "[I") (.int 3)) (.int 0)) (by decide +kernel))
  obtain ⟨fw, hfe, hT⟩ := va_Tof (N := 4) (f := fun j => .int ((upd (upd (upd (upd (fun _ => 0) 0 1) 1 1) 2 12) 3 0) j)) (A := (fun q : Nat => s.heap.size ≤ q)) (by decide) harr hlen (fun j hj => by
    rcases (show j = 0 ∨ j = 1 ∨ j = 2 ∨ j = 3 by omega) with e | e | e | e <;> subst e
    · exact he0
    · exact he1
    · exact he2
    · exact he3) hA0
  obtain ⟨cell, t1, t2, t3, -, -, t6, t7⟩ := hT
  have hc1 := hopen fw cell hfe t1
  have hc2 := gk_len4 hfe hlen t1
  have hXf : va_X fw 4 (upd (upd (upd (upd (fun _ => 0) 0 1) 1 1) 2 12) 3 0) s s.heap := ⟨cell, t1, t2, t3, hc2, t6⟩
  have hfl : fw < s.heap.size := (Array.getElem?_eq_some_iff.mp t1).1
  have hfA : ¬ (fun q : Nat => s.heap.size ≤ q) fw := t7
  have hcc : ∀ scr : Cell, s.heap[fw]? = some scr → scr.cls = cI := fun scr h => by
    cases h.symm.trans t1
    exact Option.some.inj (hc1.symm.trans hcI)
  have hZ := va_Zof (A := (fun q : Nat => s.heap.size ≤ q)) (hts0 (.laysStatic "VoiceRows" "FIRST_WEIGHTS" "[I") (by decide +kernel)) (hts0 (.initialized "VoiceRows") (by decide +kernel)) hfe hA0
  have hNw : va_Nw (.methodLinkNest RX6 34 yX7_within RX7) s := va_Nw.of (by decide) (hts0 _ (by decide +kernel))
  have hN9 : va_Nw (.methodLinkNest RX7 9 yX6_init RX7) s := va_Nw.of (by decide) (hts0 _ (by decide +kernel))
  have hCa : va_Nw (.castable "[I" "java/lang/Cloneable") s := va_Nw.of (by decide) (hts0 _ (by decide +kernel))
  have h00 : (upd (upd (upd (upd (fun _ => 0) 0 1) 1 1) 2 12) 3 0) 0 = 1 := by decide
  have h01 : (upd (upd (upd (upd (fun _ => 0) 0 1) 1 1) 2 12) 3 0) 1 = 1 := by decide
  have h02 : (upd (upd (upd (upd (fun _ => 0) 0 1) 1 1) 2 12) 3 0) 2 = 12 := by decide
  have h03 : (upd (upd (upd (upd (fun _ => 0) 0 1) 1 1) 2 12) 3 0) 3 = 0 := by decide
  have hS : va_S (fun q : Nat => s.heap.size ≤ q) s.heap s.heap [] := va_S.rf
  have hP : va_P (dC, dI) vwCl [] s.heap := fun k q h => by simp at h
  have hD : va_D (fun q : Nat => s.heap.size ≤ q) [] := ⟨fun i j p q h => by simp at h, fun k q h => by simp at h⟩
  have i_X7 : ∀ w ∈ u_ws RX7 TX7 7, w ∈ wsL_law := by decide +kernel
  have i_X8 : ∀ w ∈ u_ws RX8 TX8 10, w ∈ wsL_law := by decide +kernel
  have k_0 := hts (.classLink RL 7 RX7) (by decide +kernel)
  have k_1 := hts (.instantiable RX7 7) (by decide +kernel)
  have k_2 := hts (.initialized RX7) (by decide +kernel)
  have k_3 := hts (.classLink RL 10 RX8) (by decide +kernel)
  have k_4 := hts (.instantiable RX8 10) (by decide +kernel)
  have k_5 := hts (.initialized RX8) (by decide +kernel)
  have hl := lv_entry ([.ref sa]) (n := 4) (Nat.le_of_ble_eq_true rfl)
  rw [lg_entry_eq]
  generalize (lg_sl ([.ref sa]) ++ List.replicate (4 - (lg_sl ([.ref sa])).length) Slot.unset).toArray = ls at hl ⊢
  have hl : lv_has ls 4 [(0, .ref sa)] := hl
  refine va_new (ci := 7) (fs := [.null, .null, .null, .null, .null, .null, .null]) (C := RX7) (T := TX7) (N := 7) hx hb hts i_X7 tyX7 tyX7_ok hown k_0 k_1 k_2 hK hP hD hS hA rfl (fun j hj => by rcases (show j = 0 ∨ j = 1 ∨ j = 2 ∨ j = 3 ∨ j = 4 ∨ j = 5 ∨ j = 6 by omega) with rfl | rfl | rfl | rfl | rfl | rfl | rfl <;> rfl) (Nat.le_of_ble_eq_true rfl) (Nat.le_of_ble_eq_true rfl) dL_law_0 (fun q7 H hP hD hS => ?_)
  have hP : va_P (dC, dI) vwCl [(q7, .inr (7, [.null, .null, .null, .null, .null, .null, .null]))] H := hP
  have hD : va_D (fun q : Nat => s.heap.size ≤ q) [(q7, .inr (7, [.null, .null, .null, .null, .null, .null, .null]))] := hD
  refine lv_dup hx hb dL_law_3 rfl ?_
  have hPc := hP.sub (ws' := [(q7, .inr (7, [.null, .null, .null, .null, .null, .null, .null]))]) [0] rfl
  have hDc := hD.sub (ws' := [(q7, .inr (7, [.null, .null, .null, .null, .null, .null, .null]))]) [0] (by decide) rfl
  have hFc := va_free (wc := [(q7, .inr (7, [.null, .null, .null, .null, .null, .null, .null]))]) hD hS hA [0] rfl
  have zU : ∀ U : State, U.heap = H → s.WarmedH U.vm → va_Z "VoiceRows" "FIRST_WEIGHTS" "[I" (.ref fw) (va_A [(q7, .inr (7, [.null, .null, .null, .null, .null, .null, .null]))] H.size) U U.heap ∧ va_X fw 4 (upd (upd (upd (upd (fun _ => 0) 0 1) 1 1) 2 12) 3 0) U U.heap ∧ fw < U.heap.size ∧ ¬ va_A [(q7, .inr (7, [.null, .null, .null, .null, .null, .null, .null]))] H.size fw ∧ va_Nw (.methodLinkNest RX7 9 yX6_init RX7) U ∧ va_Nw (.castable "[I" "java/lang/Cloneable") U ∧ (∀ scr : Cell, U.heap[fw]? = some scr → scr.cls = cI) := by
    intro U hU hW
    rw [hU]
    exact ⟨((hZ.kept hS.2.1).narrow hFc).moved hW.alike, (hXf.kept (hS.2.1 fw hfl hfA)).moved hW.alike, Nat.lt_of_lt_of_le hfl hS.1, fun h => hfA (hFc fw h), va_Nw.warmM hW hN9, va_Nw.warmC hW hCa, fun scr h => hcc scr (by rw [← hS.2.1 fw hfl hfA]; exact h)⟩
  refine va_callv (va_runI (As := []) (rest := [.ref q7]) ⟨hx, hb, hml, hown, hts⟩ (c_X7_init l dC dI cI H.size q7 fw (upd (upd (upd (upd (fun _ => 0) 0 1) 1 1) 2 12) 3 0) h00 h01 h02 h03) (cwI 0 hts gL_law_X7_init rfl rfl rfl (hts (.initialized RX7) (by decide +kernel)) (hts (.methodLink RL 9 yX7_init) (by decide +kernel)) (hts (.instanceMethod yX7_init) (by decide +kernel)) rfl (by decide +kernel) ⟨Nat.le_of_ble_eq_true rfl, Nat.le_of_ble_eq_true rfl⟩) ⟨gk_fbZI, fun U hU hW => ⟨rfl, by rw [hU], by rw [hU]; exact hPc, va_K.moved hW.alike hK, hDc.weaken (fun _ _ _ _ => trivial), zU U hU hW⟩⟩ rfl rfl hl.1 rfl (lv_room (Nat.le_of_ble_eq_true rfl)) dL_law_4 ⟨Nat.le_of_ble_eq_true rfl, Nat.le_of_ble_eq_true rfl⟩) hS (fun q _ h => hFc q h) hFc (fun u t H1 locs ht hvm hw hB hz1 hk1 hS => ?_)
  obtain ⟨u7, rfl⟩ : ∃ z, z = u := ⟨_, rfl⟩
  obtain ⟨hP1, hK1, hD1⟩ := hB
  rw [ht] at hP1
  try dsimp only at hw
  obtain ⟨hP, hD⟩ := va_join (wr := []) (w1 := [(u7 0, .inr (7, [.ref (u7 1), .ref (u7 8), .ref (u7 9), .ref (u7 12), .ref (u7 13), .ref (u7 16), .ref (u7 19)])), (u7 1, .inr (6, [.int 0, .ref (u7 2), .ref (u7 3), .ref (u7 4), .ref (u7 5), .ref (u7 6), .ref (u7 7)])), (u7 2, .inl (cI, 60, .inl (fun _ => 0))), (u7 3, .inl (cI, 60, .inl (fun _ => 0))), (u7 4, .inl (cI, 60, .inl (fun _ => 0))), (u7 5, .inl (cI, 60, .inl (fun _ => 0))), (u7 6, .inl (cI, 60, .inl (fun _ => 0))), (u7 7, .inl (cI, 60, .inl (fun _ => 0))), (u7 8, .inl (cI, 4, .inl (upd (upd (upd (upd (fun _ => 0) 0 1) 1 1) 2 12) 3 0))), (u7 9, .inr (5, [.ref (u7 1), .int 0, .ref (u7 10), .ref (u7 11)])), (u7 10, .inl (cI, 61, .inl (fun _ => 0))), (u7 11, .inl (cI, 61, .inl (fun _ => 0))), (u7 12, .inr (4, [.ref (u7 1), .int 0, .int 0])), (u7 13, .inr (0, [.ref (u7 1), .ref (u7 8), .ref (u7 12)])), (u7 14, .inr (3, [.ref (u7 1), .ref (u7 8), .ref (u7 15)])), (u7 15, .inl (cI, 4, .inl (fun _ => 0))), (u7 16, .inr (1, [.ref (u7 1), .ref (u7 14), .ref (u7 17), .int 0, .ref (u7 18)])), (u7 17, .inl (cI, 4, .inl (fun _ => 0))), (u7 18, .inl (cI, 0, .inl (fun _ => 0))), (u7 19, .inr (2, [.ref (u7 1), .ref (u7 14), .ref (u7 20)])), (u7 20, .inl (cI, 60, .inl (fun _ => 0)))]) hP hD [0] [] rfl rfl (by decide) (by decide) hk1 hFc hP1 hD1
  generalize H1 = H at hP hS ⊢
  have hP : va_P (dC, dI) vwCl [(u7 0, .inr (7, [.ref (u7 1), .ref (u7 8), .ref (u7 9), .ref (u7 12), .ref (u7 13), .ref (u7 16), .ref (u7 19)])), (u7 1, .inr (6, [.int 0, .ref (u7 2), .ref (u7 3), .ref (u7 4), .ref (u7 5), .ref (u7 6), .ref (u7 7)])), (u7 2, .inl (cI, 60, .inl (fun _ => 0))), (u7 3, .inl (cI, 60, .inl (fun _ => 0))), (u7 4, .inl (cI, 60, .inl (fun _ => 0))), (u7 5, .inl (cI, 60, .inl (fun _ => 0))), (u7 6, .inl (cI, 60, .inl (fun _ => 0))), (u7 7, .inl (cI, 60, .inl (fun _ => 0))), (u7 8, .inl (cI, 4, .inl (upd (upd (upd (upd (fun _ => 0) 0 1) 1 1) 2 12) 3 0))), (u7 9, .inr (5, [.ref (u7 1), .int 0, .ref (u7 10), .ref (u7 11)])), (u7 10, .inl (cI, 61, .inl (fun _ => 0))), (u7 11, .inl (cI, 61, .inl (fun _ => 0))), (u7 12, .inr (4, [.ref (u7 1), .int 0, .int 0])), (u7 13, .inr (0, [.ref (u7 1), .ref (u7 8), .ref (u7 12)])), (u7 14, .inr (3, [.ref (u7 1), .ref (u7 8), .ref (u7 15)])), (u7 15, .inl (cI, 4, .inl (fun _ => 0))), (u7 16, .inr (1, [.ref (u7 1), .ref (u7 14), .ref (u7 17), .int 0, .ref (u7 18)])), (u7 17, .inl (cI, 4, .inl (fun _ => 0))), (u7 18, .inl (cI, 0, .inl (fun _ => 0))), (u7 19, .inr (2, [.ref (u7 1), .ref (u7 14), .ref (u7 20)])), (u7 20, .inl (cI, 60, .inl (fun _ => 0)))] H := hP
  have hD : va_D (fun q : Nat => s.heap.size ≤ q) [(u7 0, .inr (7, [.ref (u7 1), .ref (u7 8), .ref (u7 9), .ref (u7 12), .ref (u7 13), .ref (u7 16), .ref (u7 19)])), (u7 1, .inr (6, [.int 0, .ref (u7 2), .ref (u7 3), .ref (u7 4), .ref (u7 5), .ref (u7 6), .ref (u7 7)])), (u7 2, .inl (cI, 60, .inl (fun _ => 0))), (u7 3, .inl (cI, 60, .inl (fun _ => 0))), (u7 4, .inl (cI, 60, .inl (fun _ => 0))), (u7 5, .inl (cI, 60, .inl (fun _ => 0))), (u7 6, .inl (cI, 60, .inl (fun _ => 0))), (u7 7, .inl (cI, 60, .inl (fun _ => 0))), (u7 8, .inl (cI, 4, .inl (upd (upd (upd (upd (fun _ => 0) 0 1) 1 1) 2 12) 3 0))), (u7 9, .inr (5, [.ref (u7 1), .int 0, .ref (u7 10), .ref (u7 11)])), (u7 10, .inl (cI, 61, .inl (fun _ => 0))), (u7 11, .inl (cI, 61, .inl (fun _ => 0))), (u7 12, .inr (4, [.ref (u7 1), .int 0, .int 0])), (u7 13, .inr (0, [.ref (u7 1), .ref (u7 8), .ref (u7 12)])), (u7 14, .inr (3, [.ref (u7 1), .ref (u7 8), .ref (u7 15)])), (u7 15, .inl (cI, 4, .inl (fun _ => 0))), (u7 16, .inr (1, [.ref (u7 1), .ref (u7 14), .ref (u7 17), .int 0, .ref (u7 18)])), (u7 17, .inl (cI, 4, .inl (fun _ => 0))), (u7 18, .inl (cI, 0, .inl (fun _ => 0))), (u7 19, .inr (2, [.ref (u7 1), .ref (u7 14), .ref (u7 20)])), (u7 20, .inl (cI, 60, .inl (fun _ => 0)))] := hD
  have hw : u7 0 = q7 := hw
  rw [← hw]
  refine lv_astore_n (lv' := [(1, .ref (u7 0)), (0, .ref sa)]) hx hb dL_law_7 rfl hl (by decide) rfl (fun ls hl => ?_)
  refine va_new (ci := 8) (fs := [.null, .null, .null, .null, .int 0, .null, .null, .null, .null, .null]) (C := RX8) (T := TX8) (N := 10) hx hb hts i_X8 tyX8 tyX8_ok hown k_3 k_4 k_5 hK hP hD hS hA rfl (fun j hj => by rcases (show j = 0 ∨ j = 1 ∨ j = 2 ∨ j = 3 ∨ j = 4 ∨ j = 5 ∨ j = 6 ∨ j = 7 ∨ j = 8 ∨ j = 9 by omega) with rfl | rfl | rfl | rfl | rfl | rfl | rfl | rfl | rfl | rfl <;> rfl) (Nat.le_of_ble_eq_true rfl) (Nat.le_of_ble_eq_true rfl) dL_law_8 (fun q8 H hP hD hS => ?_)
  have hP : va_P (dC, dI) vwCl [(u7 0, .inr (7, [.ref (u7 1), .ref (u7 8), .ref (u7 9), .ref (u7 12), .ref (u7 13), .ref (u7 16), .ref (u7 19)])), (u7 1, .inr (6, [.int 0, .ref (u7 2), .ref (u7 3), .ref (u7 4), .ref (u7 5), .ref (u7 6), .ref (u7 7)])), (u7 2, .inl (cI, 60, .inl (fun _ => 0))), (u7 3, .inl (cI, 60, .inl (fun _ => 0))), (u7 4, .inl (cI, 60, .inl (fun _ => 0))), (u7 5, .inl (cI, 60, .inl (fun _ => 0))), (u7 6, .inl (cI, 60, .inl (fun _ => 0))), (u7 7, .inl (cI, 60, .inl (fun _ => 0))), (u7 8, .inl (cI, 4, .inl (upd (upd (upd (upd (fun _ => 0) 0 1) 1 1) 2 12) 3 0))), (u7 9, .inr (5, [.ref (u7 1), .int 0, .ref (u7 10), .ref (u7 11)])), (u7 10, .inl (cI, 61, .inl (fun _ => 0))), (u7 11, .inl (cI, 61, .inl (fun _ => 0))), (u7 12, .inr (4, [.ref (u7 1), .int 0, .int 0])), (u7 13, .inr (0, [.ref (u7 1), .ref (u7 8), .ref (u7 12)])), (u7 14, .inr (3, [.ref (u7 1), .ref (u7 8), .ref (u7 15)])), (u7 15, .inl (cI, 4, .inl (fun _ => 0))), (u7 16, .inr (1, [.ref (u7 1), .ref (u7 14), .ref (u7 17), .int 0, .ref (u7 18)])), (u7 17, .inl (cI, 4, .inl (fun _ => 0))), (u7 18, .inl (cI, 0, .inl (fun _ => 0))), (u7 19, .inr (2, [.ref (u7 1), .ref (u7 14), .ref (u7 20)])), (u7 20, .inl (cI, 60, .inl (fun _ => 0))), (q8, .inr (8, [.null, .null, .null, .null, .int 0, .null, .null, .null, .null, .null]))] H := hP
  have hD : va_D (fun q : Nat => s.heap.size ≤ q) [(u7 0, .inr (7, [.ref (u7 1), .ref (u7 8), .ref (u7 9), .ref (u7 12), .ref (u7 13), .ref (u7 16), .ref (u7 19)])), (u7 1, .inr (6, [.int 0, .ref (u7 2), .ref (u7 3), .ref (u7 4), .ref (u7 5), .ref (u7 6), .ref (u7 7)])), (u7 2, .inl (cI, 60, .inl (fun _ => 0))), (u7 3, .inl (cI, 60, .inl (fun _ => 0))), (u7 4, .inl (cI, 60, .inl (fun _ => 0))), (u7 5, .inl (cI, 60, .inl (fun _ => 0))), (u7 6, .inl (cI, 60, .inl (fun _ => 0))), (u7 7, .inl (cI, 60, .inl (fun _ => 0))), (u7 8, .inl (cI, 4, .inl (upd (upd (upd (upd (fun _ => 0) 0 1) 1 1) 2 12) 3 0))), (u7 9, .inr (5, [.ref (u7 1), .int 0, .ref (u7 10), .ref (u7 11)])), (u7 10, .inl (cI, 61, .inl (fun _ => 0))), (u7 11, .inl (cI, 61, .inl (fun _ => 0))), (u7 12, .inr (4, [.ref (u7 1), .int 0, .int 0])), (u7 13, .inr (0, [.ref (u7 1), .ref (u7 8), .ref (u7 12)])), (u7 14, .inr (3, [.ref (u7 1), .ref (u7 8), .ref (u7 15)])), (u7 15, .inl (cI, 4, .inl (fun _ => 0))), (u7 16, .inr (1, [.ref (u7 1), .ref (u7 14), .ref (u7 17), .int 0, .ref (u7 18)])), (u7 17, .inl (cI, 4, .inl (fun _ => 0))), (u7 18, .inl (cI, 0, .inl (fun _ => 0))), (u7 19, .inr (2, [.ref (u7 1), .ref (u7 14), .ref (u7 20)])), (u7 20, .inl (cI, 60, .inl (fun _ => 0))), (q8, .inr (8, [.null, .null, .null, .null, .int 0, .null, .null, .null, .null, .null]))] := hD
  refine lv_dup hx hb dL_law_11 rfl ?_
  have hPc := hP.sub (ws' := [(q8, .inr (8, [.null, .null, .null, .null, .int 0, .null, .null, .null, .null, .null]))]) [21] rfl
  have hDc := hD.sub (ws' := [(q8, .inr (8, [.null, .null, .null, .null, .int 0, .null, .null, .null, .null, .null]))]) [21] (by decide) rfl
  have hFc := va_free (wc := [(q8, .inr (8, [.null, .null, .null, .null, .int 0, .null, .null, .null, .null, .null]))]) hD hS hA [21] rfl
  refine va_callv (va_runI (As := []) (rest := [.ref q8]) ⟨hx, hb, hml, hown, hts⟩ (c_X8_init l dC dI cI H.size q8) (cwI 0 hts gL_law_X8_init rfl rfl rfl (hts (.initialized RX8) (by decide +kernel)) (hts (.methodLink RL 12 yX8_init) (by decide +kernel)) (hts (.instanceMethod yX8_init) (by decide +kernel)) rfl (by decide +kernel) ⟨Nat.le_of_ble_eq_true rfl, Nat.le_of_ble_eq_true rfl⟩) ⟨gk_fbW, fun U hU hW => ⟨rfl, by rw [hU], by rw [hU]; exact hPc, va_K.moved hW.alike hK, hDc.weaken (fun _ _ _ _ => trivial)⟩⟩ rfl rfl hl.1 rfl (lv_room (Nat.le_of_ble_eq_true rfl)) dL_law_12 ⟨Nat.le_of_ble_eq_true rfl, Nat.le_of_ble_eq_true rfl⟩) hS (fun q _ h => hFc q h) hFc (fun u t H1 locs ht hvm hw hB hz1 hk1 hS => ?_)
  obtain ⟨u8, rfl⟩ : ∃ z, z = u := ⟨_, rfl⟩
  obtain ⟨hP1, hK1, hD1⟩ := hB
  rw [ht] at hP1
  try dsimp only at hw
  obtain ⟨hP, hD⟩ := va_join (wr := [(u7 0, .inr (7, [.ref (u7 1), .ref (u7 8), .ref (u7 9), .ref (u7 12), .ref (u7 13), .ref (u7 16), .ref (u7 19)])), (u7 1, .inr (6, [.int 0, .ref (u7 2), .ref (u7 3), .ref (u7 4), .ref (u7 5), .ref (u7 6), .ref (u7 7)])), (u7 2, .inl (cI, 60, .inl (fun _ => 0))), (u7 3, .inl (cI, 60, .inl (fun _ => 0))), (u7 4, .inl (cI, 60, .inl (fun _ => 0))), (u7 5, .inl (cI, 60, .inl (fun _ => 0))), (u7 6, .inl (cI, 60, .inl (fun _ => 0))), (u7 7, .inl (cI, 60, .inl (fun _ => 0))), (u7 8, .inl (cI, 4, .inl (upd (upd (upd (upd (fun _ => 0) 0 1) 1 1) 2 12) 3 0))), (u7 9, .inr (5, [.ref (u7 1), .int 0, .ref (u7 10), .ref (u7 11)])), (u7 10, .inl (cI, 61, .inl (fun _ => 0))), (u7 11, .inl (cI, 61, .inl (fun _ => 0))), (u7 12, .inr (4, [.ref (u7 1), .int 0, .int 0])), (u7 13, .inr (0, [.ref (u7 1), .ref (u7 8), .ref (u7 12)])), (u7 14, .inr (3, [.ref (u7 1), .ref (u7 8), .ref (u7 15)])), (u7 15, .inl (cI, 4, .inl (fun _ => 0))), (u7 16, .inr (1, [.ref (u7 1), .ref (u7 14), .ref (u7 17), .int 0, .ref (u7 18)])), (u7 17, .inl (cI, 4, .inl (fun _ => 0))), (u7 18, .inl (cI, 0, .inl (fun _ => 0))), (u7 19, .inr (2, [.ref (u7 1), .ref (u7 14), .ref (u7 20)])), (u7 20, .inl (cI, 60, .inl (fun _ => 0)))]) (w1 := [(q8, .inr (8, [.ref u8.1, .ref u8.2.1, .ref u8.2.2.1, .ref u8.2.2.2.1, .int 0, .ref u8.2.2.2.2.1, .ref u8.2.2.2.2.2.1, .ref u8.2.2.2.2.2.2.1, .ref u8.2.2.2.2.2.2.2.1, .ref u8.2.2.2.2.2.2.2.2])), (u8.1, .inl (cI, 60, .inl (fun _ => 0))), (u8.2.1, .inl (cI, 60, .inl (fun _ => 0))), (u8.2.2.1, .inl (cI, 60, .inl (fun _ => 0))), (u8.2.2.2.1, .inl (cI, 60, .inl (fun _ => 0))), (u8.2.2.2.2.1, .inl (cI, 4, .inl (upd (upd (upd (upd (fun _ => 0) 0 1) 1 1) 2 12) 3 0))), (u8.2.2.2.2.2.1, .inl (cI, 60, .inl (fun _ => 0))), (u8.2.2.2.2.2.2.1, .inl (cI, 60, .inl (fun _ => 0))), (u8.2.2.2.2.2.2.2.1, .inl (cI, 4, .inl (fun _ => 0))), (u8.2.2.2.2.2.2.2.2, .inl (cI, 759375, .inl (fun _ => 0)))]) hP hD [21] [0, 1, 2, 3, 4, 5, 6, 7, 8, 9, 10, 11, 12, 13, 14, 15, 16, 17, 18, 19, 20] rfl rfl (by decide) (by decide) hk1 hFc hP1 hD1
  generalize H1 = H at hP hS ⊢
  have hP : va_P (dC, dI) vwCl [(u7 0, .inr (7, [.ref (u7 1), .ref (u7 8), .ref (u7 9), .ref (u7 12), .ref (u7 13), .ref (u7 16), .ref (u7 19)])), (u7 1, .inr (6, [.int 0, .ref (u7 2), .ref (u7 3), .ref (u7 4), .ref (u7 5), .ref (u7 6), .ref (u7 7)])), (u7 2, .inl (cI, 60, .inl (fun _ => 0))), (u7 3, .inl (cI, 60, .inl (fun _ => 0))), (u7 4, .inl (cI, 60, .inl (fun _ => 0))), (u7 5, .inl (cI, 60, .inl (fun _ => 0))), (u7 6, .inl (cI, 60, .inl (fun _ => 0))), (u7 7, .inl (cI, 60, .inl (fun _ => 0))), (u7 8, .inl (cI, 4, .inl (upd (upd (upd (upd (fun _ => 0) 0 1) 1 1) 2 12) 3 0))), (u7 9, .inr (5, [.ref (u7 1), .int 0, .ref (u7 10), .ref (u7 11)])), (u7 10, .inl (cI, 61, .inl (fun _ => 0))), (u7 11, .inl (cI, 61, .inl (fun _ => 0))), (u7 12, .inr (4, [.ref (u7 1), .int 0, .int 0])), (u7 13, .inr (0, [.ref (u7 1), .ref (u7 8), .ref (u7 12)])), (u7 14, .inr (3, [.ref (u7 1), .ref (u7 8), .ref (u7 15)])), (u7 15, .inl (cI, 4, .inl (fun _ => 0))), (u7 16, .inr (1, [.ref (u7 1), .ref (u7 14), .ref (u7 17), .int 0, .ref (u7 18)])), (u7 17, .inl (cI, 4, .inl (fun _ => 0))), (u7 18, .inl (cI, 0, .inl (fun _ => 0))), (u7 19, .inr (2, [.ref (u7 1), .ref (u7 14), .ref (u7 20)])), (u7 20, .inl (cI, 60, .inl (fun _ => 0))), (q8, .inr (8, [.ref u8.1, .ref u8.2.1, .ref u8.2.2.1, .ref u8.2.2.2.1, .int 0, .ref u8.2.2.2.2.1, .ref u8.2.2.2.2.2.1, .ref u8.2.2.2.2.2.2.1, .ref u8.2.2.2.2.2.2.2.1, .ref u8.2.2.2.2.2.2.2.2])), (u8.1, .inl (cI, 60, .inl (fun _ => 0))), (u8.2.1, .inl (cI, 60, .inl (fun _ => 0))), (u8.2.2.1, .inl (cI, 60, .inl (fun _ => 0))), (u8.2.2.2.1, .inl (cI, 60, .inl (fun _ => 0))), (u8.2.2.2.2.1, .inl (cI, 4, .inl (upd (upd (upd (upd (fun _ => 0) 0 1) 1 1) 2 12) 3 0))), (u8.2.2.2.2.2.1, .inl (cI, 60, .inl (fun _ => 0))), (u8.2.2.2.2.2.2.1, .inl (cI, 60, .inl (fun _ => 0))), (u8.2.2.2.2.2.2.2.1, .inl (cI, 4, .inl (fun _ => 0))), (u8.2.2.2.2.2.2.2.2, .inl (cI, 759375, .inl (fun _ => 0)))] H := hP
  have hD : va_D (fun q : Nat => s.heap.size ≤ q) [(u7 0, .inr (7, [.ref (u7 1), .ref (u7 8), .ref (u7 9), .ref (u7 12), .ref (u7 13), .ref (u7 16), .ref (u7 19)])), (u7 1, .inr (6, [.int 0, .ref (u7 2), .ref (u7 3), .ref (u7 4), .ref (u7 5), .ref (u7 6), .ref (u7 7)])), (u7 2, .inl (cI, 60, .inl (fun _ => 0))), (u7 3, .inl (cI, 60, .inl (fun _ => 0))), (u7 4, .inl (cI, 60, .inl (fun _ => 0))), (u7 5, .inl (cI, 60, .inl (fun _ => 0))), (u7 6, .inl (cI, 60, .inl (fun _ => 0))), (u7 7, .inl (cI, 60, .inl (fun _ => 0))), (u7 8, .inl (cI, 4, .inl (upd (upd (upd (upd (fun _ => 0) 0 1) 1 1) 2 12) 3 0))), (u7 9, .inr (5, [.ref (u7 1), .int 0, .ref (u7 10), .ref (u7 11)])), (u7 10, .inl (cI, 61, .inl (fun _ => 0))), (u7 11, .inl (cI, 61, .inl (fun _ => 0))), (u7 12, .inr (4, [.ref (u7 1), .int 0, .int 0])), (u7 13, .inr (0, [.ref (u7 1), .ref (u7 8), .ref (u7 12)])), (u7 14, .inr (3, [.ref (u7 1), .ref (u7 8), .ref (u7 15)])), (u7 15, .inl (cI, 4, .inl (fun _ => 0))), (u7 16, .inr (1, [.ref (u7 1), .ref (u7 14), .ref (u7 17), .int 0, .ref (u7 18)])), (u7 17, .inl (cI, 4, .inl (fun _ => 0))), (u7 18, .inl (cI, 0, .inl (fun _ => 0))), (u7 19, .inr (2, [.ref (u7 1), .ref (u7 14), .ref (u7 20)])), (u7 20, .inl (cI, 60, .inl (fun _ => 0))), (q8, .inr (8, [.ref u8.1, .ref u8.2.1, .ref u8.2.2.1, .ref u8.2.2.2.1, .int 0, .ref u8.2.2.2.2.1, .ref u8.2.2.2.2.2.1, .ref u8.2.2.2.2.2.2.1, .ref u8.2.2.2.2.2.2.2.1, .ref u8.2.2.2.2.2.2.2.2])), (u8.1, .inl (cI, 60, .inl (fun _ => 0))), (u8.2.1, .inl (cI, 60, .inl (fun _ => 0))), (u8.2.2.1, .inl (cI, 60, .inl (fun _ => 0))), (u8.2.2.2.1, .inl (cI, 60, .inl (fun _ => 0))), (u8.2.2.2.2.1, .inl (cI, 4, .inl (upd (upd (upd (upd (fun _ => 0) 0 1) 1 1) 2 12) 3 0))), (u8.2.2.2.2.2.1, .inl (cI, 60, .inl (fun _ => 0))), (u8.2.2.2.2.2.2.1, .inl (cI, 60, .inl (fun _ => 0))), (u8.2.2.2.2.2.2.2.1, .inl (cI, 4, .inl (fun _ => 0))), (u8.2.2.2.2.2.2.2.2, .inl (cI, 759375, .inl (fun _ => 0)))] := hD
  refine lv_astore_n (lv' := [(2, .ref q8), (1, .ref (u7 0)), (0, .ref sa)]) hx hb dL_law_15 rfl hl (by decide) rfl (fun ls hl => ?_)
  refine lv_iconst (v := 0) hx hb dL_law_16 (by decide) ?_
  refine lv_istore_n (lv' := [(3, .int 0), (2, .ref q8), (1, .ref (u7 0)), (0, .ref sa)]) hx hb dL_law_17 rfl hl (by decide) rfl (fun ls hl => ?_)
  exact law_loop (a := (fun k => ([q8, u8.1, u8.2.1, u8.2.2.1, u8.2.2.2.1, u8.2.2.2.2.1, u8.2.2.2.2.2.1, u8.2.2.2.2.2.2.1, u8.2.2.2.2.2.2.2.1, u8.2.2.2.2.2.2.2.2] : List Nat).getD k 0)) (b := u7) (f0 := upd (upd (upd (upd (fun _ => 0) 0 1) 1 1) 2 12) 3 0) hL C0 hK hNw hZ hXf hfl h00 h01 h02 h03 (Ln + 1) 0 0 (fun _ => 0) (fun _ => 0) (fun _ => 0) (fun _ => 0) (upd (upd (upd (upd (fun _ => 0) 0 1) 1 1) 2 12) 3 0) (fun _ => 0) (fun _ => 0) 0 (fun _ => 0) (fun _ => 0) 0 0 (fun _ => 0) 0 (fun _ => 0) (u7 18) 0 (fun _ => 0) (fun _ => 0) (fun _ => 0) (fun _ => 0) (fun _ => 0) _ _ _ _ ls (by omega) (by omega) inv0 (by omega) (by omega) (Nat.le_trans (by omega) (Nat.le_add_right _ _)) hP hD hS (lv_sub hl [3, 2, 1, 0] rfl)
