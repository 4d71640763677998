section
variable {p : Program} {l : Launch} {e : Env} {R : Room} {s : State} {m : MethodId} {args : Array Value} {below : List Frame} {meth : Method} {c : Code} {H H0 : Heap} {locs : List Loc} {cells slots : Nat} {Q : State → Prop} {pc : Nat} {ls : Array Slot} {rest : List Value} {cc : ByteArray} {D : va_G} {cl : List vw_C} {tys : List (ClassId × FieldType)} {ws : va_W} {A : Nat → Prop}
theorem gk_top {x y : Int32} (h : x = y) (k : W p l e R s m args below meth c H locs cells slots Q (F0 m pc ls (.int y :: rest))) : W p l e R s m args below meth c H locs cells slots Q (F0 m pc ls (.int x :: rest)) := by
  subst h
  exact k
theorem gk_ld (hx : p.tables.exec = Jvm.exec) (hb : c.code = cc) (hK : va_K D cl tys s) (hP : va_P D cl ws H) (q0 t0 : Nat) {cA : ClassId} {n a : Nat} {f : Nat → Int32} (ha : ws[q0]? = some (a, .inl (cA, n, .inl f))) (ht : tys[t0]? = some (cA, .int)) (k : Nat) (hk : k < n) (hn : n < 2 ^ 31) {v : Int32} (hv : f k = v) (hdg : decode cc pc = .ok (.iaload, 1))
    (kk : W p l e R s m args below meth c H locs cells slots Q (F0 m (pc + 1) ls (.int v :: rest))) : W p l e R s m args below meth c H locs cells slots Q (F0 m pc ls (.int (nI k) :: .ref a :: rest)) := by
  refine va_iald hx hb hK hP q0 t0 ha ht (vp_in_nI hk hn) hdg ?_
  rw [nI_clamp (Nat.lt_trans hk hn), hv]
  exact kk
theorem gk_st (hx : p.tables.exec = Jvm.exec) (hb : c.code = cc) (hK : va_K D cl tys s) (hP : va_P D cl ws H) (hD : va_D A ws) (hS : va_S A H0 H locs) (q0 t0 : Nat) {cA : ClassId} {n a : Nat} {f : Nat → Int32} (ha : ws[q0]? = some (a, .inl (cA, n, .inl f))) (ht : tys[t0]? = some (cA, .int)) (k : Nat) (hk : k < n) (hn : n < 2 ^ 31) {x : Int32} (hdg : decode cc pc = .ok (.iastore, 1))
    (kk : ∀ (H1 : Heap) (locs1 : List Loc), va_P D cl (ws.set q0 (a, .inl (cA, n, .inl (upd f k x)))) H1 → va_D A (ws.set q0 (a, .inl (cA, n, .inl (upd f k x)))) → va_S A H0 H1 locs1 → W p l e R s m args below meth c H1 locs1 cells slots Q (F0 m (pc + 1) ls rest)) : W p l e R s m args below meth c H locs cells slots Q (F0 m pc ls (.int x :: .int (nI k) :: .ref a :: rest)) := by
  refine va_iast hx hb hK hP hD hS q0 t0 ha ht (vp_in_nI hk hn) hdg ?_
  rw [nI_clamp (Nat.lt_trans hk hn)]
  exact kk
theorem gk_run {mc ms : Nat} {g : JFrame} {Qa : State → Outcome → State → Prop} {free : Addr → Prop} (h : va_Run p l e R s m args below meth c H locs cells slots mc ms g rest Qa free) : CallRun p l e R s m args below meth c H locs cells slots mc ms g rest Qa free := by
  intro T hT X
  obtain ⟨v, st0, t, T', L, h1, h2, h3, h4, h5, h6, h7⟩ := h T hT X
  exact ⟨v, st0, t, T', L, h1, h2, h3, h4, h6, h7⟩
theorem gk_cwS {own : String} {index maxL mc ms : Nat} {y : MethodName} {bytes : ByteArray} {ret : Option FieldType} {Ts ws ws' : List Cond} {rm : Room} (n : Nat) (ht : ∀ w ∈ Ts, w.before args s = true) (hT : GoodIn Ts (va_wsS own index y ws)) (hw : ws = Cond.code y bytes maxL ret :: ws') (hrc : rm.cells = mc) (hrs : rm.slots = ms)
    (hd : y.cls ≠ "java/lang/invoke/MethodHandle" ∧ y.cls ≠ "java/lang/invoke/VarHandle" ∧ (parseMethodDescriptor y.desc).map (fun d => d.parameters.length) = some n) (hR : rm.frames + 1 ≤ R.frames ∧ 8 + (maxL + 11) + rm.locals ≤ R.locals) :
    CallB R s args own index y bytes maxL ret ws rm mc ms n ∧ (Cond.static y).before args s = true :=
  have hG : GoodIn Ts ws := fun w h => hT w (List.mem_append_right _ h)
  have h1 : ∀ w ∈ ([.methodLink own index y, .static y, .initialized y.cls] : List Cond), w.before args s = true := fun w h => ht w (hT w (List.mem_append_left _ h)).1
  ⟨callB_of n ht hG hw hrc hrs (h1 _ (by simp)) (h1 _ (by simp)) hd hR, h1 _ (by simp)⟩
end
theorem gk_fb {av : List Value} {D : va_G} {cl : List vw_C} {ws : va_W} {tys : List (ClassId × FieldType)} : FrameBlind (va_Pc av (fun U => va_P D cl ws U.heap ∧ va_K D cl tys U)) := fun a U g mk q => by
  obtain ⟨q0, qP, qK⟩ := q
  exact ⟨q0, qP, va_K.moved (u := U) (U := U.calling g mk a) (Vm.Alike.refl U.vm) qK⟩
theorem gk_fbT {av : List Value} : FrameBlind (va_Pc av (fun _ => True)) := fun _ _ _ _ q => q
theorem gk_fbW {av : List Value} {D : va_G} {cl : List vw_C} {ws : va_W} {tys : List (ClassId × FieldType)} {sz : Nat} {A : Nat → Prop} : FrameBlind (va_Pc av (fun U => U.heap.size = sz ∧ va_P D cl ws U.heap ∧ va_K D cl tys U ∧ va_D A ws)) := fun a U g mk q => by
  obtain ⟨q0, q1, qP, qK, qD⟩ := q
  exact ⟨q0, q1, qP, va_K.moved (u := U) (U := U.calling g mk a) (Vm.Alike.refl U.vm) qK, qD⟩
def b2i (x : Bool) : Int32 := if x then 1 else 0
theorem b2i_0 {x : Bool} : b2i x = 0 ↔ x = false := by cases x <;> decide
theorem b2i_1 {x : Bool} : ¬ b2i x = 0 ↔ x = true := by cases x <;> decide
theorem b2i_t {x : Bool} (h : x = true) : (1 : Int32) = b2i x := by subst h; rfl
theorem b2i_f {x : Bool} (h : x = false) : (0 : Int32) = b2i x := by subst h; rfl
theorem b2i_nar (x : Bool) : narrow .boolean (.int (b2i x)) = .int (b2i x) := by cases x <;> rfl
theorem gk_inc1 (k : Nat) : nI k + Int32.ofInt 1 = nI (k + 1) := by
  rw [show Int32.ofInt 1 = 1 by decide]
  exact nI_1 k
theorem gk_inc5 (k : Nat) : nI k + Int32.ofInt 5 = nI (k + 5) := by
  rw [show Int32.ofInt 5 = nI 5 by decide]
  exact nI_add k 5
theorem gk_addl (x : Nat) (y : Int32) (c : Nat) (h : y = nI c) : nI x + y = nI (x + c) := by rw [h]; exact nI_add x c
theorem gk_eqT {a b : Nat} (ha : a < 2 ^ 31) (hb : b < 2 ^ 31) (h : nI a = nI b) : a = b := (nI_eq ha hb).mp h
theorem gk_eqF {a b : Nat} (ha : a < 2 ^ 31) (hb : b < 2 ^ 31) (h : ¬ nI a = nI b) : a ≠ b := fun q => h ((nI_eq ha hb).mpr q)
theorem gk_neT {a b : Nat} (ha : a < 2 ^ 31) (hb : b < 2 ^ 31) (h : ¬ nI a = nI b) : a ≠ b := fun q => h ((nI_eq ha hb).mpr q)
theorem gk_neF {a b : Nat} (ha : a < 2 ^ 31) (hb : b < 2 ^ 31) (h : nI a = nI b) : a = b := (nI_eq ha hb).mp h
theorem gk_ltT {a b : Nat} (ha : a < 2 ^ 31) (hb : b < 2 ^ 31) (h : nI a < nI b) : a < b := (nI_ltI ha hb).mp h
theorem gk_ltF {a b : Nat} (ha : a < 2 ^ 31) (hb : b < 2 ^ 31) (h : ¬ nI a < nI b) : a ≥ b := Nat.le_of_not_lt fun q => h ((nI_ltI ha hb).mpr q)
theorem gk_geT {a b : Nat} (ha : a < 2 ^ 31) (hb : b < 2 ^ 31) (h : nI b ≤ nI a) : a ≥ b := (nI_leI hb ha).mp h
theorem gk_geF {a b : Nat} (ha : a < 2 ^ 31) (hb : b < 2 ^ 31) (h : ¬ nI b ≤ nI a) : a < b := Nat.lt_of_not_le fun q => h ((nI_leI hb ha).mpr q)
theorem gk_gtT {a b : Nat} (ha : a < 2 ^ 31) (hb : b < 2 ^ 31) (h : nI b < nI a) : a > b := (nI_ltI hb ha).mp h
theorem gk_gtF {a b : Nat} (ha : a < 2 ^ 31) (hb : b < 2 ^ 31) (h : ¬ nI b < nI a) : a ≤ b := Nat.le_of_not_lt fun q => h ((nI_ltI hb ha).mpr q)
theorem gk_leT {a b : Nat} (ha : a < 2 ^ 31) (hb : b < 2 ^ 31) (h : nI a ≤ nI b) : a ≤ b := (nI_leI ha hb).mp h
theorem gk_leF {a b : Nat} (ha : a < 2 ^ 31) (hb : b < 2 ^ 31) (h : ¬ nI a ≤ nI b) : a > b := Nat.lt_of_not_le fun q => h ((nI_leI ha hb).mpr q)
theorem gk_ti {x : Int32} {k : Int32} (h : ¬ x = k) : x.toInt ≠ k.toInt := fun q => h (Int32.toInt_inj.mp q)
theorem gk_out3 {x : Int32} (n0 : ¬ x = 0) (n1 : ¬ x = 1) (n2 : ¬ x = 2) : x.toInt < 0 ∨ 2 < x.toInt := by
  have e0 : x.toInt ≠ 0 := gk_ti n0
  have e1 : x.toInt ≠ 1 := gk_ti n1
  have e2 : x.toInt ≠ 2 := gk_ti n2
  omega
theorem gk_out5 {x : Int32} (n0 : ¬ x = 0) (n1 : ¬ x = 1) (n2 : ¬ x = 2) (n3 : ¬ x = 3) (n4 : ¬ x = 4) : x.toInt < 0 ∨ 4 < x.toInt := by
  have e0 : x.toInt ≠ 0 := gk_ti n0
  have e1 : x.toInt ≠ 1 := gk_ti n1
  have e2 : x.toInt ≠ 2 := gk_ti n2
  have e3 : x.toInt ≠ 3 := gk_ti n3
  have e4 : x.toInt ≠ 4 := gk_ti n4
  omega
theorem gk_out104 {x : Int32} (n1 : ¬ x = 1) (n2 : ¬ x = 2) (n3 : ¬ x = 3) (n4 : ¬ x = 4) : x.toInt < 1 ∨ 4 < x.toInt := by
  have e1 : x.toInt ≠ 1 := gk_ti n1
  have e2 : x.toInt ≠ 2 := gk_ti n2
  have e3 : x.toInt ≠ 3 := gk_ti n3
  have e4 : x.toInt ≠ 4 := gk_ti n4
  omega
theorem gk_out6 {x : Int32} (n0 : ¬ x = 0) (n1 : ¬ x = 1) (n2 : ¬ x = 2) (n3 : ¬ x = 3) (n4 : ¬ x = 4) (n5 : ¬ x = 5) : x.toInt < 0 ∨ 5 < x.toInt := by
  have e0 : x.toInt ≠ 0 := gk_ti n0
  have e1 : x.toInt ≠ 1 := gk_ti n1
  have e2 : x.toInt ≠ 2 := gk_ti n2
  have e3 : x.toInt ≠ 3 := gk_ti n3
  have e4 : x.toInt ≠ 4 := gk_ti n4
  have e5 : x.toInt ≠ 5 := gk_ti n5
  omega
theorem gk_out7 {x : Int32} (n0 : ¬ x = 0) (n1 : ¬ x = 1) (n2 : ¬ x = 2) (n3 : ¬ x = 3) (n4 : ¬ x = 4) (n5 : ¬ x = 5) (n6 : ¬ x = 6) : x.toInt < 0 ∨ 6 < x.toInt := by
  have e0 : x.toInt ≠ 0 := gk_ti n0
  have e1 : x.toInt ≠ 1 := gk_ti n1
  have e2 : x.toInt ≠ 2 := gk_ti n2
  have e3 : x.toInt ≠ 3 := gk_ti n3
  have e4 : x.toInt ≠ 4 := gk_ti n4
  have e5 : x.toInt ≠ 5 := gk_ti n5
  have e6 : x.toInt ≠ 6 := gk_ti n6
  omega
