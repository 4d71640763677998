/-! the printed start, with one change that matters: the array behind the static FIRST_WEIGHTS has a class of its own: of kind 'array of int', behind all others in the tables, with no superclass, no interfaces and no methods. (And the law's invoker is a bytecode frame, not a native's: it hears of a value as well.) -/
def rf_alien : Class := { start1.cArr "Other" 15 .int with super := none }
def rf_below : List Frame := [.java { method := ⟨0, 0⟩, pc := 0, locals := #[], stack := [], locked := none }]
def rf_about : State := { start1.about with
  vm := { start1.about.vm with classes := start1.about.vm.classes.push rf_alien }
  heap := start1.about.heap.setIfInBounds 2 { cls := 17, slots := #[.int 1, .int 1, .int 12, .int 0], vm := .none }
  threads := #[{ frames := .invoking ⟨0, 0⟩ start1.args0 :: rf_below }] }
theorem rf_find {vm : Vm} {k : Class} {n : String} {c : ClassId} (h : vm.findClass n = some c) : ({ vm with classes := vm.classes.push k } : Vm).findClass n = some c := by
  unfold Vm.findClass at h ⊢
  simp only [Array.findIdx?_push, h, Option.some_or]
theorem rf_at {cs : Array Class} {k y : Class} {c : ClassId} (h : cs[c]? = some y) : (cs.push k)[c]? = some y := by
  obtain ⟨hlt, hy⟩ := Array.getElem?_eq_some_iff.mp h
  rw [Array.getElem?_push_lt hlt, hy]
theorem rf_meth {x : MethodName} {meth : Method} (h : (start1.about.methodNamed? x).bind start1.about.vm.method? = some meth) : (rf_about.methodNamed? x).bind rf_about.vm.method? = some meth := by
  obtain ⟨m, hm, h⟩ := Option.bind_eq_some_iff.mp h
  obtain ⟨k, hk, hi⟩ := Option.bind_eq_some_iff.mp h
  obtain ⟨c, hc, hm⟩ := Option.bind_eq_some_iff.mp hm
  obtain ⟨k2, hk2, hm⟩ := Option.bind_eq_some_iff.mp hm
  obtain ⟨i, hi2, hm⟩ := Option.bind_eq_some_iff.mp hm
  refine Option.bind_eq_some_iff.mpr ⟨m, ?_, Option.bind_eq_some_iff.mpr ⟨k, rf_at hk, hi⟩⟩
  exact Option.bind_eq_some_iff.mpr ⟨c, rf_find hc, Option.bind_eq_some_iff.mpr ⟨k2, rf_at hk2, Option.bind_eq_some_iff.mpr ⟨i, hi2, hm⟩⟩⟩
theorem rf_code {a : Array Value} {x : MethodName} {b : ByteArray} {n : Nat} {r : Option FieldType} (h : (Cond.code x b n r).before a start1.about = true) : (Cond.code x b n r).before a rf_about = true := by
  simp only [Cond.before, Cond.holds, Cond.value, beq_iff_eq] at h ⊢
  obtain ⟨meth, hm, h⟩ := Option.map_eq_some_iff.mp h
  rw [rf_meth hm]
  simpa using h
theorem rf_codes {l : List Jvm.Cond} (h : ∀ c ∈ l.filter su_isCode, c.before start1.args0 start1.about = true) : ∀ c ∈ l.filter su_isCode, c.before start1.args0 rf_about = true := by
  intro c hc
  have h0 := h c hc
  have hq := (List.mem_filter.mp hc).2
  cases c with
  | code x b n r => exact rf_code h0
  | _ => exact absurd hq (by simp [su_isCode])
