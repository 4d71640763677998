section
/-! the printed start, with one change: the array behind the static FIRST_WEIGHTS has a class of its own: of kind 'array of int', behind all others in the tables, with no superclass and no methods -/
def rf_alien : Class := { start1.cArr "Other" 15 .int with super := none }
def rf_about : State := { start1.about with
  vm := { start1.about.vm with classes := start1.about.vm.classes.push rf_alien }
  heap := start1.about.heap.setIfInBounds 2 { cls := 17, slots := #[.int 1, .int 1, .int 12, .int 0], vm := .none } }
theorem rf_find {vm : Vm} {k : Class} {n : String} {c : ClassId} (h : vm.findClass n = some c) : ({ vm with classes := vm.classes.push k } : Vm).findClass n = some c := by
  unfold Vm.findClass at h ⊢
  simp only [Array.findIdx?_push, h, Option.some_or]
theorem rf_at {cs : Array Class} {k y : Class} {c : ClassId} (h : cs[c]? = some y) : (cs.push k)[c]? = some y := by
  obtain ⟨hlt, hy⟩ := Array.getElem?_eq_some_iff.mp h
  rw [Array.getElem?_push_lt hlt, hy]
theorem rf_meth {x : MethodName} {meth : Method} (h : (start1.about.methodNamed? x).bind start1.about.vm.method? = some meth) : (rf_about.methodNamed? x).bind rf_about.vm.method? = some meth := by
  obtain ⟨m, hm, h⟩ := Option.bind_eq_some_iff.mp h
  obtain ⟨k, hk, hi⟩ := Option.bind_eq_some_iff.mp h
  obtain ⟨c, hc, hm⟩ := Option.bind_eq_some_iff.mp hm
  obtain ⟨k2, hk2, hm⟩ := Option.bind_eq_some_iff.mp hm
  obtain ⟨i, hi2, hm⟩ := Option.bind_eq_some_iff.mp hm
  refine Option.bind_eq_some_iff.mpr ⟨m, ?_, Option.bind_eq_some_iff.mpr ⟨k, rf_at hk, hi⟩⟩
  exact Option.bind_eq_some_iff.mpr ⟨c, rf_find hc, Option.bind_eq_some_iff.mpr ⟨k2, rf_at hk2, Option.bind_eq_some_iff.mpr ⟨i, hi2, hm⟩⟩⟩
theorem rf_code {a : Array Value} {x : MethodName} {b : ByteArray} {n : Nat} {r : Option FieldType} (h : (Cond.code x b n r).before a start1.about = true) : (Cond.code x b n r).before a rf_about = true := by
  simp only [Cond.before, Cond.holds, Cond.value, beq_iff_eq] at h ⊢
  obtain ⟨meth, hm, h⟩ := Option.map_eq_some_iff.mp h
  rw [rf_meth hm]
  simpa using h
theorem rf_codes {l : List Jvm.Cond} (h : ∀ c ∈ l.filter su_isCode, c.before start1.args0 start1.about = true) : ∀ c ∈ l.filter su_isCode, c.before start1.args0 rf_about = true := by
  intro c hc
  have h0 := h c hc
  have hq := (List.mem_filter.mp hc).2
  cases c with
  | code x b n r => exact rf_code h0
  | _ => exact absurd hq (by simp [su_isCode])
end
section
set_option maxRecDepth 16384 in
theorem rf_others_1_0 : (tables_1_1.take 40).all (fun c => su_isCode c || c.before start1.args0 rf_about) = true := by decide +kernel
set_option maxRecDepth 16384 in
theorem rf_others_1_1 : ((tables_1_1.drop 40).take 40).all (fun c => su_isCode c || c.before start1.args0 rf_about) = true := by decide +kernel
set_option maxRecDepth 16384 in
theorem rf_others_1_2 : (((tables_1_1.drop 40).drop 40).take 40).all (fun c => su_isCode c || c.before start1.args0 rf_about) = true := by decide +kernel
set_option maxRecDepth 16384 in
theorem rf_others_1_3 : ((((tables_1_1.drop 40).drop 40).drop 40).take 40).all (fun c => su_isCode c || c.before start1.args0 rf_about) = true := by decide +kernel
set_option maxRecDepth 16384 in
theorem rf_others_1_4 : (((((tables_1_1.drop 40).drop 40).drop 40).drop 40).take 40).all (fun c => su_isCode c || c.before start1.args0 rf_about) = true := by decide +kernel
set_option maxRecDepth 16384 in
theorem rf_others_1_5 : (((((tables_1_1.drop 40).drop 40).drop 40).drop 40).drop 40).all (fun c => su_isCode c || c.before start1.args0 rf_about) = true := by decide +kernel
theorem rf_others_hold_1 : tables_1_1.all (fun c => su_isCode c || c.before start1.args0 rf_about) = true := start1.su_all_split _ 40 tables_1_1 rf_others_1_0 (start1.su_all_split _ 40 (tables_1_1.drop 40) rf_others_1_1 (start1.su_all_split _ 40 ((tables_1_1.drop 40).drop 40) rf_others_1_2 (start1.su_all_split _ 40 (((tables_1_1.drop 40).drop 40).drop 40) rf_others_1_3 (start1.su_all_split _ 40 ((((tables_1_1.drop 40).drop 40).drop 40).drop 40) rf_others_1_4 rf_others_1_5))))
set_option maxRecDepth 16384 in
theorem rf_others_2_0 : (tables_1_2.take 40).all (fun c => su_isCode c || c.before start1.args0 rf_about) = true := by decide +kernel
set_option maxRecDepth 16384 in
theorem rf_others_2_1 : ((tables_1_2.drop 40).take 31).all (fun c => su_isCode c || c.before start1.args0 rf_about) = true := by decide +kernel
set_option maxRecDepth 16384 in
theorem rf_others_2_2 : (((tables_1_2.drop 40).drop 31).take 40).all (fun c => su_isCode c || c.before start1.args0 rf_about) = true := by decide +kernel
set_option maxRecDepth 16384 in
theorem rf_others_2_3 : ((((tables_1_2.drop 40).drop 31).drop 40).take 40).all (fun c => su_isCode c || c.before start1.args0 rf_about) = true := by decide +kernel
set_option maxRecDepth 16384 in
theorem rf_others_2_4 : (((((tables_1_2.drop 40).drop 31).drop 40).drop 40).take 40).all (fun c => su_isCode c || c.before start1.args0 rf_about) = true := by decide +kernel
set_option maxRecDepth 16384 in
theorem rf_others_2_5 : ((((((tables_1_2.drop 40).drop 31).drop 40).drop 40).drop 40).take 40).all (fun c => su_isCode c || c.before start1.args0 rf_about) = true := by decide +kernel
set_option maxRecDepth 16384 in
theorem rf_others_2_6 : ((((((tables_1_2.drop 40).drop 31).drop 40).drop 40).drop 40).drop 40).all (fun c => su_isCode c || c.before start1.args0 rf_about) = true := by decide +kernel
theorem rf_others_hold_2 : tables_1_2.all (fun c => su_isCode c || c.before start1.args0 rf_about) = true := start1.su_all_split _ 40 tables_1_2 rf_others_2_0 (start1.su_all_split _ 31 (tables_1_2.drop 40) rf_others_2_1 (start1.su_all_split _ 40 ((tables_1_2.drop 40).drop 31) rf_others_2_2 (start1.su_all_split _ 40 (((tables_1_2.drop 40).drop 31).drop 40) rf_others_2_3 (start1.su_all_split _ 40 ((((tables_1_2.drop 40).drop 31).drop 40).drop 40) rf_others_2_4 (start1.su_all_split _ 40 (((((tables_1_2.drop 40).drop 31).drop 40).drop 40).drop 40) rf_others_2_5 rf_others_2_6)))))
set_option maxRecDepth 16384 in
theorem rf_others_3_0 : (tables_1_3.take 40).all (fun c => su_isCode c || c.before start1.args0 rf_about) = true := by decide +kernel
set_option maxRecDepth 16384 in
theorem rf_others_3_1 : ((tables_1_3.drop 40).take 40).all (fun c => su_isCode c || c.before start1.args0 rf_about) = true := by decide +kernel
set_option maxRecDepth 16384 in
theorem rf_others_3_2 : (((tables_1_3.drop 40).drop 40).take 40).all (fun c => su_isCode c || c.before start1.args0 rf_about) = true := by decide +kernel
set_option maxRecDepth 16384 in
theorem rf_others_3_3 : ((((tables_1_3.drop 40).drop 40).drop 40).take 40).all (fun c => su_isCode c || c.before start1.args0 rf_about) = true := by decide +kernel
set_option maxRecDepth 16384 in
theorem rf_others_3_4 : (((((tables_1_3.drop 40).drop 40).drop 40).drop 40).take 40).all (fun c => su_isCode c || c.before start1.args0 rf_about) = true := by decide +kernel
set_option maxRecDepth 16384 in
theorem rf_others_3_5 : (((((tables_1_3.drop 40).drop 40).drop 40).drop 40).drop 40).all (fun c => su_isCode c || c.before start1.args0 rf_about) = true := by decide +kernel
theorem rf_others_hold_3 : tables_1_3.all (fun c => su_isCode c || c.before start1.args0 rf_about) = true := start1.su_all_split _ 40 tables_1_3 rf_others_3_0 (start1.su_all_split _ 40 (tables_1_3.drop 40) rf_others_3_1 (start1.su_all_split _ 40 ((tables_1_3.drop 40).drop 40) rf_others_3_2 (start1.su_all_split _ 40 (((tables_1_3.drop 40).drop 40).drop 40) rf_others_3_3 (start1.su_all_split _ 40 ((((tables_1_3.drop 40).drop 40).drop 40).drop 40) rf_others_3_4 rf_others_3_5))))
set_option maxRecDepth 16384 in
theorem rf_others_4_0 : tables_1_4.all (fun c => su_isCode c || c.before start1.args0 rf_about) = true := by decide +kernel
theorem rf_others_hold_4 : tables_1_4.all (fun c => su_isCode c || c.before start1.args0 rf_about) = true := rf_others_4_0
theorem rf_words_1 : ∀ c ∈ tables_1_1, c.before start1.args0 rf_about = true := fun c h => su_words rf_others_hold_1 (rf_codes start1.codes_hold_1) c h
theorem rf_words_2 : ∀ c ∈ tables_1_2, c.before start1.args0 rf_about = true := fun c h => su_words rf_others_hold_2 (rf_codes start1.codes_hold_2) c h
theorem rf_words_3 : ∀ c ∈ tables_1_3, c.before start1.args0 rf_about = true := fun c h => su_words rf_others_hold_3 (rf_codes start1.codes_hold_3) c h
theorem rf_words_4 : ∀ c ∈ tables_1_4, c.before start1.args0 rf_about = true := fun c h => su_words rf_others_hold_4 (rf_codes start1.codes_hold_4) c h
theorem rf_words : ∀ c ∈ (Cond.code x code maxLocals ret :: tables_1), c.before start1.args0 rf_about = true := by
  intro c hc
  rcases List.mem_cons.mp hc with h | h
  · rw [h]; exact rf_code start1.word_code
  · have h1 : c ∈ tables_1_1 ++ (tables_1_2 ++ (tables_1_3 ++ (tables_1_4))) := h
    rcases List.mem_append.mp h1 with h2 | h1
    · exact rf_words_1 c h2
    rcases List.mem_append.mp h1 with h2 | h1
    · exact rf_words_2 c h2
    rcases List.mem_append.mp h1 with h2 | h1
    · exact rf_words_3 c h2
    exact rf_words_4 c h1
set_option maxRecDepth 16384 in
/-- this start meets every premise of the claim -/
theorem rf_atStart : AtStart classFile x code maxLocals ret World_1 tables_1 room_1 Calls_1 rest_1 Pre_1 launch0 start1.p0 start1.e0 rf_about ⟨0, 0⟩ start1.args0 Lib.HandBits.below0 :=
  ⟨lists_1, trivial, launch0.admits_env _ _ _, launch0.least_env, fairChoices_fair.cas, fairChoices_fair.clock, rfl, by decide +kernel, by decide +kernel,
    (Spec.applies_iff rfl).mpr ⟨rfl, rfl, rfl, by decide +kernel, by decide +kernel, by decide +kernel, launch0.hasRoom_least _ room_1 (by decide +kernel) (by decide +kernel) (by decide +kernel) (by decide +kernel) (by decide +kernel) (by decide +kernel), atoms_intro rf_words⟩,
    trivial, (show rest_1_c.before start1.args0 rf_about = true by decide +kernel), (show (Cond.and given_1 narrow_1).before start1.args0 rf_about = true by decide +kernel)⟩
end
