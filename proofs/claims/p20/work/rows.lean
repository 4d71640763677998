section
/-! the printed start, with one change that matters: the array behind the static FIRST_WEIGHTS has a class of its own: of kind 'array of int', behind all others in the tables, with no superclass, no interfaces and no methods. (And the law's invoker is a bytecode frame, not a native's: it hears of a value as well.) -/
def rf_alien : Class := { start1.cArr "Other" 15 .int with super := none }
def rf_below : List Frame := [.java { method := ⟨0, 0⟩, pc := 0, locals := #[], stack := [], locked := none }]
def rf_about : State := { start1.about with
  vm := { start1.about.vm with classes := start1.about.vm.classes.push rf_alien }
  heap := start1.about.heap.setIfInBounds 2 { cls := 17, slots := #[.int 1, .int 1, .int 12, .int 0], vm := .none }
  threads := #[{ frames := .invoking ⟨0, 0⟩ start1.args0 :: rf_below }] }
theorem rf_find {vm : Vm} {k : Class} {n : String} {c : ClassId} (h : vm.findClass n = some c) : ({ vm with classes := vm.classes.push k } : Vm).findClass n = some c := by
  unfold Vm.findClass at h ⊢
  simp only [Array.findIdx?_push, h, Option.some_or]
theorem rf_at {cs : Array Class} {k y : Class} {c : ClassId} (h : cs[c]? = some y) : (cs.push k)[c]? = some y := by
  obtain ⟨hlt, hy⟩ := Array.getElem?_eq_some_iff.mp h
  rw [Array.getElem?_push_lt hlt, hy]
theorem rf_meth {x : MethodName} {meth : Method} (h : (start1.about.methodNamed? x).bind start1.about.vm.method? = some meth) : (rf_about.methodNamed? x).bind rf_about.vm.method? = some meth := by
  obtain ⟨m, hm, h⟩ := Option.bind_eq_some_iff.mp h
  obtain ⟨k, hk, hi⟩ := Option.bind_eq_some_iff.mp h
  obtain ⟨c, hc, hm⟩ := Option.bind_eq_some_iff.mp hm
  obtain ⟨k2, hk2, hm⟩ := Option.bind_eq_some_iff.mp hm
  obtain ⟨i, hi2, hm⟩ := Option.bind_eq_some_iff.mp hm
  refine Option.bind_eq_some_iff.mpr ⟨m, ?_, Option.bind_eq_some_iff.mpr ⟨k, rf_at hk, hi⟩⟩
  exact Option.bind_eq_some_iff.mpr ⟨c, rf_find hc, Option.bind_eq_some_iff.mpr ⟨k2, rf_at hk2, Option.bind_eq_some_iff.mpr ⟨i, hi2, hm⟩⟩⟩
theorem rf_code {a : Array Value} {x : MethodName} {b : ByteArray} {n : Nat} {r : Option FieldType} (h : (Cond.code x b n r).before a start1.about = true) : (Cond.code x b n r).before a rf_about = true := by
  simp only [Cond.before, Cond.holds, Cond.value, beq_iff_eq] at h ⊢
  obtain ⟨meth, hm, h⟩ := Option.map_eq_some_iff.mp h
  rw [rf_meth hm]
  simpa using h
theorem rf_codes {l : List Jvm.Cond} (h : ∀ c ∈ l.filter su_isCode, c.before start1.args0 start1.about = true) : ∀ c ∈ l.filter su_isCode, c.before start1.args0 rf_about = true := by
  intro c hc
  have h0 := h c hc
  have hq := (List.mem_filter.mp hc).2
  cases c with
  | code x b n r => exact rf_code h0
  | _ => exact absurd hq (by simp [su_isCode])
end
section
set_option maxRecDepth 16384 in
theorem rf_others_1_0 : (tables_1_1.take 40).all (fun c => su_isCode c || c.before start1.args0 rf_about) = true := by decide +kernel
set_option maxRecDepth 16384 in
theorem rf_others_1_1 : ((tables_1_1.drop 40).take 40).all (fun c => su_isCode c || c.before start1.args0 rf_about) = true := by decide +kernel
set_option maxRecDepth 16384 in
theorem rf_others_1_2 : (((tables_1_1.drop 40).drop 40).take 40).all (fun c => su_isCode c || c.before start1.args0 rf_about) = true := by decide +kernel
set_option maxRecDepth 16384 in
theorem rf_others_1_3 : ((((tables_1_1.drop 40).drop 40).drop 40).take 40).all (fun c => su_isCode c || c.before start1.args0 rf_about) = true := by decide +kernel
set_option maxRecDepth 16384 in
theorem rf_others_1_4 : (((((tables_1_1.drop 40).drop 40).drop 40).drop 40).take 40).all (fun c => su_isCode c || c.before start1.args0 rf_about) = true := by decide +kernel
set_option maxRecDepth 16384 in
theorem rf_others_1_5 : (((((tables_1_1.drop 40).drop 40).drop 40).drop 40).drop 40).all (fun c => su_isCode c || c.before start1.args0 rf_about) = true := by decide +kernel
theorem rf_others_hold_1 : tables_1_1.all (fun c => su_isCode c || c.before start1.args0 rf_about) = true := start1.su_all_split _ 40 tables_1_1 rf_others_1_0 (start1.su_all_split _ 40 (tables_1_1.drop 40) rf_others_1_1 (start1.su_all_split _ 40 ((tables_1_1.drop 40).drop 40) rf_others_1_2 (start1.su_all_split _ 40 (((tables_1_1.drop 40).drop 40).drop 40) rf_others_1_3 (start1.su_all_split _ 40 ((((tables_1_1.drop 40).drop 40).drop 40).drop 40) rf_others_1_4 rf_others_1_5))))
set_option maxRecDepth 16384 in
theorem rf_others_2_0 : (tables_1_2.take 40).all (fun c => su_isCode c || c.before start1.args0 rf_about) = true := by decide +kernel
set_option maxRecDepth 16384 in
theorem rf_others_2_1 : ((tables_1_2.drop 40).take 31).all (fun c => su_isCode c || c.before start1.args0 rf_about) = true := by decide +kernel
set_option maxRecDepth 16384 in
theorem rf_others_2_2 : (((tables_1_2.drop 40).drop 31).take 40).all (fun c => su_isCode c || c.before start1.args0 rf_about) = true := by decide +kernel
set_option maxRecDepth 16384 in
theorem rf_others_2_3 : ((((tables_1_2.drop 40).drop 31).drop 40).take 40).all (fun c => su_isCode c || c.before start1.args0 rf_about) = true := by decide +kernel
set_option maxRecDepth 16384 in
theorem rf_others_2_4 : (((((tables_1_2.drop 40).drop 31).drop 40).drop 40).take 40).all (fun c => su_isCode c || c.before start1.args0 rf_about) = true := by decide +kernel
set_option maxRecDepth 16384 in
theorem rf_others_2_5 : ((((((tables_1_2.drop 40).drop 31).drop 40).drop 40).drop 40).take 40).all (fun c => su_isCode c || c.before start1.args0 rf_about) = true := by decide +kernel
set_option maxRecDepth 16384 in
theorem rf_others_2_6 : ((((((tables_1_2.drop 40).drop 31).drop 40).drop 40).drop 40).drop 40).all (fun c => su_isCode c || c.before start1.args0 rf_about) = true := by decide +kernel
theorem rf_others_hold_2 : tables_1_2.all (fun c => su_isCode c || c.before start1.args0 rf_about) = true := start1.su_all_split _ 40 tables_1_2 rf_others_2_0 (start1.su_all_split _ 31 (tables_1_2.drop 40) rf_others_2_1 (start1.su_all_split _ 40 ((tables_1_2.drop 40).drop 31) rf_others_2_2 (start1.su_all_split _ 40 (((tables_1_2.drop 40).drop 31).drop 40) rf_others_2_3 (start1.su_all_split _ 40 ((((tables_1_2.drop 40).drop 31).drop 40).drop 40) rf_others_2_4 (start1.su_all_split _ 40 (((((tables_1_2.drop 40).drop 31).drop 40).drop 40).drop 40) rf_others_2_5 rf_others_2_6)))))
set_option maxRecDepth 16384 in
theorem rf_others_3_0 : (tables_1_3.take 40).all (fun c => su_isCode c || c.before start1.args0 rf_about) = true := by decide +kernel
set_option maxRecDepth 16384 in
theorem rf_others_3_1 : ((tables_1_3.drop 40).take 40).all (fun c => su_isCode c || c.before start1.args0 rf_about) = true := by decide +kernel
set_option maxRecDepth 16384 in
theorem rf_others_3_2 : (((tables_1_3.drop 40).drop 40).take 40).all (fun c => su_isCode c || c.before start1.args0 rf_about) = true := by decide +kernel
set_option maxRecDepth 16384 in
theorem rf_others_3_3 : ((((tables_1_3.drop 40).drop 40).drop 40).take 40).all (fun c => su_isCode c || c.before start1.args0 rf_about) = true := by decide +kernel
set_option maxRecDepth 16384 in
theorem rf_others_3_4 : (((((tables_1_3.drop 40).drop 40).drop 40).drop 40).take 40).all (fun c => su_isCode c || c.before start1.args0 rf_about) = true := by decide +kernel
set_option maxRecDepth 16384 in
theorem rf_others_3_5 : (((((tables_1_3.drop 40).drop 40).drop 40).drop 40).drop 40).all (fun c => su_isCode c || c.before start1.args0 rf_about) = true := by decide +kernel
theorem rf_others_hold_3 : tables_1_3.all (fun c => su_isCode c || c.before start1.args0 rf_about) = true := start1.su_all_split _ 40 tables_1_3 rf_others_3_0 (start1.su_all_split _ 40 (tables_1_3.drop 40) rf_others_3_1 (start1.su_all_split _ 40 ((tables_1_3.drop 40).drop 40) rf_others_3_2 (start1.su_all_split _ 40 (((tables_1_3.drop 40).drop 40).drop 40) rf_others_3_3 (start1.su_all_split _ 40 ((((tables_1_3.drop 40).drop 40).drop 40).drop 40) rf_others_3_4 rf_others_3_5))))
set_option maxRecDepth 16384 in
theorem rf_others_4_0 : tables_1_4.all (fun c => su_isCode c || c.before start1.args0 rf_about) = true := by decide +kernel
theorem rf_others_hold_4 : tables_1_4.all (fun c => su_isCode c || c.before start1.args0 rf_about) = true := rf_others_4_0
theorem rf_words_1 : ∀ c ∈ tables_1_1, c.before start1.args0 rf_about = true := fun c h => su_words rf_others_hold_1 (rf_codes start1.codes_hold_1) c h
theorem rf_words_2 : ∀ c ∈ tables_1_2, c.before start1.args0 rf_about = true := fun c h => su_words rf_others_hold_2 (rf_codes start1.codes_hold_2) c h
theorem rf_words_3 : ∀ c ∈ tables_1_3, c.before start1.args0 rf_about = true := fun c h => su_words rf_others_hold_3 (rf_codes start1.codes_hold_3) c h
theorem rf_words_4 : ∀ c ∈ tables_1_4, c.before start1.args0 rf_about = true := fun c h => su_words rf_others_hold_4 (rf_codes start1.codes_hold_4) c h
theorem rf_words : ∀ c ∈ (Cond.code x code maxLocals ret :: tables_1), c.before start1.args0 rf_about = true := by
  intro c hc
  rcases List.mem_cons.mp hc with h | h
  · rw [h]; exact rf_code start1.word_code
  · have h1 : c ∈ tables_1_1 ++ (tables_1_2 ++ (tables_1_3 ++ (tables_1_4))) := h
    rcases List.mem_append.mp h1 with h2 | h1
    · exact rf_words_1 c h2
    rcases List.mem_append.mp h1 with h2 | h1
    · exact rf_words_2 c h2
    rcases List.mem_append.mp h1 with h2 | h1
    · exact rf_words_3 c h2
    exact rf_words_4 c h1
set_option maxRecDepth 16384 in
/-- this start meets every premise of the claim -/
theorem rf_atStart : AtStart classFile x code maxLocals ret World_1 tables_1 room_1 Calls_1 rest_1 Pre_1 launch0 start1.p0 start1.e0 rf_about ⟨0, 0⟩ start1.args0 rf_below :=
  ⟨lists_1, trivial, launch0.admits_env _ _ _, launch0.least_env, fairChoices_fair.cas, fairChoices_fair.clock, rfl, by decide +kernel, by decide +kernel,
    (Spec.applies_iff rfl).mpr ⟨rfl, rfl, rfl, by decide +kernel, by decide +kernel, by decide +kernel, launch0.hasRoom_least _ room_1 (by decide +kernel) (by decide +kernel) (by decide +kernel) (by decide +kernel) (by decide +kernel) (by decide +kernel), atoms_intro rf_words⟩,
    trivial, (show rest_1_c.before start1.args0 rf_about = true by decide +kernel), (show (Cond.and given_1 narrow_1).before start1.args0 rf_about = true by decide +kernel)⟩
end
section
/-! the run from there: first K steps, all of them inside the law; then the machine throws for want of a method, with nobody to catch it -/
def rf_ok (s : State) : Bool := match s.frames with
  | .throwing _ :: _ => false
  | _ :: _ :: _ => true
  | _ => false
theorem rf_ok_not {s : State} {o : Outcome} (h : rf_ok s = true) : ¬ Ended s rf_below o := by
  intro he
  cases o with
  | threw a =>
    have h1 : s.frames = .throwing a :: rf_below := he
    simp [rf_ok, h1] at h
  | returned v =>
    have h1 : ∃ g, s.frames = [Frame.java g] := by
      obtain ⟨_, _, _, _, _, h1⟩ := he
      exact ⟨_, h1⟩
    obtain ⟨g, h1⟩ := h1
    simp [rf_ok, h1] at h
def rf_pre (tb : Tables) (e : Env) : Nat → State → Bool
  | 0, s => rf_ok s
  | n + 1, s => rf_ok s && (match s.status, s.curStatus?, s.alone with
    | .running, some .runnable, true => rf_pre tb e n (stepThread tb e s).1
    | _, _, _ => true)
theorem rf_pre_ok (tb : Tables) (e : Env) : ∀ (n : Nat) (s : State), rf_pre tb e n s = true → ∀ k, k ≤ n → rf_ok (stepsAlone tb e k s) = true := by
  intro n
  induction n with
  | zero =>
    intro s h k hk
    obtain rfl : k = 0 := by omega
    exact h
  | succ n ih =>
    intro s h k hk
    simp only [rf_pre, Bool.and_eq_true] at h
    cases k with
    | zero => exact h.1
    | succ k =>
      have h2 := h.2
      simp only [stepsAlone]
      split
      · rename_i h3 h4 h5
        simp only [h3, h4, h5] at h2
        exact ih _ h2 k (by omega)
      · exact h.1
def rf_dead (s : State) : Bool := match s.frames with
  | [.throwNew _ _ _, .java f, .java g, _] => decide (f.method = ⟨2, 0⟩) && f.locked.isNone && f.entered.isEmpty && decide (g.method = ⟨0, 0⟩) && g.locked.isNone && g.entered.isEmpty
  | _ => false
theorem rf_dead_frames {s : State} (h : rf_dead s = true) (hw : Within s rf_below) : ∃ (N : Frame) (f g : JFrame), s.frames = N :: .java f :: .java g :: rf_below ∧ Refuse.Thr N ∧ f.method = ⟨2, 0⟩ ∧ f.locked = none ∧ f.entered = [] ∧ g.method = ⟨0, 0⟩ ∧ g.locked = none ∧ g.entered = [] := by
  unfold rf_dead at h
  split at h
  · rename_i c msg cause f g y hf
    simp only [Bool.and_eq_true, decide_eq_true_eq, Option.isNone_iff_eq_none, List.isEmpty_iff] at h
    obtain ⟨⟨⟨⟨⟨h1, h2⟩, h3⟩, h4⟩, h5⟩, h6⟩ := h
    refine ⟨.throwNew c msg cause, f, g, ?_, trivial, h1, h2, h3, h4, h5, h6⟩
    obtain ⟨above, ha, -, -⟩ := hw
    have hy : some y = some (Frame.java { method := ⟨0, 0⟩, pc := 0, locals := #[], stack := [], locked := none }) := by
      have hl := congrArg List.getLast? (hf.symm.trans ha)
      simpa [rf_below] using hl
    rw [hf, Option.some.inj hy]
    rfl
  · exact absurd h (by simp)
def rf_ctor : Method := Lib.HandJ.method "<init>" "()V" [] none 0x1 2 prog_1_method_1_code
theorem rf_ctor_at : rf_about.vm.method? ⟨2, 0⟩ = some rf_ctor := rfl
theorem rf_law_at : rf_about.vm.method? ⟨0, 0⟩ = some start1.mLaw := rfl
theorem rf_cert {tb : Tables} {s : State} {N : Frame} {f g : JFrame} (hf : s.frames = N :: .java f :: .java g :: rf_below) (hN : Refuse.Thr N) (h1 : f.method = ⟨2, 0⟩) (h2 : f.locked = none) (h3 : f.entered = [])
    (h4 : g.method = ⟨0, 0⟩) (h5 : g.locked = none) (h6 : g.entered = []) (hm : s.vm.method? ⟨2, 0⟩ = some rf_ctor) (hm0 : s.vm.method? ⟨0, 0⟩ = some start1.mLaw) : Refuse.Cert tb rf_below s :=
  ⟨_, _, Refuse.holds_via (meth := start1.mLaw) (Refuse.holds_raise (meth := rf_ctor) (Refuse.Misses.of_empty rfl) rfl rfl h1 h2 h3) (Refuse.Misses.of_empty rfl) rfl rfl h4 h5 h6, ⟨hm, hm0⟩, .inl (.inl (.inl ⟨[], N, hf, hN.mark, trivial⟩))⟩
end
section
set_option maxRecDepth 65536 in
theorem rf_run : rf_pre start1.p0.tables start1.e0 43 rf_about = true := by decide +kernel
set_option maxRecDepth 65536 in
theorem rf_run_dead : rf_dead (stepsAlone start1.p0.tables start1.e0 43 rf_about) = true := by decide +kernel
end
section
theorem rf_never {Post : Tables → Env → Array Value → State → Outcome → State → Prop} (hP : ∀ tb e a s o t, Post tb e a s o t → ∃ v : Option Value, o = Outcome.returned v) :
    ¬ ArmFor flags0 classFile x code maxLocals ret World_1 tables_1 room_1 Calls_1 rest_1 Pre_1 Post := by
  intro hC
  obtain ⟨hL, hW, had, -, hcas, hclk, hfr, hfit, hheap, happ, hcalls, hrest, hpre⟩ := rf_atStart
  obtain ⟨n, o, hin, -, hend, hpost⟩ := hC launch0 rfl hL hW start1.p0 start1.e0 had hcas hclk rf_about ⟨0, 0⟩ start1.args0 rf_below hfr hfit hheap happ ⟨hcalls, hrest, hpre⟩
  have hK : 43 < n := by
    rcases Nat.lt_or_ge 43 n with h | h
    · exact h
    · exact absurd hend (rf_ok_not (rf_pre_ok _ _ 43 _ rf_run n h))
  obtain ⟨N, f, g, hf, hN, h1, h2, h3, h4, h5, h6⟩ := rf_dead_frames rf_run_dead (hin 43 hK)
  have hd := (rf_cert (tb := start1.p0.tables) hf hN h1 h2 h3 h4 h5 h6 (Refuse.stepsAlone_method? _ _ 43 rf_ctor_at) (Refuse.stepsAlone_method? _ _ 43 rf_law_at)).doomed start1.e0
  have hal := hd (n - 43) (fun k hk => by
    have := hin (43 + k) (by omega)
    rwa [stepsAlone_add] at this)
  rw [← stepsAlone_add, Nat.add_sub_cancel' (Nat.le_of_lt hK)] at hal
  obtain ⟨v, rfl⟩ := hP _ _ _ _ _ _ hpost
  exact Refuse.Alive.not_returned (fun g r hb => by simp [rf_below] at hb) hal v hend
/-- BOTH HALVES OF THE CLAIM AS WRITTEN ARE FALSE: at the start rf_about, which meets every premise, the law doesn't return -/
theorem rf_refuted_1 : ¬ Claimed_1_1 := rf_never fun _ _ _ _ _ _ h => h.2.1
theorem rf_refuted_2 : ¬ Claimed_1_2 := rf_never fun _ _ _ _ _ _ h => h.2.1
theorem rf_refuted : ¬ (Claimed_1_1 ∧ Claimed_1_2) := fun h => rf_refuted_1 h.1
end
