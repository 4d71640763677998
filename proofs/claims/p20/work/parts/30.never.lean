/-! the run from there: first K steps, all of them inside the law; then the machine throws for want of a method, with nobody to catch it -/
def rf_ok (s : State) : Bool := match s.frames with
  | .throwing _ :: _ => false
  | _ :: _ :: _ => true
  | _ => false
theorem rf_ok_not {s : State} {o : Outcome} (h : rf_ok s = true) : ¬ Ended s rf_below o := by
  intro he
  cases o with
  | threw a =>
    have h1 : s.frames = .throwing a :: rf_below := he
    simp [rf_ok, h1] at h
  | returned v =>
    have h1 : ∃ g, s.frames = [Frame.java g] := by
      obtain ⟨_, _, _, _, _, h1⟩ := he
      exact ⟨_, h1⟩
    obtain ⟨g, h1⟩ := h1
    simp [rf_ok, h1] at h
def rf_pre (tb : Tables) (e : Env) : Nat → State → Bool
  | 0, s => rf_ok s
  | n + 1, s => rf_ok s && (match s.status, s.curStatus?, s.alone with
    | .running, some .runnable, true => rf_pre tb e n (stepThread tb e s).1
    | _, _, _ => true)
theorem rf_pre_ok (tb : Tables) (e : Env) : ∀ (n : Nat) (s : State), rf_pre tb e n s = true → ∀ k, k ≤ n → rf_ok (stepsAlone tb e k s) = true := by
  intro n
  induction n with
  | zero =>
    intro s h k hk
    obtain rfl : k = 0 := by omega
    exact h
  | succ n ih =>
    intro s h k hk
    simp only [rf_pre, Bool.and_eq_true] at h
    cases k with
    | zero => exact h.1
    | succ k =>
      have h2 := h.2
      simp only [stepsAlone]
      split
      · rename_i h3 h4 h5
        simp only [h3, h4, h5] at h2
        exact ih _ h2 k (by omega)
      · exact h.1
def rf_dead (s : State) : Bool := match s.frames with
  | [.throwNew _ _ _, .java f, .java g, _] => decide (f.method = ⟨2, 0⟩) && f.locked.isNone && f.entered.isEmpty && decide (g.method = ⟨0, 0⟩) && g.locked.isNone && g.entered.isEmpty
  | _ => false
theorem rf_dead_frames {s : State} (h : rf_dead s = true) (hw : Within s rf_below) : ∃ (N : Frame) (f g : JFrame), s.frames = N :: .java f :: .java g :: rf_below ∧ Refuse.Thr N ∧ f.method = ⟨2, 0⟩ ∧ f.locked = none ∧ f.entered = [] ∧ g.method = ⟨0, 0⟩ ∧ g.locked = none ∧ g.entered = [] := by
  unfold rf_dead at h
  split at h
  · rename_i c msg cause f g y hf
    simp only [Bool.and_eq_true, decide_eq_true_eq, Option.isNone_iff_eq_none, List.isEmpty_iff] at h
    obtain ⟨⟨⟨⟨⟨h1, h2⟩, h3⟩, h4⟩, h5⟩, h6⟩ := h
    refine ⟨.throwNew c msg cause, f, g, ?_, trivial, h1, h2, h3, h4, h5, h6⟩
    obtain ⟨above, ha, -, -⟩ := hw
    have hy : some y = some (Frame.java { method := ⟨0, 0⟩, pc := 0, locals := #[], stack := [], locked := none }) := by
      have hl := congrArg List.getLast? (hf.symm.trans ha)
      simpa [rf_below] using hl
    rw [hf, Option.some.inj hy]
    rfl
  · exact absurd h (by simp)
def rf_ctor : Method := Lib.HandJ.method "<init>" "()V" [] none 0x1 2 prog_1_method_1_code
theorem rf_ctor_at : rf_about.vm.method? ⟨2, 0⟩ = some rf_ctor := rfl
theorem rf_law_at : rf_about.vm.method? ⟨0, 0⟩ = some start1.mLaw := rfl
theorem rf_cert {tb : Tables} {s : State} {N : Frame} {f g : JFrame} (hf : s.frames = N :: .java f :: .java g :: rf_below) (hN : Refuse.Thr N) (h1 : f.method = ⟨2, 0⟩) (h2 : f.locked = none) (h3 : f.entered = [])
    (h4 : g.method = ⟨0, 0⟩) (h5 : g.locked = none) (h6 : g.entered = []) (hm : s.vm.method? ⟨2, 0⟩ = some rf_ctor) (hm0 : s.vm.method? ⟨0, 0⟩ = some start1.mLaw) : Refuse.Cert tb rf_below s :=
  ⟨_, _, Refuse.holds_via (meth := start1.mLaw) (Refuse.holds_raise (meth := rf_ctor) (Refuse.Misses.of_empty rfl) rfl rfl h1 h2 h3) (Refuse.Misses.of_empty rfl) rfl rfl h4 h5 h6, ⟨hm, hm0⟩, .inl (.inl (.inl ⟨[], N, hf, hN.mark, trivial⟩))⟩
