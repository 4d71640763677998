-- bounds under which the class's numbers tell what the reference's do
def gB (F T P Wt : Nat → Int32) (o : Nat → Nat) (n nv : Nat) : Prop := (∀ la r v, r < n → laV nv r la → v < nv → adC F T P Wt (lnO o la) (o r) v = encC (prc F T P Wt o la r v) ∧ (prc F T P Wt o la r v = 2000000000 ∨ (0 ≤ (prc F T P Wt o la r v).toInt ∧ (prc F T P Wt o la r v).toInt ≤ 130000000))) ∧ (∀ r la, r ≤ n → laV nv r la → dp F T P Wt o nv (n - r) r la = 2000000000 ∨ (0 ≤ (dp F T P Wt o nv (n - r) r la).toInt ∧ (dp F T P Wt o nv (n - r) r la).toInt ≤ ((n - r : Nat) : Int) * 130000000))
def inB (x : Int32) : Prop := x = 2000000000 ∨ (0 ≤ x.toInt ∧ x.toInt < 2000000000)
theorem inB_m1 {x : Int32} (h : inB x) : ¬ x = -1 := by
  rcases h with h | h
  · rw [h]
    decide
  · intro e
    rw [e, tIm1] at h
    omega
theorem inB_ne {x : Int32} (h : 0 ≤ x.toInt ∧ x.toInt < 2000000000) : ¬ x = 2000000000 := fun e => by
  rw [e, tIbig] at h
  omega
theorem add_B {x y : Int32} {a b : Int} (hx : 0 ≤ x.toInt ∧ x.toInt ≤ a) (hy : 0 ≤ y.toInt ∧ y.toInt ≤ b) (hab : a + b < 2000000000) : 0 ≤ (x + y).toInt ∧ (x + y).toInt ≤ a + b ∧ (x + y).toInt = x.toInt + y.toInt := by
  have e : (x + y).toInt = x.toInt + y.toInt := by
    rw [Int32.toInt_add]
    exact Int.bmod_eq_of_le (by omega) (by omega)
  rw [e]
  omega
theorem dp_B {F T P Wt : Nat → Int32} {o la : Nat → Nat} {n nv r : Nat} (hn : n ≤ 14) (h : gB F T P Wt o n nv) (hr : r ≤ n) (hla : laV nv r la) : inB (dp F T P Wt o nv (n - r) r la) := by
  rcases h.2 r la hr hla with e | e
  · exact Or.inl e
  · exact Or.inr ⟨e.1, by omega⟩
theorem thr_B {F T P Wt : Nat → Int32} {o la : Nat → Nat} {n nv r v : Nat} (hn : n ≤ 14) (h : gB F T P Wt o n nv) (hr : r < n) (hla : laV nv r la) (hv : v < nv) : inB (thr (dp F T P Wt o nv (n - (r + 1)) (r + 1)) (prc F T P Wt o la r) la r v) := by
  unfold thr
  split
  · exact Or.inl rfl
  · rename_i h1
    split
    · exact Or.inl rfl
    · rename_i h2
      have p1 := ((h.1 la r v hr hla hv).2.resolve_left h1)
      have p2 := ((h.2 (r + 1) (updN la v (r + 1)) (by omega) (laV_up hla hv)).resolve_left h2)
      have := add_B p1 p2 (by omega)
      exact Or.inr ⟨this.1, by omega⟩
theorem thrC_1 {F T P Wt : Nat → Int32} {o la : Nat → Nat} {n nv r v : Nat} (h : gB F T P Wt o n nv) (hr : r < n) (hla : laV nv r la) (hv : v < nv) (c : adC F T P Wt (lnO o la) (o r) v = -1) : -1 = encC (thr (dp F T P Wt o nv (n - (r + 1)) (r + 1)) (prc F T P Wt o la r) la r v) := by
  obtain ⟨e, b⟩ := h.1 la r v hr hla hv
  have b2 : inB (prc F T P Wt o la r v) := b.elim Or.inl (fun q => Or.inr ⟨q.1, by omega⟩)
  rw [e, encC_m (inB_m1 b2)] at c
  rw [← thr_1 c]
  rfl
theorem thrC_2 {F T P Wt : Nat → Int32} {o la : Nat → Nat} {n nv r v : Nat} (hn : n ≤ 14) (h : gB F T P Wt o n nv) (hr : r < n) (hla : laV nv r la) (hv : v < nv) (c : ¬ adC F T P Wt (lnO o la) (o r) v = -1) (c2 : encC (dp F T P Wt o nv (n - (r + 1)) (r + 1) (updN la v (r + 1))) = -1) : -1 = encC (thr (dp F T P Wt o nv (n - (r + 1)) (r + 1)) (prc F T P Wt o la r) la r v) := by
  obtain ⟨e, b⟩ := h.1 la r v hr hla hv
  have b2 : inB (prc F T P Wt o la r v) := b.elim Or.inl (fun q => Or.inr ⟨q.1, by omega⟩)
  rw [e, encC_m (inB_m1 b2)] at c
  rw [encC_m (inB_m1 (dp_B hn h (by omega) (laV_up hla hv)))] at c2
  rw [← thr_2 c c2]
  rfl
theorem thrC_3 {F T P Wt : Nat → Int32} {o la : Nat → Nat} {n nv r v : Nat} (hn : n ≤ 14) (h : gB F T P Wt o n nv) (hr : r < n) (hla : laV nv r la) (hv : v < nv) (c : ¬ adC F T P Wt (lnO o la) (o r) v = -1) (c2 : ¬ encC (dp F T P Wt o nv (n - (r + 1)) (r + 1) (updN la v (r + 1))) = -1) : adC F T P Wt (lnO o la) (o r) v + encC (dp F T P Wt o nv (n - (r + 1)) (r + 1) (updN la v (r + 1))) = encC (thr (dp F T P Wt o nv (n - (r + 1)) (r + 1)) (prc F T P Wt o la r) la r v) := by
  obtain ⟨e, b⟩ := h.1 la r v hr hla hv
  have b2 : inB (prc F T P Wt o la r v) := b.elim Or.inl (fun q => Or.inr ⟨q.1, by omega⟩)
  rw [e] at c ⊢
  rw [encC_m (inB_m1 b2)] at c
  rw [encC_m (inB_m1 (dp_B hn h (by omega) (laV_up hla hv)))] at c2
  rw [encC_s c, encC_s c2]
  have hT := thr_3 (dpn := dp F T P Wt o nv (n - (r + 1)) (r + 1)) (pr := prc F T P Wt o la r) (la := la) (r := r) (v := v) c c2
  have p1 := b.resolve_left c
  have p2 := (h.2 (r + 1) (updN la v (r + 1)) (by omega) (laV_up hla hv)).resolve_left c2
  have p3 := add_B p1 p2 (by omega)
  rw [← hT, encC_s (inB_ne ⟨p3.1, by omega⟩)]
theorem mn_B {p : Nat → Int32} : ∀ {k : Nat}, (∀ v, v < k → inB (p v)) → inB (mn p k).2
  | 0, _ => Or.inl rfl
  | k + 1, h => by
    simp only [mn]
    split
    · exact h k (Nat.lt_succ_self k)
    · exact mn_B (fun v hv => h v (by omega))
theorem onw_y {p : Nat → Int32} {k : Nat} (h : ∀ v, v < k + 1 → inB (p v)) (c1 : ¬ encC (p k) = -1) (c2 : encC (mn p k).2 = -1 ∨ encC (p k) < encC (mn p k).2) : encC (p k) = encC (mn p (k + 1)).2 := by
  have b1 := h k (Nat.lt_succ_self k)
  have b2 := mn_B (p := p) (k := k) (fun v hv => h v (by omega))
  rw [encC_m (inB_m1 b1)] at c1
  rw [encC_m (inB_m1 b2)] at c2
  have : p k < (mn p k).2 := by
    rcases c2 with e | e
    · rw [e, Int32.lt_iff_toInt_lt, tIbig]
      exact (b1.resolve_left c1).2
    · rw [encC_s c1] at e
      by_cases z : (mn p k).2 = 2000000000
      · rw [z, Int32.lt_iff_toInt_lt, tIbig]
        exact (b1.resolve_left c1).2
      · rwa [encC_s z] at e
  rw [mn_y this]
theorem onw_n1 {p : Nat → Int32} {k : Nat} (h : ∀ v, v < k + 1 → inB (p v)) (c1 : encC (p k) = -1) : encC (mn p k).2 = encC (mn p (k + 1)).2 := by
  have b1 := h k (Nat.lt_succ_self k)
  have b2 := mn_B (p := p) (k := k) (fun v hv => h v (by omega))
  rw [encC_m (inB_m1 b1)] at c1
  rw [mn_n]
  rw [c1, Int32.lt_iff_toInt_lt, tIbig]
  rcases b2 with e | e
  · rw [e, tIbig]
    omega
  · omega
theorem onw_n2 {p : Nat → Int32} {k : Nat} (h : ∀ v, v < k + 1 → inB (p v)) (c1 : ¬ encC (p k) = -1) (c2 : ¬ encC (mn p k).2 = -1) (c3 : ¬ encC (p k) < encC (mn p k).2) : encC (mn p k).2 = encC (mn p (k + 1)).2 := by
  have b1 := h k (Nat.lt_succ_self k)
  have b2 := mn_B (p := p) (k := k) (fun v hv => h v (by omega))
  rw [encC_m (inB_m1 b1)] at c1
  rw [encC_m (inB_m1 b2)] at c2
  rw [encC_s c1, encC_s c2] at c3
  rw [mn_n c3]
-- what is known
def kiP (F T P Wt : Nat → Int32) (o : Nat → Nat) (n nv : Nat) (KN : Nat → Int32) : Prop := ∀ r la, r < n → laV nv r la → KN (stt n la nv) = -2 ∨ KN (stt n la nv) = encC (dp F T P Wt o nv (n - r) r la)
theorem kiP_set {F T P Wt : Nat → Int32} {o la : Nat → Nat} {n nv r : Nat} {KN : Nat → Int32} (h : kiP F T P Wt o n nv KN) (hr : r < n) (hla : laV nv r la) : kiP F T P Wt o n nv (upd KN (stt n la nv) (encC (dp F T P Wt o nv (n - r) r la))) := by
  intro q lb hq hlb
  simp only [upd]
  by_cases e : stt n lb nv = stt n la nv
  · obtain ⟨rfl, rfl⟩ := stt_key hq hr hlb hla e
    rw [if_pos rfl]
    exact Or.inr rfl
  · rw [if_neg e]
    exact h q lb hq hlb
theorem kiP_fill {F T P Wt : Nat → Int32} {o : Nat → Nat} {n nv : Nat} {KN : Nat → Int32} (h : ∀ i, i < n ^ nv → KN i = -2) : kiP F T P Wt o n nv KN := fun r la hr hla => Or.inl (h _ (stt_lt (fun v => Nat.lt_of_le_of_lt (hla.1 v) hr) nv))
theorem lnO_z {o la : Nat → Nat} {v : Nat} (h : lnO o la v = 0) : la v = 0 := by
  unfold lnO at h
  split at h
  · assumption
  · omega
theorem lnO_k {o kr la : Nat → Nat} {n r v : Nat} (hko : ∀ j, j < n → kr (o j) = j) (hla : la v ≤ r) (hr : r ≤ n) (h : lnO o la v ≠ 0) : nI (kr (lnO o la v - 1)) + 1 = nI (la v) := by
  unfold lnO at h ⊢
  split
  · rename_i e
    rw [if_pos e] at h
    exact absurd rfl h
  · rename_i e
    rw [Nat.add_sub_cancel, hko _ (by omega), nI_1]
    congr 1
    omega
-- the first of the best
def fbP (E : Nat → Int32) (L : Int32) (nv k b : Nat) : Prop := ∀ m, k ≤ m → m < nv → E m = L → (E b = L ∧ k ≤ b ∧ b < nv ∧ ∀ v, k ≤ v → v < b → ¬ E v = L)
theorem fbP_0 {E : Nat → Int32} {L : Int32} {nv b : Nat} : fbP E L nv nv b := fun m h1 h2 => by omega
theorem fbP_y {E : Nat → Int32} {L : Int32} {nv k b : Nat} (h0 : k ≠ 0) (hk : k ≤ nv) (h : E (k - 1) = L) : fbP E L nv (k - 1) (k - 1) := fun m h1 h2 h3 => ⟨h, Nat.le_refl _, by omega, fun v hv1 hv2 => by omega⟩
theorem fbP_n {E : Nat → Int32} {L : Int32} {nv k b : Nat} (h0 : k ≠ 0) (hb : fbP E L nv k b) (h : ¬ E (k - 1) = L) : fbP E L nv (k - 1) b := fun m h1 h2 h3 => by
  have hm : m ≠ k - 1 := fun e => h (e ▸ h3)
  obtain ⟨a1, a2, a3, a4⟩ := hb m (by omega) h2 h3
  refine ⟨a1, by omega, a3, fun v hv1 hv2 => ?_⟩
  by_cases e : v = k - 1
  · rw [e]
    exact h
  · exact a4 v (by omega) hv2
theorem fbP_end {F T P Wt : Nat → Int32} {o : Nat → Nat} {n nv r b : Nat} (hn : n ≤ 14) (hg : gB F T P Wt o n nv) (hr : r < n) (hok : okF F T P Wt o n nv r) (h : fbP (fun v => encC (thr (dp F T P Wt o nv (n - (r + 1)) (r + 1)) (prc F T P Wt o (laF F T P Wt o n nv r) r) (laF F T P Wt o n nv r) r v)) (encC (dp F T P Wt o nv (n - r) r (laF F T P Wt o n nv r))) nv 0 b) : b = chF F T P Wt o n nv r := by
  obtain ⟨h1, h2, h3⟩ := chF_lt hr hok
  obtain ⟨a1, _, a3, a4⟩ := h (chF F T P Wt o n nv r) (Nat.zero_le _) h1 (by simp only [h2])
  rcases Nat.lt_trichotomy b (chF F T P Wt o n nv r) with q | q | q
  · exfalso
    simp only at a1
    rw [encC_s hok.2] at a1
    have b1 := thr_B hn hg hr hok.1 a3
    by_cases z : thr (dp F T P Wt o nv (n - (r + 1)) (r + 1)) (prc F T P Wt o (laF F T P Wt o n nv r) r) (laF F T P Wt o n nv r) r b = 2000000000
    · rw [encC_n z] at a1
      exact inB_m1 (dp_B hn hg (by omega) hok.1) a1.symm
    · rw [encC_s z] at a1
      exact h3 b q a1
  · exact q
  · exact absurd (by simp only [h2]) (a4 _ (Nat.zero_le _) q)
