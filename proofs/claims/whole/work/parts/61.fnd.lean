-- bounds under which the class's numbers tell what the reference's do
def gB (F T P Wt : Nat → Int32) (o : Nat → Nat) (n nv : Nat) : Prop := (∀ la r v, r < n → laV nv r la → v < nv → adC F T P Wt (lnO o la) (o r) v = encC (prc F T P Wt o la r v) ∧ (prc F T P Wt o la r v = 2000000000 ∨ (0 ≤ (prc F T P Wt o la r v).toInt ∧ (prc F T P Wt o la r v).toInt ≤ 130000000))) ∧ (∀ r la, r ≤ n → laV nv r la → dp F T P Wt o nv (n - r) r la = 2000000000 ∨ (0 ≤ (dp F T P Wt o nv (n - r) r la).toInt ∧ (dp F T P Wt o nv (n - r) r la).toInt ≤ ((n - r : Nat) : Int) * 130000000))
def inB (x : Int32) : Prop := x = 2000000000 ∨ (0 ≤ x.toInt ∧ x.toInt < 2000000000)
theorem inB_m1 {x : Int32} (h : inB x) : ¬ x = -1 := by
  rcases h with h | h
  · rw [h]
    decide
  · intro e
    rw [e, tIm1] at h
    omega
theorem inB_ne {x : Int32} (h : 0 ≤ x.toInt ∧ x.toInt < 2000000000) : ¬ x = 2000000000 := fun e => by
  rw [e, tIbig] at h
  omega
theorem add_B {x y : Int32} {a b : Int} (hx : 0 ≤ x.toInt ∧ x.toInt ≤ a) (hy : 0 ≤ y.toInt ∧ y.toInt ≤ b) (hab : a + b < 2000000000) : 0 ≤ (x + y).toInt ∧ (x + y).toInt ≤ a + b ∧ (x + y).toInt = x.toInt + y.toInt := by
  have e : (x + y).toInt = x.toInt + y.toInt := by
    rw [Int32.toInt_add]
    exact Int.bmod_eq_of_le (by omega) (by omega)
  rw [e]
  omega
theorem dp_B {F T P Wt : Nat → Int32} {o la : Nat → Nat} {n nv r : Nat} (hn : n ≤ 14) (h : gB F T P Wt o n nv) (hr : r ≤ n) (hla : laV nv r la) : inB (dp F T P Wt o nv (n - r) r la) := by
  rcases h.2 r la hr hla with e | e
  · exact Or.inl e
  · exact Or.inr ⟨e.1, by omega⟩
theorem thr_B {F T P Wt : Nat → Int32} {o la : Nat → Nat} {n nv r v : Nat} (hn : n ≤ 14) (h : gB F T P Wt o n nv) (hr : r < n) (hla : laV nv r la) (hv : v < nv) : inB (thr (dp F T P Wt o nv (n - (r + 1)) (r + 1)) (prc F T P Wt o la r) la r v) := by
  unfold thr
  split
  · exact Or.inl rfl
  · rename_i h1
    split
    · exact Or.inl rfl
    · rename_i h2
      have p1 := ((h.1 la r v hr hla hv).2.resolve_left h1)
      have p2 := ((h.2 (r + 1) (updN la v (r + 1)) (by omega) (laV_up hla hv)).resolve_left h2)
      have := add_B p1 p2 (by omega)
      exact Or.inr ⟨this.1, by omega⟩
theorem thrC_1 {F T P Wt : Nat → Int32} {o la : Nat → Nat} {n nv r v : Nat} (h : gB F T P Wt o n nv) (hr : r < n) (hla : laV nv r la) (hv : v < nv) (c : adC F T P Wt (lnO o la) (o r) v = -1) : -1 = encC (thr (dp F T P Wt o nv (n - (r + 1)) (r + 1)) (prc F T P Wt o la r) la r v) := by
  obtain ⟨e, b⟩ := h.1 la r v hr hla hv
  have b2 : inB (prc F T P Wt o la r v) := b.elim Or.inl (fun q => Or.inr ⟨q.1, by omega⟩)
  rw [e, encC_m (inB_m1 b2)] at c
  rw [← thr_1 c]
  rfl
theorem thrC_2 {F T P Wt : Nat → Int32} {o la : Nat → Nat} {n nv r v : Nat} (hn : n ≤ 14) (h : gB F T P Wt o n nv) (hr : r < n) (hla : laV nv r la) (hv : v < nv) (c : ¬ adC F T P Wt (lnO o la) (o r) v = -1) (c2 : encC (dp F T P Wt o nv (n - (r + 1)) (r + 1) (updN la v (r + 1))) = -1) : -1 = encC (thr (dp F T P Wt o nv (n - (r + 1)) (r + 1)) (prc F T P Wt o la r) la r v) := by
  obtain ⟨e, b⟩ := h.1 la r v hr hla hv
  have b2 : inB (prc F T P Wt o la r v) := b.elim Or.inl (fun q => Or.inr ⟨q.1, by omega⟩)
  rw [e, encC_m (inB_m1 b2)] at c
  rw [encC_m (inB_m1 (dp_B hn h (by omega) (laV_up hla hv)))] at c2
  rw [← thr_2 c c2]
  rfl
theorem thrC_3 {F T P Wt : Nat → Int32} {o la : Nat → Nat} {n nv r v : Nat} (hn : n ≤ 14) (h : gB F T P Wt o n nv) (hr : r < n) (hla : laV nv r la) (hv : v < nv) (c : ¬ adC F T P Wt (lnO o la) (o r) v = -1) (c2 : ¬ encC (dp F T P Wt o nv (n - (r + 1)) (r + 1) (updN la v (r + 1))) = -1) : adC F T P Wt (lnO o la) (o r) v + encC (dp F T P Wt o nv (n - (r + 1)) (r + 1) (updN la v (r + 1))) = encC (thr (dp F T P Wt o nv (n - (r + 1)) (r + 1)) (prc F T P Wt o la r) la r v) := by
  obtain ⟨e, b⟩ := h.1 la r v hr hla hv
  have b2 : inB (prc F T P Wt o la r v) := b.elim Or.inl (fun q => Or.inr ⟨q.1, by omega⟩)
  rw [e] at c ⊢
  rw [encC_m (inB_m1 b2)] at c
  rw [encC_m (inB_m1 (dp_B hn h (by omega) (laV_up hla hv)))] at c2
  rw [encC_s c, encC_s c2]
  have hT := thr_3 (dpn := dp F T P Wt o nv (n - (r + 1)) (r + 1)) (pr := prc F T P Wt o la r) (la := la) (r := r) (v := v) c c2
  have p1 := b.resolve_left c
  have p2 := (h.2 (r + 1) (updN la v (r + 1)) (by omega) (laV_up hla hv)).resolve_left c2
  have p3 := add_B p1 p2 (by omega)
  rw [← hT, encC_s (inB_ne ⟨p3.1, by omega⟩)]
theorem mn_B {p : Nat → Int32} : ∀ {k : Nat}, (∀ v, v < k → inB (p v)) → inB (mn p k).2
  | 0, _ => Or.inl rfl
  | k + 1, h => by
    simp only [mn]
    split
    · exact h k (Nat.lt_succ_self k)
    · exact mn_B (fun v hv => h v (by omega))
theorem onw_y {p : Nat → Int32} {k : Nat} (h : ∀ v, v < k + 1 → inB (p v)) (c1 : ¬ encC (p k) = -1) (c2 : encC (mn p k).2 = -1 ∨ encC (p k) < encC (mn p k).2) : encC (p k) = encC (mn p (k + 1)).2 := by
  have b1 := h k (Nat.lt_succ_self k)
  have b2 := mn_B (p := p) (k := k) (fun v hv => h v (by omega))
  rw [encC_m (inB_m1 b1)] at c1
  rw [encC_m (inB_m1 b2)] at c2
  have : p k < (mn p k).2 := by
    rcases c2 with e | e
    · rw [e, Int32.lt_iff_toInt_lt, tIbig]
      exact (b1.resolve_left c1).2
    · rw [encC_s c1] at e
      by_cases z : (mn p k).2 = 2000000000
      · rw [z, Int32.lt_iff_toInt_lt, tIbig]
        exact (b1.resolve_left c1).2
      · rwa [encC_s z] at e
  rw [mn_y this]
theorem onw_n1 {p : Nat → Int32} {k : Nat} (h : ∀ v, v < k + 1 → inB (p v)) (c1 : encC (p k) = -1) : encC (mn p k).2 = encC (mn p (k + 1)).2 := by
  have b1 := h k (Nat.lt_succ_self k)
  have b2 := mn_B (p := p) (k := k) (fun v hv => h v (by omega))
  rw [encC_m (inB_m1 b1)] at c1
  rw [mn_n]
  rw [c1, Int32.lt_iff_toInt_lt, tIbig]
  rcases b2 with e | e
  · rw [e, tIbig]
    omega
  · omega
theorem onw_n2 {p : Nat → Int32} {k : Nat} (h : ∀ v, v < k + 1 → inB (p v)) (c1 : ¬ encC (p k) = -1) (c2 : ¬ encC (mn p k).2 = -1) (c3 : ¬ encC (p k) < encC (mn p k).2) : encC (mn p k).2 = encC (mn p (k + 1)).2 := by
  have b1 := h k (Nat.lt_succ_self k)
  have b2 := mn_B (p := p) (k := k) (fun v hv => h v (by omega))
  rw [encC_m (inB_m1 b1)] at c1
  rw [encC_m (inB_m1 b2)] at c2
  rw [encC_s c1, encC_s c2] at c3
  rw [mn_n c3]
theorem thrC_p {F T P Wt : Nat → Int32} {o la : Nat → Nat} {n nv r v : Nat} (hn : n ≤ 14) (h : gB F T P Wt o n nv) (hr : r < n) (hla : laV nv r la) (hv : v < nv) (c : ¬ adC F T P Wt (lnO o la) (o r) v = -1) (c2 : ¬ encC (dp F T P Wt o nv (n - (r + 1)) (r + 1) (updN la v (r + 1))) = -1) : ¬ encC (thr (dp F T P Wt o nv (n - (r + 1)) (r + 1)) (prc F T P Wt o la r) la r v) = -1 ∧ adC F T P Wt (lnO o la) (o r) v ≤ adC F T P Wt (lnO o la) (o r) v + encC (dp F T P Wt o nv (n - (r + 1)) (r + 1) (updN la v (r + 1))) := by
  obtain ⟨e, b⟩ := h.1 la r v hr hla hv
  have b2 : inB (prc F T P Wt o la r v) := b.elim Or.inl (fun q => Or.inr ⟨q.1, by omega⟩)
  rw [e] at c ⊢
  rw [encC_m (inB_m1 b2)] at c
  rw [encC_m (inB_m1 (dp_B hn h (by omega) (laV_up hla hv)))] at c2
  rw [encC_s c, encC_s c2]
  have hT := thr_3 (dpn := dp F T P Wt o nv (n - (r + 1)) (r + 1)) (pr := prc F T P Wt o la r) (la := la) (r := r) (v := v) c c2
  have p1 := b.resolve_left c
  have p2 := (h.2 (r + 1) (updN la v (r + 1)) (by omega) (laV_up hla hv)).resolve_left c2
  have p3 := add_B p1 p2 (by omega)
  constructor
  · rw [encC_m (inB_m1 (thr_B hn h hr hla hv)), ← hT]
    exact inB_ne ⟨p3.1, by omega⟩
  · rw [Int32.le_iff_toInt_le, p3.2.2]
    omega
theorem onwB_y {F T P Wt : Nat → Int32} {o la : Nat → Nat} {n nv r v : Nat} (hn : n ≤ 14) (h : gB F T P Wt o n nv) (hr : r < n) (hla : laV nv r la) (hv : v < nv) (hb : ∀ w, w < v + 1 → inB (thr (dp F T P Wt o nv (n - (r + 1)) (r + 1)) (prc F T P Wt o la r) la r w)) (c1 : ¬ adC F T P Wt (lnO o la) (o r) v = -1) (c2 : ¬ encC (dp F T P Wt o nv (n - (r + 1)) (r + 1) (updN la v (r + 1))) = -1) (c3 : encC (mn (thr (dp F T P Wt o nv (n - (r + 1)) (r + 1)) (prc F T P Wt o la r) la r) v).2 = -1 ∨ adC F T P Wt (lnO o la) (o r) v + encC (dp F T P Wt o nv (n - (r + 1)) (r + 1) (updN la v (r + 1))) < encC (mn (thr (dp F T P Wt o nv (n - (r + 1)) (r + 1)) (prc F T P Wt o la r) la r) v).2) : adC F T P Wt (lnO o la) (o r) v + encC (dp F T P Wt o nv (n - (r + 1)) (r + 1) (updN la v (r + 1))) = encC (mn (thr (dp F T P Wt o nv (n - (r + 1)) (r + 1)) (prc F T P Wt o la r) la r) (v + 1)).2 := by
  have e := thrC_3 hn h hr hla hv c1 c2
  rw [e] at c3 ⊢
  exact onw_y hb (thrC_p hn h hr hla hv c1 c2).1 c3
theorem onwB_n1 {F T P Wt : Nat → Int32} {o la : Nat → Nat} {n nv r v : Nat} (hn : n ≤ 14) (h : gB F T P Wt o n nv) (hr : r < n) (hla : laV nv r la) (hv : v < nv) (hb : ∀ w, w < v + 1 → inB (thr (dp F T P Wt o nv (n - (r + 1)) (r + 1)) (prc F T P Wt o la r) la r w)) (c1 : adC F T P Wt (lnO o la) (o r) v = -1) : encC (mn (thr (dp F T P Wt o nv (n - (r + 1)) (r + 1)) (prc F T P Wt o la r) la r) v).2 = encC (mn (thr (dp F T P Wt o nv (n - (r + 1)) (r + 1)) (prc F T P Wt o la r) la r) (v + 1)).2 := onw_n1 hb (thrC_1 h hr hla hv c1).symm
theorem onwB_n3 {F T P Wt : Nat → Int32} {o la : Nat → Nat} {n nv r v : Nat} (hn : n ≤ 14) (h : gB F T P Wt o n nv) (hr : r < n) (hla : laV nv r la) (hv : v < nv) (hb : ∀ w, w < v + 1 → inB (thr (dp F T P Wt o nv (n - (r + 1)) (r + 1)) (prc F T P Wt o la r) la r w)) (c1 : ¬ adC F T P Wt (lnO o la) (o r) v = -1) (c2 : encC (dp F T P Wt o nv (n - (r + 1)) (r + 1) (updN la v (r + 1))) = -1) : encC (mn (thr (dp F T P Wt o nv (n - (r + 1)) (r + 1)) (prc F T P Wt o la r) la r) v).2 = encC (mn (thr (dp F T P Wt o nv (n - (r + 1)) (r + 1)) (prc F T P Wt o la r) la r) (v + 1)).2 := onw_n1 hb (thrC_2 hn h hr hla hv c1 c2).symm
theorem onwB_n4 {F T P Wt : Nat → Int32} {o la : Nat → Nat} {n nv r v : Nat} (hn : n ≤ 14) (h : gB F T P Wt o n nv) (hr : r < n) (hla : laV nv r la) (hv : v < nv) (hb : ∀ w, w < v + 1 → inB (thr (dp F T P Wt o nv (n - (r + 1)) (r + 1)) (prc F T P Wt o la r) la r w)) (c1 : ¬ adC F T P Wt (lnO o la) (o r) v = -1) (c2 : ¬ encC (dp F T P Wt o nv (n - (r + 1)) (r + 1) (updN la v (r + 1))) = -1) (c3 : ¬ encC (mn (thr (dp F T P Wt o nv (n - (r + 1)) (r + 1)) (prc F T P Wt o la r) la r) v).2 = -1) (c4 : encC (mn (thr (dp F T P Wt o nv (n - (r + 1)) (r + 1)) (prc F T P Wt o la r) la r) v).2 ≤ adC F T P Wt (lnO o la) (o r) v + encC (dp F T P Wt o nv (n - (r + 1)) (r + 1) (updN la v (r + 1)))) : encC (mn (thr (dp F T P Wt o nv (n - (r + 1)) (r + 1)) (prc F T P Wt o la r) la r) v).2 = encC (mn (thr (dp F T P Wt o nv (n - (r + 1)) (r + 1)) (prc F T P Wt o la r) la r) (v + 1)).2 := by
  have e := thrC_3 hn h hr hla hv c1 c2
  rw [e] at c4
  exact onw_n2 hb (thrC_p hn h hr hla hv c1 c2).1 c3 (Int32.not_lt.mpr c4)
theorem onwB_n2 {F T P Wt : Nat → Int32} {o la : Nat → Nat} {n nv r v : Nat} (hn : n ≤ 14) (h : gB F T P Wt o n nv) (hr : r < n) (hla : laV nv r la) (hv : v < nv) (hb : ∀ w, w < v + 1 → inB (thr (dp F T P Wt o nv (n - (r + 1)) (r + 1)) (prc F T P Wt o la r) la r w)) (c1 : ¬ adC F T P Wt (lnO o la) (o r) v = -1) (c3 : ¬ encC (mn (thr (dp F T P Wt o nv (n - (r + 1)) (r + 1)) (prc F T P Wt o la r) la r) v).2 = -1) (c4 : encC (mn (thr (dp F T P Wt o nv (n - (r + 1)) (r + 1)) (prc F T P Wt o la r) la r) v).2 ≤ adC F T P Wt (lnO o la) (o r) v) : encC (mn (thr (dp F T P Wt o nv (n - (r + 1)) (r + 1)) (prc F T P Wt o la r) la r) v).2 = encC (mn (thr (dp F T P Wt o nv (n - (r + 1)) (r + 1)) (prc F T P Wt o la r) la r) (v + 1)).2 := by
  by_cases c2 : encC (dp F T P Wt o nv (n - (r + 1)) (r + 1) (updN la v (r + 1))) = -1
  · exact onwB_n3 hn h hr hla hv hb c1 c2
  · exact onwB_n4 hn h hr hla hv hb c1 c2 c3 (Int32.le_trans c4 (thrC_p hn h hr hla hv c1 c2).2)
-- what is known
def kiP (F T P Wt : Nat → Int32) (o : Nat → Nat) (n nv : Nat) (KN : Nat → Int32) : Prop := ∀ r la, r < n → laV nv r la → KN (stt n la nv) = -2 ∨ KN (stt n la nv) = encC (dp F T P Wt o nv (n - r) r la)
theorem kiP_set {F T P Wt : Nat → Int32} {o la : Nat → Nat} {n nv r : Nat} {KN : Nat → Int32} (h : kiP F T P Wt o n nv KN) (hr : r < n) (hla : laV nv r la) : kiP F T P Wt o n nv (upd KN (stt n la nv) (encC (dp F T P Wt o nv (n - r) r la))) := by
  intro q lb hq hlb
  simp only [upd]
  by_cases e : stt n lb nv = stt n la nv
  · obtain ⟨rfl, rfl⟩ := stt_key hq hr hlb hla e
    rw [if_pos rfl]
    exact Or.inr rfl
  · rw [if_neg e]
    exact h q lb hq hlb
theorem kiP_fill {F T P Wt : Nat → Int32} {o : Nat → Nat} {n nv : Nat} {KN : Nat → Int32} (h : ∀ i, i < n ^ nv → KN i = -2) : kiP F T P Wt o n nv KN := fun r la hr hla => Or.inl (h _ (stt_lt (fun v => Nat.lt_of_le_of_lt (hla.1 v) hr) nv))
theorem lnO_z {o la : Nat → Nat} {v : Nat} (h : lnO o la v = 0) : la v = 0 := by
  unfold lnO at h
  split at h
  · assumption
  · omega
theorem lnO_k {o kr la : Nat → Nat} {n r v : Nat} (hko : ∀ j, j < n → kr (o j) = j) (hla : la v ≤ r) (hr : r ≤ n) (h : lnO o la v ≠ 0) : nI (kr (lnO o la v - 1)) + 1 = nI (la v) := by
  unfold lnO at h ⊢
  split
  · rename_i e
    rw [if_pos e] at h
    exact absurd rfl h
  · rename_i e
    rw [Nat.add_sub_cancel, hko _ (by omega), nI_1]
    congr 1
    omega
-- the first of the best
theorem fbQ_s {E : Nat → Int32} {L : Int32} {k : Nat} (h : ∀ v, v < k → ¬ encC (E v) = L) (hk : ¬ encC (E k) = L) : ∀ v, v < k + 1 → ¬ encC (E v) = L := fun v hv => by
  by_cases e : v = k
  · rw [e]
    exact hk
  · exact h v (by omega)
theorem fbQ_m {F T P Wt : Nat → Int32} {o : Nat → Nat} {n nv r v : Nat} (hn : n ≤ 14) (h : gB F T P Wt o n nv) (hr : r < n) (hok : okF F T P Wt o n nv r) (hv : v < nv) : ¬ -1 = encC (dp F T P Wt o nv (n - r) r (laF F T P Wt o n nv r)) := fun q => hok.2 ((encC_m (inB_m1 (dp_B hn h (by omega) hok.1))).mp q.symm)
theorem fbQ_1 {F T P Wt : Nat → Int32} {o : Nat → Nat} {n nv r v : Nat} (hn : n ≤ 14) (h : gB F T P Wt o n nv) (hr : r < n) (hok : okF F T P Wt o n nv r) (hv : v < nv) (c1 : adC F T P Wt (lnO o (laF F T P Wt o n nv r)) (o r) v = -1) : ¬ encC (thr (dp F T P Wt o nv (n - (r + 1)) (r + 1)) (prc F T P Wt o (laF F T P Wt o n nv r) r) (laF F T P Wt o n nv r) r v) = encC (dp F T P Wt o nv (n - r) r (laF F T P Wt o n nv r)) := by
  rw [← thrC_1 h hr hok.1 hv c1]
  exact fbQ_m hn h hr hok hv
theorem fbQ_3 {F T P Wt : Nat → Int32} {o : Nat → Nat} {n nv r v : Nat} (hn : n ≤ 14) (h : gB F T P Wt o n nv) (hr : r < n) (hok : okF F T P Wt o n nv r) (hv : v < nv) (c1 : ¬ adC F T P Wt (lnO o (laF F T P Wt o n nv r)) (o r) v = -1) (c2 : encC (dp F T P Wt o nv (n - (r + 1)) (r + 1) (updN (laF F T P Wt o n nv r) v (r + 1))) = -1) : ¬ encC (thr (dp F T P Wt o nv (n - (r + 1)) (r + 1)) (prc F T P Wt o (laF F T P Wt o n nv r) r) (laF F T P Wt o n nv r) r v) = encC (dp F T P Wt o nv (n - r) r (laF F T P Wt o n nv r)) := by
  rw [← thrC_2 hn h hr hok.1 hv c1 c2]
  exact fbQ_m hn h hr hok hv
theorem fbQ_4 {F T P Wt : Nat → Int32} {o : Nat → Nat} {n nv r v : Nat} (hn : n ≤ 14) (h : gB F T P Wt o n nv) (hr : r < n) (hok : okF F T P Wt o n nv r) (hv : v < nv) (c1 : ¬ adC F T P Wt (lnO o (laF F T P Wt o n nv r)) (o r) v = -1) (c2 : ¬ encC (dp F T P Wt o nv (n - (r + 1)) (r + 1) (updN (laF F T P Wt o n nv r) v (r + 1))) = -1) (c3 : ¬ adC F T P Wt (lnO o (laF F T P Wt o n nv r)) (o r) v + encC (dp F T P Wt o nv (n - (r + 1)) (r + 1) (updN (laF F T P Wt o n nv r) v (r + 1))) = encC (dp F T P Wt o nv (n - r) r (laF F T P Wt o n nv r))) : ¬ encC (thr (dp F T P Wt o nv (n - (r + 1)) (r + 1)) (prc F T P Wt o (laF F T P Wt o n nv r) r) (laF F T P Wt o n nv r) r v) = encC (dp F T P Wt o nv (n - r) r (laF F T P Wt o n nv r)) := by
  rw [← thrC_3 hn h hr hok.1 hv c1 c2]
  exact c3
theorem fbQ_2 {F T P Wt : Nat → Int32} {o : Nat → Nat} {n nv r v : Nat} (hn : n ≤ 14) (h : gB F T P Wt o n nv) (hr : r < n) (hok : okF F T P Wt o n nv r) (hv : v < nv) (c1 : ¬ adC F T P Wt (lnO o (laF F T P Wt o n nv r)) (o r) v = -1) (c3 : encC (dp F T P Wt o nv (n - r) r (laF F T P Wt o n nv r)) < adC F T P Wt (lnO o (laF F T P Wt o n nv r)) (o r) v) : ¬ encC (thr (dp F T P Wt o nv (n - (r + 1)) (r + 1)) (prc F T P Wt o (laF F T P Wt o n nv r) r) (laF F T P Wt o n nv r) r v) = encC (dp F T P Wt o nv (n - r) r (laF F T P Wt o n nv r)) := by
  by_cases c2 : encC (dp F T P Wt o nv (n - (r + 1)) (r + 1) (updN (laF F T P Wt o n nv r) v (r + 1))) = -1
  · exact fbQ_3 hn h hr hok hv c1 c2
  · refine fbQ_4 hn h hr hok hv c1 c2 (fun e => ?_)
    rw [← e] at c3
    exact Int32.not_lt.mpr (thrC_p hn h hr hok.1 hv c1 c2).2 c3
theorem fbQ_y {F T P Wt : Nat → Int32} {o : Nat → Nat} {n nv r v : Nat} (hn : n ≤ 14) (h : gB F T P Wt o n nv) (hr : r < n) (hok : okF F T P Wt o n nv r) (hv : v < nv) (hf : ∀ w, w < v → ¬ encC (thr (dp F T P Wt o nv (n - (r + 1)) (r + 1)) (prc F T P Wt o (laF F T P Wt o n nv r) r) (laF F T P Wt o n nv r) r w) = encC (dp F T P Wt o nv (n - r) r (laF F T P Wt o n nv r))) (c1 : ¬ adC F T P Wt (lnO o (laF F T P Wt o n nv r)) (o r) v = -1) (c2 : ¬ encC (dp F T P Wt o nv (n - (r + 1)) (r + 1) (updN (laF F T P Wt o n nv r) v (r + 1))) = -1) (c3 : adC F T P Wt (lnO o (laF F T P Wt o n nv r)) (o r) v + encC (dp F T P Wt o nv (n - (r + 1)) (r + 1) (updN (laF F T P Wt o n nv r) v (r + 1))) = encC (dp F T P Wt o nv (n - r) r (laF F T P Wt o n nv r))) : v = chF F T P Wt o n nv r := by
  rw [thrC_3 hn h hr hok.1 hv c1 c2] at c3
  obtain ⟨h1, h2, h3⟩ := chF_lt hr hok
  rcases Nat.lt_trichotomy v (chF F T P Wt o n nv r) with q | q | q
  · exfalso
    rw [encC_s hok.2] at c3
    by_cases z : thr (dp F T P Wt o nv (n - (r + 1)) (r + 1)) (prc F T P Wt o (laF F T P Wt o n nv r) r) (laF F T P Wt o n nv r) r v = 2000000000
    · rw [encC_n z] at c3
      exact inB_m1 (dp_B hn h (by omega) hok.1) c3.symm
    · rw [encC_s z] at c3
      exact h3 v q c3
  · exact q
  · exact absurd (congrArg encC h2) (hf _ q)
