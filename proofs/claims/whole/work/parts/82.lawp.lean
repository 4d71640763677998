-- a call of the law: both sides answer alike, and stay alike
abbrev INVs (u : SS) (kr : Nat → Nat) : Prop := INV u.1 u.2.1 u.2.2.1 u.2.2.2.1 u.2.2.2.2.1 u.2.2.2.2.2.1 u.2.2.2.2.2.2 kr
abbrev klJ (j : XJ) : Nat := j.2.2.2.2.2.2.2.2.2.2.1
theorem okN_b {f tv q : Int32} (h : okN f tv q = true) : 0 ≤ f.toInt ∧ f.toInt < tv.toInt ∧ tv.toInt ≤ 100000 ∧ 0 ≤ q.toInt ∧ q.toInt ≤ 127 := by
  simp only [okN, Bool.and_eq_true, decide_eq_true_eq, Int32.lt_iff_toInt_lt, Int32.le_iff_toInt_le, tI0, tI127, tI100000] at h
  omega
theorem upd_all {f : Nat → Int32} {k : Nat} {x : Int32} {Q : Int32 → Prop} (h : ∀ j, Q (f j)) (hx : Q x) : ∀ j, Q (upd f k x j) := fun j => by
  simp only [upd]
  split
  · exact hx
  · exact h j
theorem bnd_upd {F T P V Wt : Nat → Int32} {k : Nat} {f tv q : Int32} (hb : bnd F T P V Wt) (h : okN f tv q = true) : bnd (upd F k f) (upd T k tv) (upd P k q) V Wt := by
  have ho := okN_b h
  exact ⟨upd_all (Q := fun x => 0 ≤ x.toInt ∧ x.toInt ≤ 100000) hb.1 ⟨by omega, by omega⟩, upd_all (Q := fun x => 0 ≤ x.toInt ∧ x.toInt ≤ 100000) hb.2.1 ⟨by omega, by omega⟩, upd_all (Q := fun x => 0 ≤ x.toInt ∧ x.toInt ≤ 127) hb.2.2.1 ⟨by omega, by omega⟩, hb.2.2.2.1, hb.2.2.2.2⟩
theorem FT_upd {F T : Nat → Int32} {n k : Nat} {f tv q : Int32} (hF : ∀ j, j < n → j ≠ k → F j < T j) (h : okN f tv q = true) : ∀ j, j < n → upd F k f j < upd T k tv j := fun j hj => by
  simp only [upd]
  by_cases c : j = k
  · rw [if_pos c, if_pos c, Int32.lt_iff_toInt_lt]
    exact (okN_b h).2.1
  · rw [if_neg c, if_neg c]
    exact hF j hj c
section
variable {n : Nat} {F T P V Wt : Nat → Int32} {o kr : Nat → Nat} {rc : Int32} {RB RE : Nat → Int32} {p1 p2 : Int32} {LA : Nat → Int32} {vs : Int32} {PL : Nat → Int32} {kn kl : Nat} {KN CH G L R : Nat → Int32} {r1 r2 : Int32} {u : SS × XJ} {w : SS × MJ}
theorem lw_note {f tv q : Int32} (hi : INV n F T P V Wt o kr) (h1 : ((fun (r : Int32) (u : SS × XJ) => (okN f tv q = false → r = -2 ∧ u = ((n, F, T, P, V, Wt, o), (kr, rc, RB, RE, p1, p2, LA, vs, PL, kn, kl, KN, CH))) ∧ (okN f tv q = true → 60 ≤ n → r = -4 ∧ u = ((n, F, T, P, V, Wt, o), (kr, rc, RB, RE, p1, p2, LA, vs, PL, kn, kl, KN, CH))) ∧ (okN f tv q = true → n < 60 → r = nI n ∧ ∃ o1 k1 : Nat → Nat, u = ((n + 1, upd F n f, upd T n tv, upd P n q, upd V n (-1), Wt, o1), (k1, rc, RB, RE, p1, p2, LA, vs, PL, kn, kl, KN, CH)) ∧ (∀ j, o1 j < 60) ∧ prm (n + 1) o1 ∧ srt (upd F n f) (upd P n q) (n + 1) o1 ∧ (∀ j, n + 1 ≤ j → o1 j = o j) ∧ (∀ j, j < n + 1 → k1 (o1 j) = j))) r1 u)) (h2 : ((fun (r : Int32) (u : SS × MJ) => (okN f tv q = false → r = -2 ∧ u = ((n, F, T, P, V, Wt, o), (G, L, R))) ∧ (okN f tv q = true → 60 ≤ n → r = -4 ∧ u = ((n, F, T, P, V, Wt, o), (G, L, R))) ∧ (okN f tv q = true → n < 60 → r = nI n ∧ ∃ o1 : Nat → Nat, u = ((n + 1, upd F n f, upd T n tv, upd P n q, upd V n (-1), Wt, o1), (G, L, R)) ∧ (∀ j, o1 j < 60) ∧ (∀ j, j < n + 1 → o1 (rkN (upd F n f) (upd P n q) (n + 1) j) = j) ∧ (∀ j, n + 1 ≤ j → o1 j = o j))) r2 w)) : r1 = r2 ∧ u.1 = w.1 ∧ INVs u.1 u.2.1 ∧ klJ u.2 = kl := by
  obtain ⟨i1, i2, i3, i4, i5, i6, i7⟩ := hi
  obtain ⟨a1, a2, a3⟩ := h1
  obtain ⟨b1, b2, b3⟩ := h2
  cases ho : okN f tv q
  · obtain ⟨rfl, rfl⟩ := a1 ho
    obtain ⟨rfl, rfl⟩ := b1 ho
    exact ⟨rfl, rfl, ⟨i1, i2, i3, i4, i5, i6, i7⟩, rfl⟩
  · by_cases hn : n < 60
    · obtain ⟨rfl, o1, k1, rfl, c1, c2, c3, c4, c5⟩ := a3 ho hn
      obtain ⟨rfl, o2, rfl, d1, d2, d3⟩ := b3 ho hn
      have e := two_sorts c2 c3 c4 d2 d3
      subst e
      refine ⟨rfl, rfl, ⟨by show n + 1 ≤ 60; omega, c1, c2, c3, c5, ?_, ?_⟩, rfl⟩
      · have := bnd_upd (k := n) i6 ho
        exact ⟨this.1, this.2.1, this.2.2.1, upd_all (Q := fun x => -1 ≤ x.toInt ∧ x.toInt ≤ 3) i6.2.2.2.1 (by decide), i6.2.2.2.2⟩
      · exact FT_upd (n := n + 1) (fun j hj hne => i7 j (by omega)) ho
    · obtain ⟨rfl, rfl⟩ := a2 ho (by omega)
      obtain ⟨rfl, rfl⟩ := b2 ho (by omega)
      exact ⟨rfl, rfl, ⟨i1, i2, i3, i4, i5, i6, i7⟩, rfl⟩

theorem lw_move {x f tv q : Int32} (hi : INV n F T P V Wt o kr) (h1 : ((fun (r : Int32) (u : SS × XJ) => (ixB x n = false ∨ okN f tv q = false → r = -2 ∧ u = ((n, F, T, P, V, Wt, o), (kr, rc, RB, RE, p1, p2, LA, vs, PL, kn, kl, KN, CH))) ∧ (∀ j, j < n → x = nI j → okN f tv q = true → r = 1 ∧ ∃ o1 k1 : Nat → Nat, u = ((n, upd F j f, upd T j tv, upd P j q, V, Wt, o1), (k1, rc, RB, RE, p1, p2, LA, vs, PL, kn, kl, KN, CH)) ∧ (∀ j, o1 j < 60) ∧ prm n o1 ∧ srt (upd F j f) (upd P j q) n o1 ∧ (∀ j, n ≤ j → o1 j = o j) ∧ (∀ j, j < n → k1 (o1 j) = j))) r1 u)) (h2 : ((fun (r : Int32) (u : SS × MJ) => (ixB x n = false ∨ okN f tv q = false → r = -2 ∧ u = ((n, F, T, P, V, Wt, o), (G, L, R))) ∧ (∀ j, j < n → x = nI j → okN f tv q = true → r = 1 ∧ ∃ o1 : Nat → Nat, u = ((n, upd F j f, upd T j tv, upd P j q, V, Wt, o1), (G, L, R)) ∧ (∀ j, o1 j < 60) ∧ (∀ i, i < n → o1 (rkN (upd F j f) (upd P j q) n i) = i) ∧ (∀ j, n ≤ j → o1 j = o j))) r2 w)) : r1 = r2 ∧ u.1 = w.1 ∧ INVs u.1 u.2.1 ∧ klJ u.2 = kl := by
  obtain ⟨i1, i2, i3, i4, i5, i6, i7⟩ := hi
  obtain ⟨a1, a2⟩ := h1
  obtain ⟨b1, b2⟩ := h2
  cases ho : okN f tv q
  · obtain ⟨rfl, rfl⟩ := a1 (Or.inr ho)
    obtain ⟨rfl, rfl⟩ := b1 (Or.inr ho)
    exact ⟨rfl, rfl, ⟨i1, i2, i3, i4, i5, i6, i7⟩, rfl⟩
  · cases hx : ixB x n
    · obtain ⟨rfl, rfl⟩ := a1 (Or.inl hx)
      obtain ⟨rfl, rfl⟩ := b1 (Or.inl hx)
      exact ⟨rfl, rfl, ⟨i1, i2, i3, i4, i5, i6, i7⟩, rfl⟩
    · obtain ⟨j, hj, ej⟩ := ix_of (by omega) (ixB_t.mp hx)
      obtain ⟨rfl, o1, k1, rfl, c1, c2, c3, c4, c5⟩ := a2 j hj ej ho
      obtain ⟨rfl, o2, rfl, d1, d2, d3⟩ := b2 j hj ej ho
      have e := two_sorts c2 c3 c4 d2 d3
      subst e
      exact ⟨rfl, rfl, ⟨i1, c1, c2, c3, c5, bnd_upd i6 ho, FT_upd (fun j hj _ => i7 j hj) ho⟩, rfl⟩

theorem lw_weigh {x : Int32} {w_ : Int32} (hi : INV n F T P V Wt o kr) (h1 : ((fun (r : Int32) (u : SS × XJ) => (ixB x 4 = false ∨ wOK w_ = false → r = -2 ∧ u = ((n, F, T, P, V, Wt, o), (kr, rc, RB, RE, p1, p2, LA, vs, PL, kn, kl, KN, CH))) ∧ (∀ j, j < 4 → x = nI j → wOK w_ = true → r = Wt j ∧ u = ((n, F, T, P, V, upd Wt j w_, o), (kr, rc, RB, RE, p1, p2, LA, vs, PL, kn, kl, KN, CH)))) r1 u)) (h2 : ((fun (r : Int32) (u : SS × MJ) => (ixB x 4 = false ∨ wOK w_ = false → r = -2 ∧ u = ((n, F, T, P, V, Wt, o), (G, L, R))) ∧ (∀ j, j < 4 → x = nI j → wOK w_ = true → r = Wt j ∧ u = ((n, F, T, P, V, upd Wt j w_, o), (G, L, R)))) r2 w)) : r1 = r2 ∧ u.1 = w.1 ∧ INVs u.1 u.2.1 ∧ klJ u.2 = kl := by
  obtain ⟨i1, i2, i3, i4, i5, i6, i7⟩ := hi
  obtain ⟨a1, a2⟩ := h1
  obtain ⟨b1, b2⟩ := h2
  cases ho : wOK w_
  · obtain ⟨rfl, rfl⟩ := a1 (Or.inr ho)
    obtain ⟨rfl, rfl⟩ := b1 (Or.inr ho)
    exact ⟨rfl, rfl, ⟨i1, i2, i3, i4, i5, i6, i7⟩, rfl⟩
  · cases hx : ixB x 4
    · obtain ⟨rfl, rfl⟩ := a1 (Or.inl hx)
      obtain ⟨rfl, rfl⟩ := b1 (Or.inl hx)
      exact ⟨rfl, rfl, ⟨i1, i2, i3, i4, i5, i6, i7⟩, rfl⟩
    · obtain ⟨j, hj, ej⟩ := ix_of (by omega) (ixB_t.mp hx)
      obtain ⟨rfl, rfl⟩ := a2 j hj ej ho
      obtain ⟨rfl, rfl⟩ := b2 j hj ej ho
      refine ⟨rfl, rfl, ⟨i1, i2, i3, i4, i5, ⟨i6.1, i6.2.1, i6.2.2.1, i6.2.2.2.1, upd_all (Q := fun x => 0 ≤ x.toInt ∧ x.toInt ≤ 1000) i6.2.2.2.2 ?_⟩, i7⟩, rfl⟩
      have := wOK_t.mp ho
      rw [Int32.le_iff_toInt_le, Int32.le_iff_toInt_le, tI0, tI1000] at this
      exact this

theorem lw_put {x v : Int32} (hi : INV n F T P V Wt o kr) (h1 : ((fun (r : Int32) (u : SS × XJ) => (ixB x n = false ∨ vOK v = false → r = -2 ∧ u = ((n, F, T, P, V, Wt, o), (kr, rc, RB, RE, p1, p2, LA, vs, PL, kn, kl, KN, CH))) ∧ (∀ j, j < n → x = nI j → vOK v = true → r = V j ∧ u = ((n, F, T, P, upd V j v, Wt, o), (kr, rc, RB, RE, p1, p2, LA, vs, PL, kn, kl, KN, CH)))) r1 u)) (h2 : ((fun (r : Int32) (u : SS × MJ) => (ixB x n = false ∨ vOK v = false → r = -2 ∧ u = ((n, F, T, P, V, Wt, o), (G, L, R))) ∧ (∀ j, j < n → x = nI j → vOK v = true → r = V j ∧ u = ((n, F, T, P, upd V j v, Wt, o), (G, L, R)))) r2 w)) : r1 = r2 ∧ u.1 = w.1 ∧ INVs u.1 u.2.1 ∧ klJ u.2 = kl := by
  obtain ⟨i1, i2, i3, i4, i5, i6, i7⟩ := hi
  obtain ⟨a1, a2⟩ := h1
  obtain ⟨b1, b2⟩ := h2
  cases ho : vOK v
  · obtain ⟨rfl, rfl⟩ := a1 (Or.inr ho)
    obtain ⟨rfl, rfl⟩ := b1 (Or.inr ho)
    exact ⟨rfl, rfl, ⟨i1, i2, i3, i4, i5, i6, i7⟩, rfl⟩
  · cases hx : ixB x n
    · obtain ⟨rfl, rfl⟩ := a1 (Or.inl hx)
      obtain ⟨rfl, rfl⟩ := b1 (Or.inl hx)
      exact ⟨rfl, rfl, ⟨i1, i2, i3, i4, i5, i6, i7⟩, rfl⟩
    · obtain ⟨j, hj, ej⟩ := ix_of (by omega) (ixB_t.mp hx)
      obtain ⟨rfl, rfl⟩ := a2 j hj ej ho
      obtain ⟨rfl, rfl⟩ := b2 j hj ej ho
      refine ⟨rfl, rfl, ⟨i1, i2, i3, i4, i5, ⟨i6.1, i6.2.1, i6.2.2.1, upd_all (Q := fun x => -1 ≤ x.toInt ∧ x.toInt ≤ 3) i6.2.2.2.1 ?_, i6.2.2.2.2⟩, i7⟩, rfl⟩
      have := vOK_t.mp ho
      rw [Int32.le_iff_toInt_le, Int32.le_iff_toInt_le, tIm1, tI3] at this
      exact this

theorem lw_clear (hi : INV n F T P V Wt o kr) (h1 : ((fun (r : Int32) (u : SS × XJ) => r = nI n ∧ u = ((0, F, T, P, V, upd (upd (upd (upd Wt 0 1) 1 1) 2 12) 3 0, o), (kr, rc, RB, RE, p1, p2, LA, vs, PL, kn, kl, KN, CH))) r1 u)) (h2 : ((fun (r : Int32) (u : SS × MJ) => r = nI n ∧ u = ((0, F, T, P, V, upd (upd (upd (upd Wt 0 1) 1 1) 2 12) 3 0, o), (G, L, R))) r2 w)) : r1 = r2 ∧ u.1 = w.1 ∧ INVs u.1 u.2.1 ∧ klJ u.2 = kl := by
  obtain ⟨i1, i2, i3, i4, i5, i6, i7⟩ := hi
  obtain ⟨rfl, rfl⟩ := h1
  obtain ⟨rfl, rfl⟩ := h2
  refine ⟨rfl, rfl, ⟨Nat.zero_le _, i2, fun p => rfl, fun i j h1 h2 => absurd h2 (Nat.not_lt_zero j), fun j hj => absurd hj (Nat.not_lt_zero j), ⟨i6.1, i6.2.1, i6.2.2.1, i6.2.2.2.1, ?_⟩, fun j hj => absurd hj (Nat.not_lt_zero j)⟩, rfl⟩
  exact upd_all (Q := fun x => 0 ≤ x.toInt ∧ x.toInt ≤ 1000) (upd_all (Q := fun x => 0 ≤ x.toInt ∧ x.toInt ≤ 1000) (upd_all (Q := fun x => 0 ≤ x.toInt ∧ x.toInt ≤ 1000) (upd_all (Q := fun x => 0 ≤ x.toInt ∧ x.toInt ≤ 1000) i6.2.2.2.2 (by decide)) (by decide)) (by decide)) (by decide)

theorem lw_along {x : Int32} (hi : INV n F T P V Wt o kr) (h1 : ((fun (rr : Int32) (u : SS × XJ) => ∃ V1 LA1 CH1 : Nat → Int32, u = ((n, F, T, P, V1, Wt, o), (kr, rc, RB, RE, p1, p2, LA1, vs, PL, kn, kl, KN, CH1)) ∧ (¬ (1 ≤ x ∧ x ≤ 4) → rr = -2 ∧ V1 = V) ∧ (∀ nv, 1 ≤ nv → nv ≤ 4 → x = nI nv → (rr = 1 ∧ (∀ j, j < n → chG F T P Wt o nv j ≠ 0) ∧ (∀ j, j < n → V1 (o j) = nI (chG F T P Wt o nv j - 1)) ∧ (∀ j, n ≤ j → V1 j = V j)) ∨ (rr = -1 ∧ (∃ r, r < n ∧ chG F T P Wt o nv r = 0 ∧ ∀ j, j < r → chG F T P Wt o nv j ≠ 0) ∧ V1 = V))) r1 u)) (h2 : ((fun (rr : Int32) (u : SS × MJ) => ∃ V1 G1 L1 : Nat → Int32, u = ((n, F, T, P, V1, Wt, o), (G1, L1, R)) ∧ (¬ (1 ≤ x ∧ x ≤ 4) → rr = -2 ∧ V1 = V) ∧ (∀ nv, 1 ≤ nv → nv ≤ 4 → x = nI nv → (rr = 1 ∧ (∀ j, j < n → chM F T P Wt o nv j ≠ 0) ∧ (∀ j, j < n → V1 (o j) = nI (chM F T P Wt o nv j - 1)) ∧ (∀ j, n ≤ j → V1 j = V j)) ∨ (rr = -1 ∧ (∃ r, r < n ∧ chM F T P Wt o nv r = 0 ∧ ∀ j, j < r → chM F T P Wt o nv j ≠ 0) ∧ V1 = V))) r2 w)) : r1 = r2 ∧ u.1 = w.1 ∧ INVs u.1 u.2.1 ∧ klJ u.2 = kl := by
  obtain ⟨i1, i2, i3, i4, i5, i6, i7⟩ := hi
  obtain ⟨V1, LA1, CH1, rfl, a1, a2⟩ := h1
  obtain ⟨V2, G1, L1, rfl, b1, b2⟩ := h2
  have hnv : ∀ V', (∀ j, -1 ≤ (V' j).toInt ∧ (V' j).toInt ≤ 3) → INV n F T P V' Wt o kr := fun V' h => ⟨i1, i2, i3, i4, i5, ⟨i6.1, i6.2.1, i6.2.2.1, h, i6.2.2.2.2⟩, i7⟩
  by_cases hx : 1 ≤ x ∧ x ≤ 4
  · obtain ⟨nv, hv1, hv2, ev⟩ := nv_of hx
    have hch : ∀ r, r < n → chG F T P Wt o nv r = chM F T P Wt o nv r := fun r hr => (al_eq i3 i4 i7 i6 r (by omega)).2 hr
    rcases a2 nv hv1 hv2 ev with ⟨rfl, c1, c2, c3⟩ | ⟨rfl, ⟨r, c1, c2, c3⟩, rfl⟩
    · rcases b2 nv hv1 hv2 ev with ⟨rfl, d1, d2, d3⟩ | ⟨rfl, ⟨r, d1, d2, d3⟩, rfl⟩
      · have e : V1 = V2 := V_uni i3 c2 c3 (fun j hj => by rw [d2 j hj, hch j hj]) d3
        subst e
        refine ⟨rfl, rfl, hnv V1 (fun j => ?_), rfl⟩
        by_cases cj : j < n
        · obtain ⟨i, hi, rfl⟩ := prm_sur i3 cj
          have hle : chM F T P Wt o nv i ≤ nv := mn_le nv
          have hne := d1 i hi
          rw [d2 i hi, nI_toInt (by omega)]
          omega
        · rw [c3 j (by omega)]
          exact i6.2.2.2.1 j
      · exact absurd d2 (by rw [← hch r d1]; exact c1 r d1)
    · rcases b2 nv hv1 hv2 ev with ⟨rfl, d1, d2, d3⟩ | ⟨rfl, _, rfl⟩
      · exact absurd c2 (by rw [hch r c1]; exact d1 r c1)
      · exact ⟨rfl, rfl, hnv _ i6.2.2.2.1, rfl⟩
  · obtain ⟨rfl, rfl⟩ := a1 hx
    obtain ⟨rfl, rfl⟩ := b1 hx
    exact ⟨rfl, rfl, hnv _ i6.2.2.2.1, rfl⟩

theorem lC_out {x : Int32} {n kl : Nat} (h : ¬ ((1 ≤ x ∧ x ≤ 4) ∧ n ≤ 14)) : lC x n kl = 0 ∧ lS x n kl = 0 := by
  unfold lC lS
  rw [if_neg h, if_neg h]
  exact ⟨rfl, rfl⟩

theorem lw_least {x : Int32} (hi : INV n F T P V Wt o kr) (h1 : ((fun (rr : Int32) (u : SS × XJ) => ∃ (LA1 : Nat → Int32) (vs1 : Int32) (PL1 : Nat → Int32) (kn1 kl1 : Nat) (KN1 : Nat → Int32), u = ((n, F, T, P, V, Wt, o), (kr, rc, RB, RE, p1, p2, LA1, vs1, PL1, kn1, kl1, KN1, CH)) ∧ (¬ (1 ≤ x ∧ x ≤ 4) → rr = -2 ∧ kl1 = kl) ∧ (1 ≤ x ∧ x ≤ 4 → 14 < n → rr = -3 ∧ kl1 = kl) ∧ (∀ nv, 1 ≤ nv → nv ≤ 4 → x = nI nv → n ≤ 14 → rr = encC (dp F T P Wt o nv n 0 ln0) ∧ kl1 = nkl n nv kl ∧ vs1 = nI nv ∧ (∀ v, v < nv → PL1 v = nI (n ^ v)) ∧ kiP F T P Wt o n nv KN1)) r1 u)) (h2 : ((fun (rr : Int32) (u : SS × MJ) => ∃ G1 L1 R1 : Nat → Int32, u = ((n, F, T, P, V, Wt, o), (G1, L1, R1)) ∧ (¬ (1 ≤ x ∧ x ≤ 4) → rr = -2) ∧ (1 ≤ x ∧ x ≤ 4 → 14 < n → rr = -3) ∧ (∀ nv, 1 ≤ nv → nv ≤ 4 → x = nI nv → n ≤ 14 → rr = encC (dp F T P Wt o nv n 0 ln0) ∧ (¬ dp F T P Wt o nv n 0 ln0 = 2000000000 → ∀ j, j < n → G1 j = nI (chF F T P Wt o n nv j)))) r2 w)) : r1 = r2 ∧ u.1 = w.1 ∧ INVs u.1 u.2.1 ∧ (klJ u.2 = kl ∧ lC x n kl = 0 ∧ lS x n kl = 0 ∨ ∃ nv, nv ≤ 4 ∧ n ≤ 14 ∧ klJ u.2 = nkl n nv kl ∧ lC x n kl = allC n nv kl ∧ lS x n kl = allS n nv kl) := by
  obtain ⟨LA1, vs1, PL1, kn1, kl1, KN1, rfl, a1, a2, a3⟩ := h1
  obtain ⟨G1, L1, R1, rfl, b1, b2, b3⟩ := h2
  by_cases hx : 1 ≤ x ∧ x ≤ 4
  · by_cases hn : n ≤ 14
    · obtain ⟨nv, hv1, hv2, ev⟩ := nv_of hx
      obtain ⟨e1, e2, -, -, -⟩ := a3 nv hv1 hv2 ev hn
      obtain ⟨e3, -⟩ := b3 nv hv1 hv2 ev hn
      obtain ⟨l1, l2⟩ := lC_in (n := n) (kl := kl) hv1 hv2 ev hn
      exact ⟨e1.trans e3.symm, rfl, hi, Or.inr ⟨nv, hv2, hn, e2, l1, l2⟩⟩
    · obtain ⟨e1, e2⟩ := a2 hx (by omega)
      obtain ⟨l1, l2⟩ := lC_out (x := x) (n := n) (kl := kl) (fun h => hn h.2)
      exact ⟨e1.trans (b2 hx (by omega)).symm, rfl, hi, Or.inl ⟨e2, l1, l2⟩⟩
  · obtain ⟨e1, e2⟩ := a1 hx
    obtain ⟨l1, l2⟩ := lC_out (x := x) (n := n) (kl := kl) (fun h => hx h.1)
    exact ⟨e1.trans (b1 hx).symm, rfl, hi, Or.inl ⟨e2, l1, l2⟩⟩

theorem lw_find {x : Int32} (hi : INV n F T P V Wt o kr) (h1 : ((fun (rr : Int32) (u : SS × XJ) => ∃ (V1 : Nat → Int32) (LA1 : Nat → Int32) (vs1 : Int32) (PL1 : Nat → Int32) (kn1 kl1 : Nat) (KN1 : Nat → Int32), u = ((n, F, T, P, V1, Wt, o), (kr, rc, RB, RE, p1, p2, LA1, vs1, PL1, kn1, kl1, KN1, CH)) ∧ (¬ (1 ≤ x ∧ x ≤ 4) → rr = -2 ∧ V1 = V ∧ kl1 = kl) ∧ (1 ≤ x ∧ x ≤ 4 → 14 < n → rr = -3 ∧ V1 = V ∧ kl1 = kl) ∧ (∀ nv, 1 ≤ nv → nv ≤ 4 → x = nI nv → n ≤ 14 → rr = encC (dp F T P Wt o nv n 0 ln0) ∧ kl1 = nkl n nv kl ∧ (dp F T P Wt o nv n 0 ln0 = 2000000000 → V1 = V) ∧ (¬ dp F T P Wt o nv n 0 ln0 = 2000000000 → (∀ j, j < n → V1 (o j) = nI (chF F T P Wt o n nv j)) ∧ (∀ j, n ≤ j → V1 j = V j)))) r1 u)) (h2 : ((fun (rr : Int32) (u : SS × MJ) => ∃ V1 G1 L1 R1 : Nat → Int32, u = ((n, F, T, P, V1, Wt, o), (G1, L1, R1)) ∧ (¬ (1 ≤ x ∧ x ≤ 4) → rr = -2 ∧ V1 = V) ∧ (1 ≤ x ∧ x ≤ 4 → 14 < n → rr = -3 ∧ V1 = V) ∧ (∀ nv, 1 ≤ nv → nv ≤ 4 → x = nI nv → n ≤ 14 → rr = encC (dp F T P Wt o nv n 0 ln0) ∧ (dp F T P Wt o nv n 0 ln0 = 2000000000 → V1 = V) ∧ (¬ dp F T P Wt o nv n 0 ln0 = 2000000000 → (∀ j, j < n → V1 (o j) = nI (chF F T P Wt o n nv j)) ∧ (∀ j, n ≤ j → V1 j = V j)))) r2 w)) : r1 = r2 ∧ u.1 = w.1 ∧ INVs u.1 u.2.1 ∧ (klJ u.2 = kl ∧ lC x n kl = 0 ∧ lS x n kl = 0 ∨ ∃ nv, nv ≤ 4 ∧ n ≤ 14 ∧ klJ u.2 = nkl n nv kl ∧ lC x n kl = allC n nv kl ∧ lS x n kl = allS n nv kl) := by
  obtain ⟨i1, i2, i3, i4, i5, i6, i7⟩ := hi
  obtain ⟨V1, LA1, vs1, PL1, kn1, kl1, KN1, rfl, a1, a2, a3⟩ := h1
  obtain ⟨V2, G1, L1, R1, rfl, b1, b2, b3⟩ := h2
  have hnv : ∀ V', (∀ j, -1 ≤ (V' j).toInt ∧ (V' j).toInt ≤ 3) → INV n F T P V' Wt o kr := fun V' h => ⟨i1, i2, i3, i4, i5, ⟨i6.1, i6.2.1, i6.2.2.1, h, i6.2.2.2.2⟩, i7⟩
  by_cases hx : 1 ≤ x ∧ x ≤ 4
  · by_cases hn : n ≤ 14
    · obtain ⟨nv, hv1, hv2, ev⟩ := nv_of hx
      obtain ⟨e1, e2, e5, e6⟩ := a3 nv hv1 hv2 ev hn
      obtain ⟨e3, e7, e8⟩ := b3 nv hv1 hv2 ev hn
      obtain ⟨l1, l2⟩ := lC_in (n := n) (kl := kl) hv1 hv2 ev hn
      by_cases z : dp F T P Wt o nv n 0 ln0 = 2000000000
      · obtain rfl := e5 z
        obtain rfl := e7 z
        exact ⟨e1.trans e3.symm, rfl, hnv _ i6.2.2.2.1, Or.inr ⟨nv, hv2, hn, e2, l1, l2⟩⟩
      · obtain ⟨c2, c3⟩ := e6 z
        obtain ⟨d2, d3⟩ := e8 z
        have e : V1 = V2 := V_uni i3 c2 c3 d2 d3
        subst e
        refine ⟨e1.trans e3.symm, rfl, hnv V1 (fun j => ?_), Or.inr ⟨nv, hv2, hn, e2, l1, l2⟩⟩
        by_cases cj : j < n
        · obtain ⟨i, hi, rfl⟩ := prm_sur i3 cj
          have hok : ∀ r, r ≤ n → okF F T P Wt o n nv r := fun r => by
            induction r with
            | zero => exact fun _ => okF_0 z
            | succ r ih => exact fun h => okF_s (by omega) (ih (by omega))
          have hlt := (chF_lt hi (hok i (by omega))).1
          rw [c2 i hi, nI_toInt (by omega)]
          omega
        · rw [c3 j (by omega)]
          exact i6.2.2.2.1 j
    · obtain ⟨e1, rfl, e2⟩ := a2 hx (by omega)
      obtain ⟨e3, rfl⟩ := b2 hx (by omega)
      obtain ⟨l1, l2⟩ := lC_out (x := x) (n := n) (kl := kl) (fun h => hn h.2)
      exact ⟨e1.trans e3.symm, rfl, hnv _ i6.2.2.2.1, Or.inl ⟨e2, l1, l2⟩⟩
  · obtain ⟨e1, rfl, e2⟩ := a1 hx
    obtain ⟨e3, rfl⟩ := b1 hx
    obtain ⟨l1, l2⟩ := lC_out (x := x) (n := n) (kl := kl) (fun h => hx h.1)
    exact ⟨e1.trans e3.symm, rfl, hnv _ i6.2.2.2.1, Or.inl ⟨e2, l1, l2⟩⟩

theorem lw_pairs {kd : Int32} (hi : INV n F T P V Wt o kr) (h1 : ((fun (r : Int32) (u : SS × XJ) => r = (if 0 ≤ kd ∧ kd ≤ 2 then nI (totc (qC F T P V o kd) n n) else -2) ∧ ∃ y1 y2, u = ((n, F, T, P, V, Wt, o), (kr, rc, RB, RE, y1, y2, LA, vs, PL, kn, kl, KN, CH))) r1 u)) (h2 : r2 = if 0 ≤ kd ∧ kd ≤ 2 then nI (totc (qM F T P V o kd) n n) else -2) : r1 = r2 ∧ u.1 = (n, F, T, P, V, Wt, o) ∧ u.2.1 = kr ∧ klJ u.2 = kl := by
  obtain ⟨e, y1, y2, rfl⟩ := h1
  rw [qq_eq hi.2.2.2.2.2.1.2.2.2.1] at e
  exact ⟨e.trans h2.symm, rfl, rfl, rfl⟩

theorem lw_pair {kd i wh : Int32} (hi : INV n F T P V Wt o kr) (h1 : ((fun (r : Int32) (u : SS × XJ) => ((0 ≤ kd ∧ kd ≤ 2 ∧ 0 ≤ i ∧ 0 ≤ wh ∧ wh ≤ 1) → pOK (qC F T P V o kd) o n i wh r) ∧ (¬ (0 ≤ kd ∧ kd ≤ 2 ∧ 0 ≤ i ∧ 0 ≤ wh ∧ wh ≤ 1) → r = -2) ∧ ∃ y1 y2, u = ((n, F, T, P, V, Wt, o), (kr, rc, RB, RE, y1, y2, LA, vs, PL, kn, kl, KN, CH))) r1 u)) (h2 : ((0 ≤ kd ∧ kd ≤ 2 ∧ 0 ≤ i ∧ 0 ≤ wh ∧ wh ≤ 1) → pOK (qM F T P V o kd) o n i wh r2) ∧ (¬ (0 ≤ kd ∧ kd ≤ 2 ∧ 0 ≤ i ∧ 0 ≤ wh ∧ wh ≤ 1) → r2 = -2)) : r1 = r2 ∧ u.1 = (n, F, T, P, V, Wt, o) ∧ u.2.1 = kr ∧ klJ u.2 = kl := by
  obtain ⟨e, e2, y1, y2, rfl⟩ := h1
  rw [qq_eq hi.2.2.2.2.2.1.2.2.2.1] at e
  refine ⟨?_, rfl, rfl, rfl⟩
  by_cases c : (0 ≤ kd ∧ kd ≤ 2 ∧ 0 ≤ i ∧ 0 ≤ wh ∧ wh ≤ 1)
  · exact pOK_uni (e c) (h2.1 c)
  · rw [e2 c, h2.2 c]

theorem lw_cost {kd : Int32} (hi : INV n F T P V Wt o kr) (h1 : ((fun (r : Int32) (u : SS × XJ) => r = (if 0 ≤ kd ∧ kd ≤ 4 then (if whC F T V o kr n = true then prt (lpC P V Wt o kr n) (gpC F T V Wt o kr n) (nI (totc (qC F T P V o 0) n n) * Wt 2) (nI (usN V n) * Wt 3) kd else -3) else -2) ∧ ∃ y1 y2, u = ((n, F, T, P, V, Wt, o), (kr, rc, RB, RE, y1, y2, LA, vs, PL, kn, kl, KN, CH))) r1 u)) (h2 : r2 = if 0 ≤ kd ∧ kd ≤ 4 then (if whM F T V n = true then prt (lpM F P V Wt o n) (gpM F T P V Wt o n) (nI (totc (qM F T P V o 0) n n) * Wt 2) (nI (usN V n) * Wt 3) kd else -3) else -2) : r1 = r2 ∧ u.1 = (n, F, T, P, V, Wt, o) ∧ u.2.1 = kr ∧ klJ u.2 = kl := by
  obtain ⟨i1, i2, i3, i4, i5, i6, i7⟩ := hi
  obtain ⟨e, y1, y2, rfl⟩ := h1
  rw [wh_eq i3 i4 i5 i6.2.2.2.1 i7, lp_eq i3 i4 i5 i6, gp_eq i3 i4 i5 i6, qq_eq i6.2.2.2.1] at e
  exact ⟨e.trans h2.symm, rfl, rfl, rfl⟩

theorem lw_of {x w_ : Int32} (hi : INV n F T P V Wt o kr) (h1 : (ixB x n = false → r1 = -2) ∧ (∀ j, j < n → x = nI j → r1 = sw7 w_ (F j) (T j) (P j) (V j) (nI (kr j)) (oi (flC V o kr n j)) (nI (clC F T V n j)))) (h2 : (ixB x n = false → r2 = -2) ∧ (∀ j, j < n → x = nI j → r2 = sw7 w_ (F j) (T j) (P j) (V j) (nI (rkN F P n j)) (oi (flM F P V o n j)) (nI (clM F T V n j)))) : r1 = r2 := by
  obtain ⟨i1, i2, i3, i4, i5, i6, i7⟩ := hi
  cases hx : ixB x n
  · rw [h1.1 hx, h2.1 hx]
  · obtain ⟨j, hj, ej⟩ := ix_of (by omega) (ixB_t.mp hx)
    rw [h1.2 j hj ej, h2.2 j hj ej, kr_rk i3 i4 i5 hj, fl_eq i3 i4 i5 i6.2.2.2.1 hj, cl_eq i6.2.2.2.1 j]

theorem lw_ranked {x : Int32} (hi : INV n F T P V Wt o kr) (h1 : (ixB x n = false → r1 = -2) ∧ (∀ j, j < n → x = nI j → r1 = nI (o j))) (h2 : (ixB x n = false → r2 = -2) ∧ (∀ j, j < n → x = nI j → r2 = nI (o j))) : r1 = r2 := by
  have i1 := hi.1
  cases hx : ixB x n
  · rw [h1.1 hx, h2.1 hx]
  · obtain ⟨j, hj, ej⟩ := ix_of (by omega) (ixB_t.mp hx)
    rw [h1.2 j hj ej, h2.2 j hj ej]

theorem lw_rests {v : Int32} (hi : INV n F T P V Wt o kr) (h1 : ((fun (rr : Int32) (u : SS × XJ) => ∃ (rc1 : Int32) (RB1 RE1 : Nat → Int32), u = ((n, F, T, P, V, Wt, o), (kr, rc1, RB1, RE1, p1, p2, LA, vs, PL, kn, kl, KN, CH)) ∧ (¬ (0 ≤ v ∧ v ≤ 4) → rr = -2) ∧ (0 ≤ v ∧ v ≤ 4 → ∃ c2, c2 ≤ 61 ∧ rr = nI c2 ∧ RP (isoC V v) F T n c2 RB1 RE1)) r1 u)) : ∃ (c2 : Nat) (RB1 RE1 : Nat → Int32), c2 ≤ 61 ∧ (0 ≤ v ∧ v ≤ 4 → RP (isoB V v) F T n c2 RB1 RE1) ∧ r1 = (if 0 ≤ v ∧ v ≤ 4 then nI c2 else -2) ∧ u.1 = (n, F, T, P, V, Wt, o) ∧ u.2.1 = kr ∧ klJ u.2 = kl := by
  obtain ⟨rc1, RB1, RE1, rfl, e1, e2⟩ := h1
  rw [iso_eq hi.2.2.2.2.2.1.2.2.2.1] at e2
  by_cases c : 0 ≤ v ∧ v ≤ 4
  · obtain ⟨c2, b1, b2, b3⟩ := e2 c
    exact ⟨c2, RB1, RE1, b1, fun _ => b3, by rw [if_pos c]; exact b2, rfl, rfl, rfl⟩
  · exact ⟨0, RB1, RE1, by omega, fun h => absurd h c, by rw [if_neg c]; exact e1 c, rfl, rfl, rfl⟩

theorem lw_rest {v i w_ : Int32} (hi : INV n F T P V Wt o kr) (h1 : ((fun (rr : Int32) (u : SS × XJ) => ∃ (rc1 : Int32) (RB1 RE1 : Nat → Int32), u = ((n, F, T, P, V, Wt, o), (kr, rc1, RB1, RE1, p1, p2, LA, vs, PL, kn, kl, KN, CH)) ∧ (¬ (0 ≤ v ∧ v ≤ 4 ∧ 0 ≤ w_ ∧ w_ ≤ 1) → rr = -2) ∧ (0 ≤ v ∧ v ≤ 4 ∧ 0 ≤ w_ ∧ w_ ≤ 1 → ∃ c2, c2 ≤ 61 ∧ RP (isoC V v) F T n c2 RB1 RE1 ∧ (∀ j, j < c2 → i = nI j → rr = if w_ = 0 then RB1 j else RE1 j) ∧ (ixB i c2 = false → rr = -2))) r1 u)) : ∃ (c2 : Nat) (RB1 RE1 : Nat → Int32), c2 ≤ 61 ∧ (0 ≤ v ∧ v ≤ 4 ∧ 0 ≤ w_ ∧ w_ ≤ 1 → RP (isoB V v) F T n c2 RB1 RE1) ∧ (¬ (0 ≤ v ∧ v ≤ 4 ∧ 0 ≤ w_ ∧ w_ ≤ 1) → r1 = -2) ∧ (0 ≤ v ∧ v ≤ 4 ∧ 0 ≤ w_ ∧ w_ ≤ 1 → ∀ j, j < c2 → i = nI j → r1 = if w_ = 0 then RB1 j else RE1 j) ∧ (0 ≤ v ∧ v ≤ 4 ∧ 0 ≤ w_ ∧ w_ ≤ 1 → ixB i c2 = false → r1 = -2) ∧ u.1 = (n, F, T, P, V, Wt, o) ∧ u.2.1 = kr ∧ klJ u.2 = kl := by
  obtain ⟨rc1, RB1, RE1, rfl, e1, e2⟩ := h1
  rw [iso_eq hi.2.2.2.2.2.1.2.2.2.1] at e2
  by_cases c : 0 ≤ v ∧ v ≤ 4 ∧ 0 ≤ w_ ∧ w_ ≤ 1
  · obtain ⟨c2, b1, b2, b3, b4⟩ := e2 c
    exact ⟨c2, RB1, RE1, b1, fun _ => b2, fun h => absurd c h, fun _ => b3, fun _ => b4, rfl, rfl, rfl⟩
  · exact ⟨0, RB1, RE1, by omega, fun h => absurd h c, e1, fun h => absurd h c, fun h => absurd h c, rfl, rfl, rfl⟩
end
