theorem sub_I {x y : Int32} (h1 : -2147483648 ≤ x.toInt - y.toInt) (h2 : x.toInt - y.toInt < 2147483648) : (x - y).toInt = x.toInt - y.toInt := by
  rw [Int32.toInt_sub]
  exact Int.bmod_eq_of_le (by omega) (by omega)
theorem mul_I {x y : Int32} {a b : Int} (hx : 0 ≤ x.toInt ∧ x.toInt ≤ a) (hy : 0 ≤ y.toInt ∧ y.toInt ≤ b) (hab : a * b < 2147483648) : (x * y).toInt = x.toInt * y.toInt ∧ 0 ≤ (x * y).toInt ∧ (x * y).toInt ≤ a * b := by
  have h1 : 0 ≤ x.toInt * y.toInt := Int.mul_nonneg hx.1 hy.1
  have h2 : x.toInt * y.toInt ≤ a * b := Int.mul_le_mul hx.2 hy.2 hy.1 (Int.le_trans hx.1 hx.2)
  have e : (x * y).toInt = x.toInt * y.toInt := by
    rw [Int32.toInt_mul]
    exact Int.bmod_eq_of_le (by omega) (by omega)
  rw [e]
  exact ⟨rfl, h1, h2⟩
theorem ab_eq {p q : Int32} (hp : 0 ≤ p.toInt ∧ p.toInt ≤ 127) (hq : 0 ≤ q.toInt ∧ q.toInt ≤ 127) : abI (p - q) = if q < p then p - q else q - p := by
  have e1 : (p - q).toInt = p.toInt - q.toInt := sub_I (by omega) (by omega)
  have e2 : (q - p).toInt = q.toInt - p.toInt := sub_I (by omega) (by omega)
  have e3 : (0 - (p - q)).toInt = 0 - (p.toInt - q.toInt) := by
    rw [sub_I (by rw [e1, tI0]; omega) (by rw [e1, tI0]; omega), e1, tI0]
  unfold abI
  by_cases c : q < p
  · rw [if_pos c, if_pos]
    rw [Int32.le_iff_toInt_le, e1, tI0]
    rw [Int32.lt_iff_toInt_lt] at c
    omega
  · rw [if_neg c]
    rw [Int32.lt_iff_toInt_lt] at c
    by_cases d : 0 ≤ p - q
    · rw [if_pos d]
      rw [Int32.le_iff_toInt_le, e1, tI0] at d
      apply Int32.toInt_inj.mp
      omega
    · rw [if_neg d]
      apply Int32.toInt_inj.mp
      omega
theorem smC_congr {c d : Nat → Bool} {f g : Nat → Int32} : ∀ {n : Nat}, (∀ k, k < n → c k = d k ∧ (d k = true → f k = g k)) → smC c f n = smC d g n
  | 0, _ => rfl
  | n + 1, h => by
    have ih := smC_congr (n := n) (fun k hk => h k (by omega))
    obtain ⟨h1, h2⟩ := h n (Nat.lt_succ_self n)
    simp only [smC, ih, h1]
    cases hd : d n
    · rfl
    · rw [h2 hd]
theorem flM_lt {n : Nat} {F P V : Nat → Int32} {o : Nat → Nat} {x : Nat} (hp : prm n o) (h : flM F P V o n x ≠ 0) : flM F P V o n x - 1 < n := by
  unfold flM at h ⊢
  split
  · rename_i c
    rw [if_pos c] at h
    rcases nxU_sp (q := fun r => decide (V (o r) = V x)) (o := o) (n - (rkN F P n x + 1)) (rkN F P n x + 1) with ⟨h1, _⟩ | ⟨i, h1, h2, h3, h4, h5⟩
    · exact absurd h1 h
    · rw [h4, Nat.add_sub_cancel]
      exact prm_lt hp (by omega)
  · rename_i c
    rw [if_neg c] at h
    exact absurd rfl h
theorem lp_eq {n : Nat} {F T P V Wt : Nat → Int32} {o kr : Nat → Nat} (hp : prm n o) (hs : srt F P n o) (hk : ∀ j, j < n → kr (o j) = j) (hb : bnd F T P V Wt) : lpC P V Wt o kr n = lpM F P V Wt o n := by
  unfold lpC lpM
  congr 1
  apply smC_congr
  intro k hkn
  rw [fl_eq hp hs hk hb.2.2.2.1 hkn]
  refine ⟨rfl, fun _ => ?_⟩
  exact ab_eq (hb.2.2.1 _) (hb.2.2.1 _)
theorem gp_eq {n : Nat} {F T P V Wt : Nat → Int32} {o kr : Nat → Nat} (hp : prm n o) (hs : srt F P n o) (hk : ∀ j, j < n → kr (o j) = j) (hb : bnd F T P V Wt) : gpC F T V Wt o kr n = gpM F T P V Wt o n := by
  unfold gpC gpM
  congr 1
  apply smC_congr
  intro k hkn
  rw [fl_eq hp hs hk hb.2.2.2.1 hkn]
  exact ⟨rfl, fun _ => rfl⟩
-- a note's price
theorem sumW_add {c : Nat → Bool} {w b : Int32} : ∀ k, sumW c w b k = b + sumW c w 0 k
  | 0 => (Int32.add_zero b).symm
  | k + 1 => by
    simp only [sumW]
    split
    · rw [sumW_add (c := c) (w := w) (b := b) k, Int32.add_assoc]
    · exact sumW_add k
theorem sumW_congr {c d : Nat → Bool} {w b : Int32} : ∀ {k : Nat}, (∀ u, u < k → c u = d u) → sumW c w b k = sumW d w b k
  | 0, _ => rfl
  | k + 1, h => by
    simp only [sumW, h k (Nat.lt_succ_self k), sumW_congr (k := k) (fun u hu => h u (by omega))]
theorem sumW_B {c : Nat → Bool} {w b : Int32} {B : Int} (hw : 0 ≤ w.toInt ∧ w.toInt ≤ 1000) (hb : 0 ≤ b.toInt ∧ b.toInt ≤ B) (hB : B ≤ 200000000) : ∀ k : Nat, k ≤ 4 → 0 ≤ (sumW c w b k).toInt ∧ (sumW c w b k).toInt ≤ B + (k : Int) * 1000
  | 0, _ => by simpa [sumW] using hb
  | k + 1, h => by
    have ih := sumW_B (c := c) hw hb hB k (by omega)
    simp only [sumW]
    split
    · have := add_B ih hw (by omega)
      omega
    · omega
theorem tog_on {n : Nat} {F T P : Nat → Int32} {o : Nat → Nat} (hp : prm n o) (hs : srt F P n o) (hFT : ∀ j, j < n → F j < T j) {i r : Nat} (hi : i < r) (hr : r < n) : tog F T (o i) (o r) = true ↔ F (o r) < T (o i) := by
  rw [tog_t]
  have h1 := srt_F hs (i := i) (j := r) (by omega) hr
  have h2 := hFT (o r) (prm_lt hp hr)
  rw [Int32.le_iff_toInt_le] at h1
  simp only [Int32.lt_iff_toInt_lt] at *
  omega
theorem pc_cc {n : Nat} {F T P V Wt : Nat → Int32} {o la : Nat → Nat} (hp : prm n o) (hs : srt F P n o) (hFT : ∀ j, j < n → F j < T j) (hb : bnd F T P V Wt) {r v u : Nat} (hr : r < n) (hla : la u ≤ r) : pcM F T P o la r v u = ccC F T P (lnO o la) (o r) v u := by
  have e : pcM F T P o la r v u = true ↔ ccC F T P (lnO o la) (o r) v u = true := by
    rw [pcM_t]
    unfold ccC
    rw [decide_eq_true_eq]
    by_cases c : la u = 0
    · have : lnO o la u = 0 := by simp [lnO, c]
      simp [c, this]
    · have e1 : lnO o la u = o (la u - 1) + 1 := by simp [lnO, c]
      rw [e1, Nat.add_sub_cancel, tog_on hp hs hFT (by omega) hr]
      have h1 := hb.2.2.1 (o r)
      have h2 := hb.2.2.1 (o (la u - 1))
      have e2 : (P (o r) - P (o (la u - 1))).toInt = (P (o r)).toInt - (P (o (la u - 1))).toInt := sub_I (by omega) (by omega)
      simp only [Int32.lt_iff_toInt_lt, e2, tI0]
      constructor
      · rintro ⟨a1, a2, a3, a4⟩
        exact ⟨by omega, a3, by omega⟩
      · rintro ⟨a1, a2, a3⟩
        exact ⟨by omega, c, a2, by omega⟩
  cases h1 : pcM F T P o la r v u <;> cases h2 : ccC F T P (lnO o la) (o r) v u
  · rfl
  · rw [h1, h2] at e
    exact absurd (e.mpr rfl) (by decide)
  · rw [h1, h2] at e
    exact absurd (e.mp rfl) (by decide)
  · rfl
theorem ad_eq {n : Nat} {F T P V Wt : Nat → Int32} {o la : Nat → Nat} (hp : prm n o) (hs : srt F P n o) (hFT : ∀ j, j < n → F j < T j) (hb : bnd F T P V Wt) {r v : Nat} (hr : r < n) (hla : ∀ u, la u ≤ r) : adC F T P Wt (lnO o la) (o r) v = encC (prc F T P Wt o la r v) ∧ (prc F T P Wt o la r v = 2000000000 ∨ (0 ≤ (prc F T P Wt o la r v).toInt ∧ (prc F T P Wt o la r v).toInt ≤ 130000000)) := by
  have hW := hb.2.2.2.2
  have hsum : ∀ b0 : Int32, sumW (pcM F T P o la r v) (Wt 2) b0 4 = b0 + crC F T P Wt (lnO o la) (o r) v := fun b0 => by
    rw [sumW_add, crC, sumW_congr (fun u _ => pc_cc hp hs hFT hb hr (hla u))]
  by_cases c : la v = 0
  · have e1 : lnO o la v = 0 := by simp [lnO, c]
    have hpr : prc F T P Wt o la r v = Wt 3 + crC F T P Wt (lnO o la) (o r) v := by
      rw [← prc_end (Or.inl c), ← pbM_0 c, hsum]
    have hbd := sumW_B (c := pcM F T P o la r v) (hW 2) (hW 3) (B := 1000) (by omega) 4 (Nat.le_refl 4)
    rw [hsum, ← hpr] at hbd
    refine ⟨?_, Or.inr ⟨hbd.1, by omega⟩⟩
    rw [encC_s (inB_ne ⟨hbd.1, by omega⟩), hpr, ← adC_0 e1]
  · have e1 : lnO o la v = o (la v - 1) + 1 := by simp [lnO, c]
    have e2 : lnO o la v - 1 = o (la v - 1) := by omega
    have hlv := hla v
    have ht := tog_on hp hs hFT (i := la v - 1) (r := r) (by omega) hr
    have hF := hb.1 (o r)
    have hT := hb.2.1 (o (la v - 1))
    have e3 : (F (o r) - T (o (la v - 1))).toInt = (F (o r)).toInt - (T (o (la v - 1))).toInt := sub_I (by omega) (by omega)
    by_cases d : F (o r) < T (o (la v - 1))
    · have hn := prc_nev (P := P) (Wt := Wt) c (ht.mpr d)
      refine ⟨?_, Or.inl hn.symm⟩
      rw [← hn, encC_n rfl, ← adC_1 (by omega)]
      rw [e2, Int32.lt_iff_toInt_lt, e3, tI0]
      rw [Int32.lt_iff_toInt_lt] at d
      omega
    · have htf : tog F T (o (la v - 1)) (o r) = false := by
        cases h9 : tog F T (o (la v - 1)) (o r)
        · rfl
        · exact absurd (ht.mp h9) d
      rw [Int32.lt_iff_toInt_lt] at d
      have hpb : pbM F T P Wt o la r v = abI (P (o r) - P (o (la v - 1))) * Wt 0 + (F (o r) - T (o (la v - 1))) * Wt 1 := by
        unfold pbM
        rw [if_neg c, ab_eq (hb.2.2.1 _) (hb.2.2.1 _)]
      have hpr : prc F T P Wt o la r v = abI (P (o r) - P (o (la v - 1))) * Wt 0 + (F (o r) - T (o (la v - 1))) * Wt 1 + crC F T P Wt (lnO o la) (o r) v := by
        rw [← prc_end (Or.inr htf), hsum, hpb]
      have hab : 0 ≤ (abI (P (o r) - P (o (la v - 1)))).toInt ∧ (abI (P (o r) - P (o (la v - 1)))).toInt ≤ 127 := by
        have p1 := hb.2.2.1 (o r)
        have p2 := hb.2.2.1 (o (la v - 1))
        rw [ab_eq p1 p2]
        split
        · rename_i h8
          rw [Int32.lt_iff_toInt_lt] at h8
          rw [sub_I (by omega) (by omega)]
          omega
        · rename_i h8
          rw [Int32.lt_iff_toInt_lt] at h8
          rw [sub_I (by omega) (by omega)]
          omega
      have m1 := mul_I hab (hW 0) (by omega)
      have m2 := mul_I (x := F (o r) - T (o (la v - 1))) (a := 100000) ⟨by rw [e3]; omega, by rw [e3]; omega⟩ (hW 1) (by omega)
      have m3 := add_B m1.2 m2.2 (by omega)
      have hbd := sumW_B (c := pcM F T P o la r v) (hW 2) (b := pbM F T P Wt o la r v) (B := 100127000) (by rw [hpb]; exact ⟨m3.1, by omega⟩) (by omega) 4 (Nat.le_refl 4)
      rw [hsum, hpb, ← hpr] at hbd
      refine ⟨?_, Or.inr ⟨hbd.1, by omega⟩⟩
      rw [encC_s (inB_ne ⟨hbd.1, by omega⟩), hpr, ← adC_2 (by omega) (by rw [e2, Int32.lt_iff_toInt_lt, e3, tI0]; omega), e2]
theorem mn_BB {p : Nat → Int32} {B : Int} : ∀ {k : Nat}, (∀ v, v < k → p v = 2000000000 ∨ (0 ≤ (p v).toInt ∧ (p v).toInt ≤ B)) → (mn p k).2 = 2000000000 ∨ (0 ≤ (mn p k).2.toInt ∧ (mn p k).2.toInt ≤ B)
  | 0, _ => Or.inl rfl
  | k + 1, h => by
    simp only [mn]
    split
    · exact h k (Nat.lt_succ_self k)
    · exact mn_BB (fun v hv => h v (by omega))
theorem dp_BB {n nv : Nat} {F T P V Wt : Nat → Int32} {o : Nat → Nat} (hp : prm n o) (hs : srt F P n o) (hFT : ∀ j, j < n → F j < T j) (hb : bnd F T P V Wt) (hn : n ≤ 14) : ∀ (d r : Nat) (la : Nat → Nat), n - r = d → r ≤ n → (∀ u, la u ≤ r) → dp F T P Wt o nv d r la = 2000000000 ∨ (0 ≤ (dp F T P Wt o nv d r la).toInt ∧ (dp F T P Wt o nv d r la).toInt ≤ (d : Int) * 130000000)
  | 0, r, la, _, _, _ => Or.inr (by
    show 0 ≤ (0 : Int32).toInt ∧ (0 : Int32).toInt ≤ _
    rw [tI0]
    omega)
  | d + 1, r, la, hd, hr, hla => by
    simp only [dp]
    apply mn_BB
    intro v _
    unfold thr
    split
    · exact Or.inl rfl
    · rename_i h1
      split
      · exact Or.inl rfl
      · rename_i h2
        have p1 := (ad_eq (v := v) hp hs hFT hb (show r < n by omega) hla).2.resolve_left h1
        have p2 := (dp_BB hp hs hFT hb hn d (r + 1) (updN la v (r + 1)) (by omega) (by omega) (updN_le (fun u => Nat.le_succ_of_le (hla u)) (Nat.le_refl _))).resolve_left h2
        have := add_B p1 p2 (by omega)
        exact Or.inr ⟨this.1, by omega⟩
theorem gB_of {n nv : Nat} {F T P V Wt : Nat → Int32} {o : Nat → Nat} (hp : prm n o) (hs : srt F P n o) (hFT : ∀ j, j < n → F j < T j) (hb : bnd F T P V Wt) (hn : n ≤ 14) : gB F T P Wt o n nv := ⟨fun la r v hr hla _ => ad_eq hp hs hFT hb hr hla.1, fun r la hr hla => dp_BB hp hs hFT hb hn (n - r) r la rfl hr hla.1⟩
theorem hDP_of {n nv : Nat} {F T P V Wt : Nat → Int32} {o : Nat → Nat} (hp : prm n o) (hs : srt F P n o) (hFT : ∀ j, j < n → F j < T j) (hb : bnd F T P V Wt) (hn : n ≤ 14) (h : ¬ dp F T P Wt o nv n 0 ln0 = 2000000000) : 0 ≤ dp F T P Wt o nv n 0 ln0 ∧ dp F T P Wt o nv n 0 ln0 < 2000000000 := by
  have h1 := (dp_BB hp hs hFT hb hn (nv := nv) n 0 ln0 (Nat.sub_zero n) (Nat.zero_le n) (fun _ => Nat.le_refl 0)).resolve_left h
  rw [Int32.le_iff_toInt_le, Int32.lt_iff_toInt_lt, tI0, tIbig]
  omega
-- going along: both choose alike
theorem cm_mn {ad p : Nat → Int32} : ∀ {k : Nat}, (∀ v, v < k → ad v = encC (p v) ∧ inB (p v)) → (cm ad k).1 = (mn p k).1 ∧ (cm ad k).2 = encC (mn p k).2 ∧ ((mn p k).1 = 0 ↔ (mn p k).2 = 2000000000)
  | 0, _ => ⟨rfl, rfl, ⟨fun _ => rfl, fun _ => rfl⟩⟩
  | k + 1, h => by
    obtain ⟨h1, h2, h3⟩ := cm_mn (k := k) (fun v hv => h v (by omega))
    obtain ⟨a1, a2⟩ := h k (Nat.lt_succ_self k)
    have b2 := mn_B (p := p) (k := k) (fun v hv => (h v (by omega)).2)
    have key : (¬ ad k = -1 ∧ ((cm ad k).1 = 0 ∨ ad k < (cm ad k).2)) ↔ p k < (mn p k).2 := by
      rw [a1, encC_m (inB_m1 a2), h1, h2, h3]
      constructor
      · rintro ⟨c1, c2⟩
        rw [encC_s c1] at c2
        have c3 := (a2.resolve_left c1)
        by_cases z : (mn p k).2 = 2000000000
        · rw [z, Int32.lt_iff_toInt_lt, tIbig]
          exact c3.2
        · rw [encC_s z] at c2
          exact c2.resolve_left z
      · intro hlt
        have c1 : ¬ p k = 2000000000 := fun z => by
          rw [z, Int32.lt_iff_toInt_lt, tIbig] at hlt
          rcases b2 with e | e
          · rw [e, tIbig] at hlt
            omega
          · omega
        refine ⟨c1, ?_⟩
        by_cases z : (mn p k).2 = 2000000000
        · exact Or.inl z
        · rw [encC_s c1, encC_s z]
          exact Or.inr hlt
    by_cases c : p k < (mn p k).2
    · rw [mn_y c, cm_y (key.mpr c)]
      refine ⟨rfl, a1, ⟨fun h => absurd h (Nat.succ_ne_zero k), fun z => ?_⟩⟩
      exfalso
      simp only at z
      rw [z, Int32.lt_iff_toInt_lt, tIbig] at c
      rcases b2 with e | e
      · rw [e, tIbig] at c
        omega
      · omega
    · rw [mn_n c, cm_n (fun q => c (key.mp q))]
      exact ⟨h1, h2, h3⟩
theorem al_eq {n nv : Nat} {F T P V Wt : Nat → Int32} {o : Nat → Nat} (hp : prm n o) (hs : srt F P n o) (hFT : ∀ j, j < n → F j < T j) (hb : bnd F T P V Wt) : ∀ r, r ≤ n → lnG F T P Wt o nv r = lnO o (laG F T P Wt o nv r) ∧ (r < n → chG F T P Wt o nv r = chM F T P Wt o nv r) := by
  have key : ∀ r, r < n → lnG F T P Wt o nv r = lnO o (laG F T P Wt o nv r) → chG F T P Wt o nv r = chM F T P Wt o nv r := fun r hr e => by
    unfold chG chM
    rw [e]
    refine (cm_mn (fun v _ => ?_)).1
    have h1 := ad_eq (v := v) hp hs hFT hb hr (laG_le (F := F) (T := T) (P := P) (Wt := Wt) (o := o) (nv := nv) r)
    exact ⟨h1.1, h1.2.elim Or.inl (fun q => Or.inr ⟨q.1, by omega⟩)⟩
  intro r
  induction r with
  | zero => intro _; exact ⟨rfl, fun h => key 0 h rfl⟩
  | succ r ih =>
    intro hr
    obtain ⟨h1, h2⟩ := ih (by omega)
    have h3 := h2 (by omega)
    have e : lnG F T P Wt o nv (r + 1) = lnO o (laG F T P Wt o nv (r + 1)) := by
      show updN (lnG F T P Wt o nv r) (chG F T P Wt o nv r - 1) (o r + 1) = lnO o (updN (laG F T P Wt o nv r) (chM F T P Wt o nv r - 1) (r + 1))
      rw [h1, h3, lnO_up]
    exact ⟨e, fun h => key (r + 1) h e⟩
-- a voicing is told by the ranks
theorem V_uni {n : Nat} {o : Nat → Nat} {V V1 V2 f : Nat → Int32} (hp : prm n o) (h1 : ∀ j, j < n → V1 (o j) = f j) (h2 : ∀ j, n ≤ j → V1 j = V j) (h3 : ∀ j, j < n → V2 (o j) = f j) (h4 : ∀ j, n ≤ j → V2 j = V j) : V1 = V2 := by
  funext j
  by_cases c : j < n
  · obtain ⟨i, hi, rfl⟩ := prm_sur hp c
    rw [h1 i hi, h3 i hi]
  · rw [h2 j (by omega), h4 j (by omega)]
