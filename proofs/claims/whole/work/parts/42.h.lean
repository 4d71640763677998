abbrev qM (F T P V : Nat → Int32) (o : Nat → Nat) (kd : Int32) : Nat → Nat → Bool := fun a b => prM F T P V kd (o a) (o b)
abbrev qC (F T P V : Nat → Int32) (o : Nat → Nat) (kd : Int32) : Nat → Nat → Bool := fun a b => prC F T P V kd (o a) (o b)
def pOK (q : Nat → Nat → Bool) (o : Nat → Nat) (n : Nat) (i w r : Int32) : Prop := (∀ a b, a < b → b < n → q a b = true → nI (posc q n a b) = i → r = if w = 0 then nI (o a) else nI (o b)) ∧ ((∀ a b, a < b → b < n → q a b = true → ¬ nI (posc q n a b) = i) → r = if i < 0 then nI (totc q n n) else -2)
def NF2 (q : Nat → Nat → Bool) (n : Nat) (i : Int32) (ia ib : Nat) : Prop := ∀ a b, (a < ia ∨ (a = ia ∧ b < ib)) → a < b → b < n → q a b = true → ¬ nI (posc q n a b) = i
theorem NF2_0 {q : Nat → Nat → Bool} {n : Nat} {i : Int32} : NF2 q n i 0 0 := fun a b h => by omega
theorem NF2_in {q : Nat → Nat → Bool} {n ia : Nat} {i : Int32} (h : NF2 q n i ia 0) : NF2 q n i ia (ia + 1) := fun a b h1 h2 h3 h4 => h a b (by omega) h2 h3 h4
theorem NF2_f {q : Nat → Nat → Bool} {n ia ib : Nat} {i : Int32} (h : NF2 q n i ia ib) (hq : q ia ib = false) : NF2 q n i ia (ib + 1) := fun a b h1 h2 h3 h4 => by
  by_cases e : a = ia ∧ b = ib
  · obtain ⟨rfl, rfl⟩ := e
    rw [hq] at h4
    cases h4
  · exact h a b (by omega) h2 h3 h4
theorem NF2_n {q : Nat → Nat → Bool} {n ia ib : Nat} {i : Int32} (h : NF2 q n i ia ib) (hq : ¬ nI (posc q n ia ib) = i) : NF2 q n i ia (ib + 1) := fun a b h1 h2 h3 h4 => by
  by_cases e : a = ia ∧ b = ib
  · obtain ⟨rfl, rfl⟩ := e
    exact hq
  · exact h a b (by omega) h2 h3 h4
theorem NF2_out {q : Nat → Nat → Bool} {n ia ib : Nat} {i : Int32} (h : NF2 q n i ia ib) (hb : n ≤ ib) : NF2 q n i (ia + 1) 0 := fun a b h1 h2 h3 h4 => h a b (by omega) h2 h3 h4
theorem posc_ne {q : Nat → Nat → Bool} {n a b a2 b2 : Nat} {i : Int32} (hn : n ≤ 60) (h : a < b) (hb : b < n) (hq : q a b = true) (hl : a < a2 ∨ (a = a2 ∧ b < b2)) (h2 : a2 ≤ n) (hb2 : b2 ≤ n) (e : nI (posc q n a b) = i) : ¬ nI (posc q n a2 b2) = i := fun e2 => by
  have h1 := posc_lt h hb hq hl
  have h3 := posc_b (q := q) hn (show a ≤ n by omega) (show b ≤ n by omega)
  have h4 := posc_b (q := q) hn h2 hb2
  have := (nI_eq (a := posc q n a b) (b := posc q n a2 b2) (by omega) (by omega)).mp (e.trans e2.symm)
  omega
theorem pOK_hit {q : Nat → Nat → Bool} {o : Nat → Nat} {n ia ib : Nat} {i w r : Int32} (hn : n ≤ 60) (h : NF2 q n i ia ib) (hab : ia < ib) (hb : ib < n) (hq : q ia ib = true) (e : nI (posc q n ia ib) = i) (hr : r = if w = 0 then nI (o ia) else nI (o ib)) : pOK q o n i w r := by
  constructor
  · intro a b h1 h2 h3 h4
    by_cases c1 : a < ia ∨ (a = ia ∧ b < ib)
    · exact absurd h4 (h a b c1 h1 h2 h3)
    · by_cases c2 : a = ia ∧ b = ib
      · obtain ⟨rfl, rfl⟩ := c2
        exact hr
      · exact absurd h4 (posc_ne hn hab hb hq (by omega) (by omega) (by omega) e)
  · intro h5
    exact absurd e (h5 ia ib hab hb hq)
theorem pOK_end {q : Nat → Nat → Bool} {o : Nat → Nat} {n ia : Nat} {i w r : Int32} (h : NF2 q n i ia 0) (ha : n ≤ ia) (hr : r = if i < 0 then nI (totc q n n) else -2) : pOK q o n i w r := by
  constructor
  · intro a b h1 h2 h3 h4
    exact absurd h4 (h a b (by omega) h1 h2 h3)
  · intro _
    exact hr
def PF2 (q : Nat → Nat → Bool) (o : Nat → Nat) (n : Nat) (i : Int32) (ia ib : Nat) (p1 p2 : Int32) : Prop := ∀ a b, (a < ia ∨ (a = ia ∧ b < ib)) → a < b → b < n → q a b = true → nI (posc q n a b) = i → p1 = nI (o a) ∧ p2 = nI (o b)
theorem PF2_0 {q : Nat → Nat → Bool} {o : Nat → Nat} {n : Nat} {i p1 p2 : Int32} : PF2 q o n i 0 0 p1 p2 := fun a b h => by omega
theorem PF2_in {q : Nat → Nat → Bool} {o : Nat → Nat} {n ia : Nat} {i p1 p2 : Int32} (h : PF2 q o n i ia 0 p1 p2) : PF2 q o n i ia (ia + 1) p1 p2 := fun a b h1 h2 h3 h4 => h a b (by omega) h2 h3 h4
theorem PF2_f {q : Nat → Nat → Bool} {o : Nat → Nat} {n ia ib : Nat} {i p1 p2 : Int32} (h : PF2 q o n i ia ib p1 p2) (hq : q ia ib = false) : PF2 q o n i ia (ib + 1) p1 p2 := fun a b h1 h2 h3 h4 => by
  by_cases e : a = ia ∧ b = ib
  · obtain ⟨rfl, rfl⟩ := e
    rw [hq] at h4
    cases h4
  · exact h a b (by omega) h2 h3 h4
theorem PF2_n {q : Nat → Nat → Bool} {o : Nat → Nat} {n ia ib : Nat} {i p1 p2 : Int32} (h : PF2 q o n i ia ib p1 p2) (hq : ¬ nI (posc q n ia ib) = i) : PF2 q o n i ia (ib + 1) p1 p2 := fun a b h1 h2 h3 h4 => by
  by_cases e : a = ia ∧ b = ib
  · obtain ⟨rfl, rfl⟩ := e
    exact fun e2 => absurd e2 hq
  · exact h a b (by omega) h2 h3 h4
theorem PF2_y {q : Nat → Nat → Bool} {o : Nat → Nat} {n ia ib : Nat} {i : Int32} (hn : n ≤ 60) (hab : ia < ib) (hb : ib < n) (e : nI (posc q n ia ib) = i) : PF2 q o n i ia (ib + 1) (nI (o ia)) (nI (o ib)) := fun a b h1 h2 h3 h4 h5 => by
  by_cases c : a = ia ∧ b = ib
  · obtain ⟨rfl, rfl⟩ := c
    exact ⟨rfl, rfl⟩
  · exact absurd e (posc_ne hn h2 h3 h4 (by omega) (by omega) (by omega) h5)
theorem PF2_out {q : Nat → Nat → Bool} {o : Nat → Nat} {n ia ib : Nat} {i p1 p2 : Int32} (h : PF2 q o n i ia ib p1 p2) (hb : n ≤ ib) : PF2 q o n i (ia + 1) 0 p1 p2 := fun a b h1 h2 h3 h4 => h a b (by omega) h2 h3 h4
def abI (d : Int32) : Int32 := if 0 ≤ d then d else 0 - d
def lpC (P V Wt : Nat → Int32) (o kr : Nat → Nat) (n : Nat) : Int32 := smC (fun k => decide (flC V o kr n k ≠ 0)) (fun k => abI (P (flC V o kr n k - 1) - P k)) n * Wt 0
def gpC (F T V Wt : Nat → Int32) (o kr : Nat → Nat) (n : Nat) : Int32 := smC (fun k => decide (flC V o kr n k ≠ 0)) (fun k => F (flC V o kr n k - 1) - T k) n * Wt 1
def lpM (F P V Wt : Nat → Int32) (o : Nat → Nat) (n : Nat) : Int32 := smC (fun k => decide (flM F P V o n k ≠ 0)) (fun k => if P k < P (flM F P V o n k - 1) then P (flM F P V o n k - 1) - P k else P k - P (flM F P V o n k - 1)) n * Wt 0
def gpM (F T P V Wt : Nat → Int32) (o : Nat → Nat) (n : Nat) : Int32 := smC (fun k => decide (flM F P V o n k ≠ 0)) (fun k => F (flM F P V o n k - 1) - T k) n * Wt 1
def prt (lp gp cr us kd : Int32) : Int32 := if kd = 1 then lp else if kd = 2 then gp else if kd = 3 then cr else if kd = 4 then us else lp + gp + cr + us
theorem prt_1 {lp gp cr us kd : Int32} (h : kd = 1) : lp = prt lp gp cr us kd := by simp [prt, h]
theorem prt_2 {lp gp cr us kd : Int32} (h : kd = 2) : gp = prt lp gp cr us kd := by simp [prt, h]
theorem prt_3 {lp gp cr us kd : Int32} (h : kd = 3) : cr = prt lp gp cr us kd := by simp [prt, h]
theorem prt_4 {lp gp cr us kd : Int32} (h : kd = 4) : us = prt lp gp cr us kd := by simp [prt, h]
theorem prt_0 {lp gp cr us kd : Int32} (h1 : ¬ kd = 1) (h2 : ¬ kd = 2) (h3 : ¬ kd = 3) (h4 : ¬ kd = 4) : lp + gp + cr + us = prt lp gp cr us kd := by simp [prt, h1, h2, h3, h4]
theorem smI_a {c : Nat → Bool} {f : Nat → Int32} {k : Nat} {v : Int32} (h : c k = true) (e : v = f k) : smC c f k + v = smC c f (k + 1) := by rw [e]; exact smC_y h
theorem no_m1 {p : Nat} (h : p ≤ 10000) : ¬ nI p = -1 := fun e => by
  have := congrArg Int32.toInt e
  rw [nI_toInt (by omega), tIm1] at this
  omega
theorem pOK_m1 {q : Nat → Nat → Bool} {o : Nat → Nat} {n : Nat} {w r : Int32} (hn : n ≤ 60) (h : pOK q o n (-1) w r) : r = nI (totc q n n) := h.2 (fun a b h1 h2 _ => no_m1 (by
  have := posc_b (q := q) hn (show a ≤ n by omega) (show b ≤ n by omega)
  omega))
set_option maxHeartbeats 4000000 in
set_option maxRecDepth 100000 in
theorem c_X8_pairOf (l : Launch) (dC : Nat → ClassId) (dI : Nat → Nat → Nat) (cI : ClassId) (a : Nat → Nat) (n : Nat) (F T P V Wt : Nat → Int32) (o : Nat → Nat) (G L R : Nat → Int32) (hn : n ≤ 60) (ho : ∀ j, o j < 60) (kd i wh : Int32) : Met l yX8_pairOf wsX8_pairOf ({ frames := 2, cells := 0, slots := 0, locals := 45 } : Room) (va_Pc [.ref (a 0), .int kd, .int i, .int wh] (fun U => va_P (dC, dI) vwCl (mW cI a (nI n) F T P V Wt (fun j => nI (o j)) G L R) U.heap ∧ va_K (dC, dI) vwCl [(cI, .int)] U)) (vp_Si (fun r => pOK (qM F T P V o kd) o n i wh r)) 0 0 (fun _ => False) := by
  refine Met.ofW (cc := cX8_pairOf) (maxL := 7) (ret := (some .int)) (by decide) rfl ?_
  intro p e s m args below meth c s₁ B hml hv
  obtain ⟨rfl, hP, hK⟩ := hv
  have hx := B.exec
  have hb := B.bytes
  have hr := B.returns
  have hts := atoms_spec (ws := wsX8_pairOf) B.pre
  have hown : s.vm.findClass RX8 = some m.cls := findClass_of_methodNamed B.named
  have hlocks := B.notSynchronized
  have i_X8 : ∀ w ∈ u_ws RX8 TX8 10, w ∈ wsX8_pairOf := by decide +kernel
  have k_0 := hts (.fieldLink RX8 38 "VoiceRowsModel" "notes" "I") (by decide +kernel)
  have k_1 := hts (.fieldLink RX8 25 "VoiceRowsModel" "order" "[I") (by decide +kernel)
  have hl := lv_entry ([.ref (a 0), .int kd, .int i, .int wh]) (n := 7) (Nat.le_of_ble_eq_true rfl)
  rw [lg_entry_eq]
  generalize (lg_sl ([.ref (a 0), .int kd, .int i, .int wh]) ++ List.replicate (7 - (lg_sl ([.ref (a 0), .int kd, .int i, .int wh])).length) Slot.unset).toArray = ls at hl ⊢
  have hl : lv_has ls 7 [(0, .ref (a 0)), (1, .int kd), (2, .int i), (3, .int wh)] := hl
  refine lv_iconst (v := 0) hx hb dX8_pairOf_0 (by decide) ?_
  refine lv_istore (lv' := [(4, .int 0), (0, .ref (a 0)), (1, .int kd), (2, .int i), (3, .int wh)]) hx hb dX8_pairOf_1 hl (by decide) rfl (fun ls hl => ?_)
  refine lv_iconst (v := 0) hx hb dX8_pairOf_3 (by decide) ?_
  refine lv_istore (lv' := [(5, .int 0), (4, .int 0), (0, .ref (a 0)), (1, .int kd), (2, .int i), (3, .int wh)]) hx hb dX8_pairOf_4 hl (by decide) rfl (fun ls hl => ?_)
  have L6 : ∀ (fu : Nat) (ia : Nat) (x4 x5 : Int32) (ls : Array Slot), x4 = nI (totc (qM F T P V o kd) n ia) → x5 = nI ia → ia ≤ n → NF2 (qM F T P V o kd) n i ia 0 → n - ia < fu → lv_has ls 7 [(0, .ref (a 0)), (1, .int kd), (2, .int i), (3, .int wh), (4, .int x4), (5, .int x5)] → W p l e (headSpec wsX8_pairOf ({ frames := 2, cells := 0, slots := 0, locals := 45 } : Room)).room s m [.ref (a 0), .int kd, .int i, .int wh].toArray below meth c s.heap [] 0 0 (MQ below (vp_Si (fun r => pOK (qM F T P V o kd) o n i wh r)) [.ref (a 0), .int kd, .int i, .int wh].toArray s 0 0 (fun _ => False)) (F0 m 6 ls []) := by
    intro fu
    induction fu with
    | zero =>
      intro ia x4 x5 ls e4 e5 ha1 hf1 hfu6 hl
      exact absurd hfu6 (Nat.not_lt_zero _)
    | succ fu ih6 =>
      intro ia x4 x5 ls e4 e5 ha1 hf1 hfu6 hl
      subst e4
      subst e5
      refine lv_iload hx hb dX8_pairOf_6 (lv_at hl 5 rfl) ?_
      refine lv_aload_n hx hb dX8_pairOf_8 rfl (lv_at hl 0 rfl) ?_
      refine va_get (D := (dC, dI)) (ci := 8) (v := .int (nI n)) (C := RX8) (T := TX8) (N := 10) hx hb hts i_X8 hown hK hP 0 rfl rfl 4 (by decide) k_0 (fun _ h9 => h9) rfl dX8_pairOf_9 ?_
      refine lv_icmp_ge (tgt := 95) hx hb dX8_pairOf_12 (by decide) (fun c_1 => ?_) (fun c_1 => ?_)
      · skip
        have c_1 : ia ≥ n := gk_geT (a := ia) (b := n) (by first | omega | exact Nat.lt_of_le_of_lt atN_le (by omega) | exact Nat.lt_of_le_of_lt szN_le (by omega) | exact Nat.lt_of_le_of_lt clM_le (by omega) | exact Nat.lt_of_le_of_lt rkN_le (by omega) | exact Nat.lt_of_le_of_lt (cnt_le _ _) (by omega)) (by first | omega | exact Nat.lt_of_le_of_lt atN_le (by omega) | exact Nat.lt_of_le_of_lt szN_le (by omega) | exact Nat.lt_of_le_of_lt clM_le (by omega) | exact Nat.lt_of_le_of_lt rkN_le (by omega) | exact Nat.lt_of_le_of_lt (cnt_le _ _) (by omega)) c_1
        refine lv_iload_n hx hb dX8_pairOf_95 rfl (lv_at hl 2 rfl) ?_
        refine lv_if_ge (tgt := 104) hx hb dX8_pairOf_96 (by decide) (fun c_2 => ?_) (fun c_2 => ?_)
        · skip
          refine lv_bipush (v := (-2)) hx hb dX8_pairOf_104 (by decide) ?_
          exact W.iret (v := (-2)) hx hb hr (fun t ht _ => ⟨_, rfl, by first | exact pOK_hit hn hf2 (by omega) (by omega) (by assumption) (by assumption) (by simp [*]) | exact pOK_end hf1 (by omega) (by first | (rw [if_pos (Int32.not_le.mp (by assumption))]; obtain rfl : ia = n := (by omega); rfl) | (rw [if_neg (Int32.not_lt.mpr (by assumption))])), ht⟩) (fun q h => by cases h) dX8_pairOf_106
        · skip
          refine lv_iload hx hb dX8_pairOf_99 (lv_at hl 4 rfl) ?_
          refine lv_goto (tgt := 106) hx hb dX8_pairOf_101 (by decide) ?_
          exact W.iret (v := nI (totc (qM F T P V o kd) n ia)) hx hb hr (fun t ht _ => ⟨_, rfl, by first | exact pOK_hit hn hf2 (by omega) (by omega) (by assumption) (by assumption) (by simp [*]) | exact pOK_end hf1 (by omega) (by first | (rw [if_pos (Int32.not_le.mp (by assumption))]; obtain rfl : ia = n := (by omega); rfl) | (rw [if_neg (Int32.not_lt.mpr (by assumption))])), ht⟩) (fun q h => by cases h) dX8_pairOf_106
      · skip
        have c_1 : ia < n := gk_geF (a := ia) (b := n) (by first | omega | exact Nat.lt_of_le_of_lt atN_le (by omega) | exact Nat.lt_of_le_of_lt szN_le (by omega) | exact Nat.lt_of_le_of_lt clM_le (by omega) | exact Nat.lt_of_le_of_lt rkN_le (by omega) | exact Nat.lt_of_le_of_lt (cnt_le _ _) (by omega)) (by first | omega | exact Nat.lt_of_le_of_lt atN_le (by omega) | exact Nat.lt_of_le_of_lt szN_le (by omega) | exact Nat.lt_of_le_of_lt clM_le (by omega) | exact Nat.lt_of_le_of_lt rkN_le (by omega) | exact Nat.lt_of_le_of_lt (cnt_le _ _) (by omega)) c_1
        refine lv_iload hx hb dX8_pairOf_15 (lv_at hl 5 rfl) ?_
        refine lv_iconst (v := 1) hx hb dX8_pairOf_17 (by decide) ?_
        refine lv_iadd hx hb dX8_pairOf_18 ?_
        refine gk_top (y := nI (ia + 1)) (gk_addl _ _ _ (by decide)) ?_
        refine lv_istore (lv' := [(6, .int (nI (ia + 1))), (0, .ref (a 0)), (1, .int kd), (2, .int i), (3, .int wh), (4, .int (nI (totc (qM F T P V o kd) n ia))), (5, .int (nI ia))]) hx hb dX8_pairOf_19 hl (by decide) rfl (fun ls hl => ?_)
        have L21 : ∀ (fu : Nat) (ib : Nat) (x4 x6 : Int32) (ls : Array Slot), x4 = nI (posc (qM F T P V o kd) n ia ib) → x6 = nI ib → ia < ib → ib ≤ n → NF2 (qM F T P V o kd) n i ia ib → n - ib < fu → lv_has ls 7 [(0, .ref (a 0)), (1, .int kd), (2, .int i), (3, .int wh), (4, .int x4), (5, .int (nI ia)), (6, .int x6)] → W p l e (headSpec wsX8_pairOf ({ frames := 2, cells := 0, slots := 0, locals := 45 } : Room)).room s m [.ref (a 0), .int kd, .int i, .int wh].toArray below meth c s.heap [] 0 0 (MQ below (vp_Si (fun r => pOK (qM F T P V o kd) o n i wh r)) [.ref (a 0), .int kd, .int i, .int wh].toArray s 0 0 (fun _ => False)) (F0 m 21 ls []) := by
          intro fu
          induction fu with
          | zero =>
            intro ib x4 x6 ls e4 e6 hb1 hb2 hf2 hfu21 hl
            exact absurd hfu21 (Nat.not_lt_zero _)
          | succ fu ih21 =>
            intro ib x4 x6 ls e4 e6 hb1 hb2 hf2 hfu21 hl
            subst e4
            subst e6
            refine lv_iload hx hb dX8_pairOf_21 (lv_at hl 6 rfl) ?_
            refine lv_aload_n hx hb dX8_pairOf_23 rfl (lv_at hl 0 rfl) ?_
            refine va_get (D := (dC, dI)) (ci := 8) (v := .int (nI n)) (C := RX8) (T := TX8) (N := 10) hx hb hts i_X8 hown hK hP 0 rfl rfl 4 (by decide) k_0 (fun _ h9 => h9) rfl dX8_pairOf_24 ?_
            refine lv_icmp_ge (tgt := 89) hx hb dX8_pairOf_27 (by decide) (fun c_3 => ?_) (fun c_3 => ?_)
            · skip
              have c_3 : ib ≥ n := gk_geT (a := ib) (b := n) (by first | omega | exact Nat.lt_of_le_of_lt atN_le (by omega) | exact Nat.lt_of_le_of_lt szN_le (by omega) | exact Nat.lt_of_le_of_lt clM_le (by omega) | exact Nat.lt_of_le_of_lt rkN_le (by omega) | exact Nat.lt_of_le_of_lt (cnt_le _ _) (by omega)) (by first | omega | exact Nat.lt_of_le_of_lt atN_le (by omega) | exact Nat.lt_of_le_of_lt szN_le (by omega) | exact Nat.lt_of_le_of_lt clM_le (by omega) | exact Nat.lt_of_le_of_lt rkN_le (by omega) | exact Nat.lt_of_le_of_lt (cnt_le _ _) (by omega)) c_3
              refine lv_iinc (v := nI (ia + 1)) (lv' := [(5, .int (nI (ia + 1))), (0, .ref (a 0)), (1, .int kd), (2, .int i), (3, .int wh), (4, .int (nI (posc (qM F T P V o kd) n ia ib))), (6, .int (nI ib))]) hx hb dX8_pairOf_89 hl (k := 5) rfl (gk_inc1 _) (by decide) rfl (fun ls hl => ?_)
              refine lv_goto (tgt := 6) hx hb dX8_pairOf_92 (by decide) ?_
              exact ih6 (ia + 1) _ _ ls (by first | rfl | (obtain rfl : ib = n := by omega); rfl) (by rfl) (by omega) (by first | exact NF2_0 | exact NF2_out hf2 (by omega)) (by omega) (lv_sub hl [1, 2, 3, 4, 5, 0] rfl)
            · skip
              have c_3 : ib < n := gk_geF (a := ib) (b := n) (by first | omega | exact Nat.lt_of_le_of_lt atN_le (by omega) | exact Nat.lt_of_le_of_lt szN_le (by omega) | exact Nat.lt_of_le_of_lt clM_le (by omega) | exact Nat.lt_of_le_of_lt rkN_le (by omega) | exact Nat.lt_of_le_of_lt (cnt_le _ _) (by omega)) (by first | omega | exact Nat.lt_of_le_of_lt atN_le (by omega) | exact Nat.lt_of_le_of_lt szN_le (by omega) | exact Nat.lt_of_le_of_lt clM_le (by omega) | exact Nat.lt_of_le_of_lt rkN_le (by omega) | exact Nat.lt_of_le_of_lt (cnt_le _ _) (by omega)) c_3
              refine lv_aload_n hx hb dX8_pairOf_30 rfl (lv_at hl 0 rfl) ?_
              refine lv_aload_n hx hb dX8_pairOf_31 rfl (lv_at hl 0 rfl) ?_
              refine va_get (D := (dC, dI)) (ci := 8) (v := .ref (a 6)) (C := RX8) (T := TX8) (N := 10) hx hb hts i_X8 hown hK hP 0 rfl rfl 6 (by decide) k_1 (fun _ h9 => h9) rfl dX8_pairOf_32 ?_
              refine lv_iload hx hb dX8_pairOf_35 (lv_at hl 5 rfl) ?_
              refine gk_ld hx hb hK hP 6 0 rfl rfl ia (by omega) (by omega) (v := nI (o ia)) (rfl) dX8_pairOf_37 ?_
              refine lv_aload_n hx hb dX8_pairOf_38 rfl (lv_at hl 0 rfl) ?_
              refine va_get (D := (dC, dI)) (ci := 8) (v := .ref (a 6)) (C := RX8) (T := TX8) (N := 10) hx hb hts i_X8 hown hK hP 0 rfl rfl 6 (by decide) k_1 (fun _ h9 => h9) rfl dX8_pairOf_39 ?_
              refine lv_iload hx hb dX8_pairOf_42 (lv_at hl 6 rfl) ?_
              refine gk_ld hx hb hK hP 6 0 rfl rfl ib (by omega) (by omega) (v := nI (o ib)) (rfl) dX8_pairOf_44 ?_
              refine lv_iload_n hx hb dX8_pairOf_45 rfl (lv_at hl 1 rfl) ?_
              refine vp_callSi (gk_run (va_runV (As := [.int (nI (o ia)), .int (nI (o ib)), .int kd]) (rest := []) ⟨hx, hb, hml, hown, hts⟩ (c_X8_isPair l dC dI cI a n F T P V Wt (fun j => nI (o j)) G L R hn (o ia) (o ib) (ho _) (ho _) kd) (cwV 3 hts gX8_pairOf_X8_isPair rfl rfl rfl (by decide +kernel) ⟨Nat.le_of_ble_eq_true rfl, Nat.le_of_ble_eq_true rfl⟩) ⟨gk_fb, va_recv hK hP (ci := 8) (q0 := 0) rfl rfl, fun U hU hW => ⟨rfl, by rw [hU]; exact hP, va_K.moved hW.alike hK⟩⟩ rfl rfl hl.1 rfl (lv_room (Nat.le_of_ble_eq_true rfl)) dX8_pairOf_46 ⟨Nat.zero_le _, Nat.zero_le _⟩)) (fun r_4 er_4 => ?_)
              subst er_4
              refine lv_if_eq (tgt := 83) hx hb dX8_pairOf_49 (by decide) (fun c_5 => ?_) (fun c_5 => ?_)
              · skip
                have c_5 : (prM F T P V kd (o ia) (o ib)) = false := b2i_0.mp c_5
                refine lv_iinc (v := nI (ib + 1)) (lv' := [(6, .int (nI (ib + 1))), (0, .ref (a 0)), (1, .int kd), (2, .int i), (3, .int wh), (4, .int (nI (posc (qM F T P V o kd) n ia ib))), (5, .int (nI ia))]) hx hb dX8_pairOf_83 hl (k := 6) rfl (gk_inc1 _) (by decide) rfl (fun ls hl => ?_)
                refine lv_goto (tgt := 21) hx hb dX8_pairOf_86 (by decide) ?_
                exact ih21 (ib + 1) _ _ ls (by first | exact congrArg nI posc_0.symm | exact congrArg nI (posc_s1 (by omega) (by assumption)).symm | exact congrArg nI (posc_s0 (by assumption)).symm) (by rfl) (by omega) (by omega) (by first | exact NF2_in hf1 | exact NF2_n hf2 (by assumption) | exact NF2_f hf2 (by assumption)) (by omega) (lv_sub hl [1, 2, 3, 4, 5, 6, 0] rfl)
              · skip
                have c_5 : (prM F T P V kd (o ia) (o ib)) = true := b2i_1.mp c_5
                refine lv_iload hx hb dX8_pairOf_52 (lv_at hl 4 rfl) ?_
                refine lv_iload_n hx hb dX8_pairOf_54 rfl (lv_at hl 2 rfl) ?_
                refine lv_icmp_ne (tgt := 80) hx hb dX8_pairOf_55 (by decide) (fun c_6 => ?_) (fun c_6 => ?_)
                · skip
                  refine lv_iinc (v := nI ((posc (qM F T P V o kd) n ia ib) + 1)) (lv' := [(4, .int (nI ((posc (qM F T P V o kd) n ia ib) + 1))), (0, .ref (a 0)), (1, .int kd), (2, .int i), (3, .int wh), (5, .int (nI ia)), (6, .int (nI ib))]) hx hb dX8_pairOf_80 hl (k := 4) rfl (gk_inc1 _) (by decide) rfl (fun ls hl => ?_)
                  refine lv_iinc (v := nI (ib + 1)) (lv' := [(6, .int (nI (ib + 1))), (4, .int (nI ((posc (qM F T P V o kd) n ia ib) + 1))), (0, .ref (a 0)), (1, .int kd), (2, .int i), (3, .int wh), (5, .int (nI ia))]) hx hb dX8_pairOf_83 hl (k := 6) rfl (gk_inc1 _) (by decide) rfl (fun ls hl => ?_)
                  refine lv_goto (tgt := 21) hx hb dX8_pairOf_86 (by decide) ?_
                  exact ih21 (ib + 1) _ _ ls (by first | exact congrArg nI posc_0.symm | exact congrArg nI (posc_s1 (by omega) (by assumption)).symm | exact congrArg nI (posc_s0 (by assumption)).symm) (by rfl) (by omega) (by omega) (by first | exact NF2_in hf1 | exact NF2_n hf2 (by assumption) | exact NF2_f hf2 (by assumption)) (by omega) (lv_sub hl [2, 3, 4, 5, 1, 6, 0] rfl)
                · skip
                  refine lv_iload_n hx hb dX8_pairOf_58 rfl (lv_at hl 3 rfl) ?_
                  refine lv_if_ne (tgt := 72) hx hb dX8_pairOf_59 (by decide) (fun c_7 => ?_) (fun c_7 => ?_)
                  · skip
                    refine lv_aload_n hx hb dX8_pairOf_72 rfl (lv_at hl 0 rfl) ?_
                    refine va_get (D := (dC, dI)) (ci := 8) (v := .ref (a 6)) (C := RX8) (T := TX8) (N := 10) hx hb hts i_X8 hown hK hP 0 rfl rfl 6 (by decide) k_1 (fun _ h9 => h9) rfl dX8_pairOf_73 ?_
                    refine lv_iload hx hb dX8_pairOf_76 (lv_at hl 6 rfl) ?_
                    refine gk_ld hx hb hK hP 6 0 rfl rfl ib (by omega) (by omega) (v := nI (o ib)) (rfl) dX8_pairOf_78 ?_
                    exact W.iret (v := nI (o ib)) hx hb hr (fun t ht _ => ⟨_, rfl, by first | exact pOK_hit hn hf2 (by omega) (by omega) (by assumption) (by assumption) (by simp [*]) | exact pOK_end hf1 (by omega) (by first | (rw [if_pos (Int32.not_le.mp (by assumption))]; obtain rfl : ia = n := (by omega); rfl) | (rw [if_neg (Int32.not_lt.mpr (by assumption))])), ht⟩) (fun q h => by cases h) dX8_pairOf_79
                  · skip
                    refine lv_aload_n hx hb dX8_pairOf_62 rfl (lv_at hl 0 rfl) ?_
                    refine va_get (D := (dC, dI)) (ci := 8) (v := .ref (a 6)) (C := RX8) (T := TX8) (N := 10) hx hb hts i_X8 hown hK hP 0 rfl rfl 6 (by decide) k_1 (fun _ h9 => h9) rfl dX8_pairOf_63 ?_
                    refine lv_iload hx hb dX8_pairOf_66 (lv_at hl 5 rfl) ?_
                    refine gk_ld hx hb hK hP 6 0 rfl rfl ia (by omega) (by omega) (v := nI (o ia)) (rfl) dX8_pairOf_68 ?_
                    refine lv_goto (tgt := 79) hx hb dX8_pairOf_69 (by decide) ?_
                    exact W.iret (v := nI (o ia)) hx hb hr (fun t ht _ => ⟨_, rfl, by first | exact pOK_hit hn hf2 (by omega) (by omega) (by assumption) (by assumption) (by simp [*]) | exact pOK_end hf1 (by omega) (by first | (rw [if_pos (Int32.not_le.mp (by assumption))]; obtain rfl : ia = n := (by omega); rfl) | (rw [if_neg (Int32.not_lt.mpr (by assumption))])), ht⟩) (fun q h => by cases h) dX8_pairOf_79
        exact L21 ((n) + 1) (ia + 1) _ _ ls (by first | exact congrArg nI posc_0.symm | exact congrArg nI (posc_s1 (by omega) (by assumption)).symm | exact congrArg nI (posc_s0 (by assumption)).symm) (by rfl) (by omega) (by omega) (by first | exact NF2_in hf1 | exact NF2_n hf2 (by assumption) | exact NF2_f hf2 (by assumption)) (by omega) (lv_sub hl [1, 2, 3, 4, 5, 6, 0] rfl)
  exact L6 ((n) + 1) 0 _ _ ls (by first | rfl | (obtain rfl : ib = n := by omega); rfl) (by rfl) (by omega) (by first | exact NF2_0 | exact NF2_out hf2 (by omega)) (by omega) (lv_sub hl [2, 3, 4, 5, 1, 0] rfl)

set_option maxHeartbeats 4000000 in
set_option maxRecDepth 100000 in
theorem c_X4_scan (l : Launch) (dC : Nat → ClassId) (dI : Nat → Nat → Nat) (cI : ClassId) (sz : Nat) (b : Nat → Nat) (n : Nat) (F T P V : Nat → Int32) (o kr : Nat → Nat) (hn : n ≤ 60) (ho : ∀ j, o j < 60) (p1 p2 : Int32) (kd i : Int32) : Met l yX4_scan wsX4_scan ({ frames := 2, cells := 0, slots := 0, locals := 45 } : Room) (va_Pc [.ref (b 12), .int kd, .int i] (fun U => U.heap.size = sz ∧ va_P (dC, dI) vwCl ((b 12, .inr (4, [.ref (b 1), .int p1, .int p2])) :: (sW cI b (nI n) F T P V (fun j => nI (o j)) (fun j => nI (kr j)))) U.heap ∧ va_K (dC, dI) vwCl [(cI, .int)] U ∧ va_D (fun _ => True) ((b 12, .inr (4, [.ref (b 1), .int p1, .int p2])) :: (sW cI b (nI n) F T P V (fun j => nI (o j)) (fun j => nI (kr j)))))) (va_Qi (fun (r : Int32) (u : Int32 × Int32) => r = nI (totc (qC F T P V o kd) n n) ∧ PF2 (qC F T P V o kd) o n i n 0 u.1 u.2) (fun u t => va_P (dC, dI) vwCl [(b 12, .inr (4, [.ref (b 1), .int u.1, .int u.2])), (b 1, .inr (6, [.int (nI n), .ref (b 2), .ref (b 3), .ref (b 4), .ref (b 5), .ref (b 6), .ref (b 7)])), (b 2, .inl (cI, 60, .inl F)), (b 3, .inl (cI, 60, .inl T)), (b 4, .inl (cI, 60, .inl P)), (b 5, .inl (cI, 60, .inl V)), (b 6, .inl (cI, 60, .inl (fun j => nI (o j)))), (b 7, .inl (cI, 60, .inl (fun j => nI (kr j))))] t.heap ∧ va_K (dC, dI) vwCl [(cI, .int)] t ∧ va_D (va_A ((b 12, .inr (4, [.ref (b 1), .int p1, .int p2])) :: (sW cI b (nI n) F T P V (fun j => nI (o j)) (fun j => nI (kr j)))) sz) [(b 12, .inr (4, [.ref (b 1), .int u.1, .int u.2])), (b 1, .inr (6, [.int (nI n), .ref (b 2), .ref (b 3), .ref (b 4), .ref (b 5), .ref (b 6), .ref (b 7)])), (b 2, .inl (cI, 60, .inl F)), (b 3, .inl (cI, 60, .inl T)), (b 4, .inl (cI, 60, .inl P)), (b 5, .inl (cI, 60, .inl V)), (b 6, .inl (cI, 60, .inl (fun j => nI (o j)))), (b 7, .inl (cI, 60, .inl (fun j => nI (kr j))))]) (va_A ((b 12, .inr (4, [.ref (b 1), .int p1, .int p2])) :: (sW cI b (nI n) F T P V (fun j => nI (o j)) (fun j => nI (kr j)))) sz)) 0 0 (va_A ((b 12, .inr (4, [.ref (b 1), .int p1, .int p2])) :: (sW cI b (nI n) F T P V (fun j => nI (o j)) (fun j => nI (kr j)))) sz) := by
  refine Met.ofW (cc := cX4_scan) (maxL := 6) (ret := (some .int)) (by decide) rfl ?_
  intro p e s m args below meth c s₁ B hml hv
  obtain ⟨rfl, hsz, hP, hK, hD0⟩ := hv
  have hx := B.exec
  have hb := B.bytes
  have hr := B.returns
  have hts := atoms_spec (ws := wsX4_scan) B.pre
  have hown : s.vm.findClass RX4 = some m.cls := findClass_of_methodNamed B.named
  have hlocks := B.notSynchronized
  subst hsz
  have hD := hD0.self (sz := s.heap.size)
  generalize hAe : va_A ((b 12, .inr (4, [.ref (b 1), .int p1, .int p2])) :: (sW cI b (nI n) F T P V (fun j => nI (o j)) (fun j => nI (kr j)))) s.heap.size = A at hD ⊢
  have hA : ∀ q : Nat, s.heap.size ≤ q → A q := fun q h => by rw [← hAe]; exact Or.inr h
  have hS : va_S A s.heap s.heap [] := va_S.rf
  have i_X4 : ∀ w ∈ u_ws RX4 TX4 3, w ∈ wsX4_scan := by decide +kernel
  have i_X6 : ∀ w ∈ u_ws RX6 TX6 7, w ∈ wsX4_scan := by decide +kernel
  have k_0 := hts (.fieldLink RX4 9 "VoiceRows$PairRows" "score" "LVoiceRows$Score;") (by decide +kernel)
  have k_1 := hts (.fieldLink RX4 15 "VoiceRows$Score" "count" "I") (by decide +kernel)
  have k_2 := hts (.fieldLink RX4 21 "VoiceRows$Score" "order" "[I") (by decide +kernel)
  have k_3 := hts (.fieldLink RX4 29 "VoiceRows$PairRows" "one" "I") (by decide +kernel)
  have k_4 := hts (.fieldLink RX4 32 "VoiceRows$PairRows" "other" "I") (by decide +kernel)
  have hl := lv_entry ([.ref (b 12), .int kd, .int i]) (n := 6) (Nat.le_of_ble_eq_true rfl)
  rw [lg_entry_eq]
  generalize (lg_sl ([.ref (b 12), .int kd, .int i]) ++ List.replicate (6 - (lg_sl ([.ref (b 12), .int kd, .int i])).length) Slot.unset).toArray = ls at hl ⊢
  have hl : lv_has ls 6 [(0, .ref (b 12)), (1, .int kd), (2, .int i)] := hl
  refine lv_iconst (v := 0) hx hb dX4_scan_0 (by decide) ?_
  refine lv_istore_n (lv' := [(3, .int 0), (0, .ref (b 12)), (1, .int kd), (2, .int i)]) hx hb dX4_scan_1 rfl hl (by decide) rfl (fun ls hl => ?_)
  refine lv_iconst (v := 0) hx hb dX4_scan_2 (by decide) ?_
  refine lv_istore (lv' := [(4, .int 0), (3, .int 0), (0, .ref (b 12)), (1, .int kd), (2, .int i)]) hx hb dX4_scan_3 hl (by decide) rfl (fun ls hl => ?_)
  have L5 : ∀ (fu : Nat) (ia : Nat) (x3 x4 : Int32) (y1 y2 : Int32) (H : Heap) (locs : List Loc) (ls : Array Slot), x3 = nI (totc (qC F T P V o kd) n ia) → x4 = nI ia → ia ≤ n → PF2 (qC F T P V o kd) o n i ia 0 y1 y2 → n - ia < fu → va_P (dC, dI) vwCl [(b 12, .inr (4, [.ref (b 1), .int y1, .int y2])), (b 1, .inr (6, [.int (nI n), .ref (b 2), .ref (b 3), .ref (b 4), .ref (b 5), .ref (b 6), .ref (b 7)])), (b 2, .inl (cI, 60, .inl F)), (b 3, .inl (cI, 60, .inl T)), (b 4, .inl (cI, 60, .inl P)), (b 5, .inl (cI, 60, .inl V)), (b 6, .inl (cI, 60, .inl (fun j => nI (o j)))), (b 7, .inl (cI, 60, .inl (fun j => nI (kr j))))] H → va_D A [(b 12, .inr (4, [.ref (b 1), .int y1, .int y2])), (b 1, .inr (6, [.int (nI n), .ref (b 2), .ref (b 3), .ref (b 4), .ref (b 5), .ref (b 6), .ref (b 7)])), (b 2, .inl (cI, 60, .inl F)), (b 3, .inl (cI, 60, .inl T)), (b 4, .inl (cI, 60, .inl P)), (b 5, .inl (cI, 60, .inl V)), (b 6, .inl (cI, 60, .inl (fun j => nI (o j)))), (b 7, .inl (cI, 60, .inl (fun j => nI (kr j))))] → va_S A s.heap H locs → lv_has ls 6 [(0, .ref (b 12)), (1, .int kd), (2, .int i), (3, .int x3), (4, .int x4)] → W p l e (headSpec wsX4_scan ({ frames := 2, cells := 0, slots := 0, locals := 45 } : Room)).room s m [.ref (b 12), .int kd, .int i].toArray below meth c H locs 0 0 (MQ below (va_Qi (fun (r : Int32) (u : Int32 × Int32) => r = nI (totc (qC F T P V o kd) n n) ∧ PF2 (qC F T P V o kd) o n i n 0 u.1 u.2) (fun u t => va_P (dC, dI) vwCl [(b 12, .inr (4, [.ref (b 1), .int u.1, .int u.2])), (b 1, .inr (6, [.int (nI n), .ref (b 2), .ref (b 3), .ref (b 4), .ref (b 5), .ref (b 6), .ref (b 7)])), (b 2, .inl (cI, 60, .inl F)), (b 3, .inl (cI, 60, .inl T)), (b 4, .inl (cI, 60, .inl P)), (b 5, .inl (cI, 60, .inl V)), (b 6, .inl (cI, 60, .inl (fun j => nI (o j)))), (b 7, .inl (cI, 60, .inl (fun j => nI (kr j))))] t.heap ∧ va_K (dC, dI) vwCl [(cI, .int)] t ∧ va_D A [(b 12, .inr (4, [.ref (b 1), .int u.1, .int u.2])), (b 1, .inr (6, [.int (nI n), .ref (b 2), .ref (b 3), .ref (b 4), .ref (b 5), .ref (b 6), .ref (b 7)])), (b 2, .inl (cI, 60, .inl F)), (b 3, .inl (cI, 60, .inl T)), (b 4, .inl (cI, 60, .inl P)), (b 5, .inl (cI, 60, .inl V)), (b 6, .inl (cI, 60, .inl (fun j => nI (o j)))), (b 7, .inl (cI, 60, .inl (fun j => nI (kr j))))]) A) [.ref (b 12), .int kd, .int i].toArray s 0 0 A) (F0 m 5 ls []) := by
    intro fu
    induction fu with
    | zero =>
      intro ia x3 x4 y1 y2 H locs ls e3 e4 ha1 hf1 hfu5 hP hD hS hl
      exact absurd hfu5 (Nat.not_lt_zero _)
    | succ fu ih5 =>
      intro ia x3 x4 y1 y2 H locs ls e3 e4 ha1 hf1 hfu5 hP hD hS hl
      subst e3
      subst e4
      refine lv_iload hx hb dX4_scan_5 (lv_at hl 4 rfl) ?_
      refine lv_aload_n hx hb dX4_scan_7 rfl (lv_at hl 0 rfl) ?_
      refine va_get (D := (dC, dI)) (ci := 4) (v := .ref (b 1)) (C := RX4) (T := TX4) (N := 3) hx hb hts i_X4 hown hK hP 0 rfl rfl 0 (by decide) k_0 (fun _ h9 => h9) rfl dX4_scan_8 ?_
      refine va_get (D := (dC, dI)) (ci := 6) (v := .int (nI n)) (C := RX6) (T := TX6) (N := 7) hx hb hts i_X6 hown hK hP 1 rfl rfl 0 (by decide) k_1 (fun _ h9 => h9) rfl dX4_scan_11 ?_
      refine lv_icmp_ge (tgt := 111) hx hb dX4_scan_14 (by decide) (fun c_1 => ?_) (fun c_1 => ?_)
      · skip
        have c_1 : ia ≥ n := gk_geT (a := ia) (b := n) (by first | omega | exact Nat.lt_of_le_of_lt atN_le (by omega) | exact Nat.lt_of_le_of_lt szN_le (by omega) | exact Nat.lt_of_le_of_lt clM_le (by omega) | exact Nat.lt_of_le_of_lt rkN_le (by omega) | exact Nat.lt_of_le_of_lt (cnt_le _ _) (by omega)) (by first | omega | exact Nat.lt_of_le_of_lt atN_le (by omega) | exact Nat.lt_of_le_of_lt szN_le (by omega) | exact Nat.lt_of_le_of_lt clM_le (by omega) | exact Nat.lt_of_le_of_lt rkN_le (by omega) | exact Nat.lt_of_le_of_lt (cnt_le _ _) (by omega)) c_1
        refine lv_iload_n hx hb dX4_scan_111 rfl (lv_at hl 3 rfl) ?_
        exact W.iret (v := nI (totc (qC F T P V o kd) n ia)) hx hb hr (fun t ht hW => ⟨⟨_, (y1, y2), rfl, (by (obtain rfl : ia = n := by omega); exact ⟨rfl, hf1⟩), by rw [ht]; exact hP, va_K.moved hW.alike hK, hD⟩, hS.F ht⟩) hS.2.2 dX4_scan_112
      · skip
        have c_1 : ia < n := gk_geF (a := ia) (b := n) (by first | omega | exact Nat.lt_of_le_of_lt atN_le (by omega) | exact Nat.lt_of_le_of_lt szN_le (by omega) | exact Nat.lt_of_le_of_lt clM_le (by omega) | exact Nat.lt_of_le_of_lt rkN_le (by omega) | exact Nat.lt_of_le_of_lt (cnt_le _ _) (by omega)) (by first | omega | exact Nat.lt_of_le_of_lt atN_le (by omega) | exact Nat.lt_of_le_of_lt szN_le (by omega) | exact Nat.lt_of_le_of_lt clM_le (by omega) | exact Nat.lt_of_le_of_lt rkN_le (by omega) | exact Nat.lt_of_le_of_lt (cnt_le _ _) (by omega)) c_1
        refine lv_iload hx hb dX4_scan_17 (lv_at hl 4 rfl) ?_
        refine lv_iconst (v := 1) hx hb dX4_scan_19 (by decide) ?_
        refine lv_iadd hx hb dX4_scan_20 ?_
        refine gk_top (y := nI (ia + 1)) (gk_addl _ _ _ (by decide)) ?_
        refine lv_istore (lv' := [(5, .int (nI (ia + 1))), (0, .ref (b 12)), (1, .int kd), (2, .int i), (3, .int (nI (totc (qC F T P V o kd) n ia))), (4, .int (nI ia))]) hx hb dX4_scan_21 hl (by decide) rfl (fun ls hl => ?_)
        have L23 : ∀ (fu : Nat) (ib : Nat) (x3 x5 : Int32) (z1 z2 : Int32) (H : Heap) (locs : List Loc) (ls : Array Slot), x3 = nI (posc (qC F T P V o kd) n ia ib) → x5 = nI ib → ia < ib → ib ≤ n → PF2 (qC F T P V o kd) o n i ia ib z1 z2 → n - ib < fu → va_P (dC, dI) vwCl [(b 12, .inr (4, [.ref (b 1), .int z1, .int z2])), (b 1, .inr (6, [.int (nI n), .ref (b 2), .ref (b 3), .ref (b 4), .ref (b 5), .ref (b 6), .ref (b 7)])), (b 2, .inl (cI, 60, .inl F)), (b 3, .inl (cI, 60, .inl T)), (b 4, .inl (cI, 60, .inl P)), (b 5, .inl (cI, 60, .inl V)), (b 6, .inl (cI, 60, .inl (fun j => nI (o j)))), (b 7, .inl (cI, 60, .inl (fun j => nI (kr j))))] H → va_D A [(b 12, .inr (4, [.ref (b 1), .int z1, .int z2])), (b 1, .inr (6, [.int (nI n), .ref (b 2), .ref (b 3), .ref (b 4), .ref (b 5), .ref (b 6), .ref (b 7)])), (b 2, .inl (cI, 60, .inl F)), (b 3, .inl (cI, 60, .inl T)), (b 4, .inl (cI, 60, .inl P)), (b 5, .inl (cI, 60, .inl V)), (b 6, .inl (cI, 60, .inl (fun j => nI (o j)))), (b 7, .inl (cI, 60, .inl (fun j => nI (kr j))))] → va_S A s.heap H locs → lv_has ls 6 [(0, .ref (b 12)), (1, .int kd), (2, .int i), (3, .int x3), (4, .int (nI ia)), (5, .int x5)] → W p l e (headSpec wsX4_scan ({ frames := 2, cells := 0, slots := 0, locals := 45 } : Room)).room s m [.ref (b 12), .int kd, .int i].toArray below meth c H locs 0 0 (MQ below (va_Qi (fun (r : Int32) (u : Int32 × Int32) => r = nI (totc (qC F T P V o kd) n n) ∧ PF2 (qC F T P V o kd) o n i n 0 u.1 u.2) (fun u t => va_P (dC, dI) vwCl [(b 12, .inr (4, [.ref (b 1), .int u.1, .int u.2])), (b 1, .inr (6, [.int (nI n), .ref (b 2), .ref (b 3), .ref (b 4), .ref (b 5), .ref (b 6), .ref (b 7)])), (b 2, .inl (cI, 60, .inl F)), (b 3, .inl (cI, 60, .inl T)), (b 4, .inl (cI, 60, .inl P)), (b 5, .inl (cI, 60, .inl V)), (b 6, .inl (cI, 60, .inl (fun j => nI (o j)))), (b 7, .inl (cI, 60, .inl (fun j => nI (kr j))))] t.heap ∧ va_K (dC, dI) vwCl [(cI, .int)] t ∧ va_D A [(b 12, .inr (4, [.ref (b 1), .int u.1, .int u.2])), (b 1, .inr (6, [.int (nI n), .ref (b 2), .ref (b 3), .ref (b 4), .ref (b 5), .ref (b 6), .ref (b 7)])), (b 2, .inl (cI, 60, .inl F)), (b 3, .inl (cI, 60, .inl T)), (b 4, .inl (cI, 60, .inl P)), (b 5, .inl (cI, 60, .inl V)), (b 6, .inl (cI, 60, .inl (fun j => nI (o j)))), (b 7, .inl (cI, 60, .inl (fun j => nI (kr j))))]) A) [.ref (b 12), .int kd, .int i].toArray s 0 0 A) (F0 m 23 ls []) := by
          intro fu
          induction fu with
          | zero =>
            intro ib x3 x5 z1 z2 H locs ls e3 e5 hb1 hb2 hf2 hfu23 hP hD hS hl
            exact absurd hfu23 (Nat.not_lt_zero _)
          | succ fu ih23 =>
            intro ib x3 x5 z1 z2 H locs ls e3 e5 hb1 hb2 hf2 hfu23 hP hD hS hl
            subst e3
            subst e5
            refine lv_iload hx hb dX4_scan_23 (lv_at hl 5 rfl) ?_
            refine lv_aload_n hx hb dX4_scan_25 rfl (lv_at hl 0 rfl) ?_
            refine va_get (D := (dC, dI)) (ci := 4) (v := .ref (b 1)) (C := RX4) (T := TX4) (N := 3) hx hb hts i_X4 hown hK hP 0 rfl rfl 0 (by decide) k_0 (fun _ h9 => h9) rfl dX4_scan_26 ?_
            refine va_get (D := (dC, dI)) (ci := 6) (v := .int (nI n)) (C := RX6) (T := TX6) (N := 7) hx hb hts i_X6 hown hK hP 1 rfl rfl 0 (by decide) k_1 (fun _ h9 => h9) rfl dX4_scan_29 ?_
            refine lv_icmp_ge (tgt := 105) hx hb dX4_scan_32 (by decide) (fun c_2 => ?_) (fun c_2 => ?_)
            · skip
              have c_2 : ib ≥ n := gk_geT (a := ib) (b := n) (by first | omega | exact Nat.lt_of_le_of_lt atN_le (by omega) | exact Nat.lt_of_le_of_lt szN_le (by omega) | exact Nat.lt_of_le_of_lt clM_le (by omega) | exact Nat.lt_of_le_of_lt rkN_le (by omega) | exact Nat.lt_of_le_of_lt (cnt_le _ _) (by omega)) (by first | omega | exact Nat.lt_of_le_of_lt atN_le (by omega) | exact Nat.lt_of_le_of_lt szN_le (by omega) | exact Nat.lt_of_le_of_lt clM_le (by omega) | exact Nat.lt_of_le_of_lt rkN_le (by omega) | exact Nat.lt_of_le_of_lt (cnt_le _ _) (by omega)) c_2
              refine lv_iinc (v := nI (ia + 1)) (lv' := [(4, .int (nI (ia + 1))), (0, .ref (b 12)), (1, .int kd), (2, .int i), (3, .int (nI (posc (qC F T P V o kd) n ia ib))), (5, .int (nI ib))]) hx hb dX4_scan_105 hl (k := 4) rfl (gk_inc1 _) (by decide) rfl (fun ls hl => ?_)
              refine lv_goto (tgt := 5) hx hb dX4_scan_108 (by decide) ?_
              exact ih5 (ia + 1) _ _ _ _ _ _ ls (by first | rfl | (obtain rfl : ib = n := by omega); rfl) (by rfl) (by omega) (by first | exact PF2_0 | exact PF2_out hf2 (by omega)) (by omega) hP hD hS (lv_sub hl [1, 2, 3, 4, 0] rfl)
            · skip
              have c_2 : ib < n := gk_geF (a := ib) (b := n) (by first | omega | exact Nat.lt_of_le_of_lt atN_le (by omega) | exact Nat.lt_of_le_of_lt szN_le (by omega) | exact Nat.lt_of_le_of_lt clM_le (by omega) | exact Nat.lt_of_le_of_lt rkN_le (by omega) | exact Nat.lt_of_le_of_lt (cnt_le _ _) (by omega)) (by first | omega | exact Nat.lt_of_le_of_lt atN_le (by omega) | exact Nat.lt_of_le_of_lt szN_le (by omega) | exact Nat.lt_of_le_of_lt clM_le (by omega) | exact Nat.lt_of_le_of_lt rkN_le (by omega) | exact Nat.lt_of_le_of_lt (cnt_le _ _) (by omega)) c_2
              refine lv_aload_n hx hb dX4_scan_35 rfl (lv_at hl 0 rfl) ?_
              refine lv_iload_n hx hb dX4_scan_36 rfl (lv_at hl 1 rfl) ?_
              refine lv_aload_n hx hb dX4_scan_37 rfl (lv_at hl 0 rfl) ?_
              refine va_get (D := (dC, dI)) (ci := 4) (v := .ref (b 1)) (C := RX4) (T := TX4) (N := 3) hx hb hts i_X4 hown hK hP 0 rfl rfl 0 (by decide) k_0 (fun _ h9 => h9) rfl dX4_scan_38 ?_
              refine va_get (D := (dC, dI)) (ci := 6) (v := .ref (b 6)) (C := RX6) (T := TX6) (N := 7) hx hb hts i_X6 hown hK hP 1 rfl rfl 5 (by decide) k_2 (fun _ h9 => h9) rfl dX4_scan_41 ?_
              refine lv_iload hx hb dX4_scan_44 (lv_at hl 4 rfl) ?_
              refine gk_ld hx hb hK hP 6 0 rfl rfl ia (by omega) (by omega) (v := nI (o ia)) (rfl) dX4_scan_46 ?_
              refine lv_aload_n hx hb dX4_scan_47 rfl (lv_at hl 0 rfl) ?_
              refine va_get (D := (dC, dI)) (ci := 4) (v := .ref (b 1)) (C := RX4) (T := TX4) (N := 3) hx hb hts i_X4 hown hK hP 0 rfl rfl 0 (by decide) k_0 (fun _ h9 => h9) rfl dX4_scan_48 ?_
              refine va_get (D := (dC, dI)) (ci := 6) (v := .ref (b 6)) (C := RX6) (T := TX6) (N := 7) hx hb hts i_X6 hown hK hP 1 rfl rfl 5 (by decide) k_2 (fun _ h9 => h9) rfl dX4_scan_51 ?_
              refine lv_iload hx hb dX4_scan_54 (lv_at hl 5 rfl) ?_
              refine gk_ld hx hb hK hP 6 0 rfl rfl ib (by omega) (by omega) (v := nI (o ib)) (rfl) dX4_scan_56 ?_
              refine vp_callSi (gk_run (va_runV (As := [.int kd, .int (nI (o ia)), .int (nI (o ib))]) (rest := []) ⟨hx, hb, hml, hown, hts⟩ (c_X4_isPair l dC dI cI b n F T P V o kr hn ho z1 z2 kd (o ia) (o ib) (ho _) (ho _)) (cwV 3 hts gX4_scan_X4_isPair rfl rfl rfl (by decide +kernel) ⟨Nat.le_of_ble_eq_true rfl, Nat.le_of_ble_eq_true rfl⟩) ⟨gk_fb, va_recv hK hP (ci := 4) (q0 := 0) rfl rfl, fun U hU hW => ⟨rfl, by rw [hU]; exact hP, va_K.moved hW.alike hK⟩⟩ rfl rfl hl.1 rfl (lv_room (Nat.le_of_ble_eq_true rfl)) dX4_scan_57 ⟨Nat.zero_le _, Nat.zero_le _⟩)) (fun r_3 er_3 => ?_)
              subst er_3
              refine lv_if_eq (tgt := 99) hx hb dX4_scan_60 (by decide) (fun c_4 => ?_) (fun c_4 => ?_)
              · skip
                have c_4 : (prC F T P V kd (o ia) (o ib)) = false := b2i_0.mp c_4
                refine lv_iinc (v := nI (ib + 1)) (lv' := [(5, .int (nI (ib + 1))), (0, .ref (b 12)), (1, .int kd), (2, .int i), (3, .int (nI (posc (qC F T P V o kd) n ia ib))), (4, .int (nI ia))]) hx hb dX4_scan_99 hl (k := 5) rfl (gk_inc1 _) (by decide) rfl (fun ls hl => ?_)
                refine lv_goto (tgt := 23) hx hb dX4_scan_102 (by decide) ?_
                exact ih23 (ib + 1) _ _ _ _ _ _ ls (by first | exact congrArg nI posc_0.symm | exact congrArg nI (posc_s1 (by omega) (by assumption)).symm | exact congrArg nI (posc_s0 (by assumption)).symm) (by rfl) (by omega) (by omega) (by first | exact PF2_in hf1 | exact PF2_y hn (by omega) (by omega) (by assumption) | exact PF2_n hf2 (by assumption) | exact PF2_f hf2 (by assumption)) (by omega) hP hD hS (lv_sub hl [1, 2, 3, 4, 5, 0] rfl)
              · skip
                have c_4 : (prC F T P V kd (o ia) (o ib)) = true := b2i_1.mp c_4
                refine lv_iload_n hx hb dX4_scan_63 rfl (lv_at hl 3 rfl) ?_
                refine lv_iload_n hx hb dX4_scan_64 rfl (lv_at hl 2 rfl) ?_
                refine lv_icmp_ne (tgt := 96) hx hb dX4_scan_65 (by decide) (fun c_5 => ?_) (fun c_5 => ?_)
                · skip
                  refine lv_iinc (v := nI ((posc (qC F T P V o kd) n ia ib) + 1)) (lv' := [(3, .int (nI ((posc (qC F T P V o kd) n ia ib) + 1))), (0, .ref (b 12)), (1, .int kd), (2, .int i), (4, .int (nI ia)), (5, .int (nI ib))]) hx hb dX4_scan_96 hl (k := 3) rfl (gk_inc1 _) (by decide) rfl (fun ls hl => ?_)
                  refine lv_iinc (v := nI (ib + 1)) (lv' := [(5, .int (nI (ib + 1))), (3, .int (nI ((posc (qC F T P V o kd) n ia ib) + 1))), (0, .ref (b 12)), (1, .int kd), (2, .int i), (4, .int (nI ia))]) hx hb dX4_scan_99 hl (k := 5) rfl (gk_inc1 _) (by decide) rfl (fun ls hl => ?_)
                  refine lv_goto (tgt := 23) hx hb dX4_scan_102 (by decide) ?_
                  exact ih23 (ib + 1) _ _ _ _ _ _ ls (by first | exact congrArg nI posc_0.symm | exact congrArg nI (posc_s1 (by omega) (by assumption)).symm | exact congrArg nI (posc_s0 (by assumption)).symm) (by rfl) (by omega) (by omega) (by first | exact PF2_in hf1 | exact PF2_y hn (by omega) (by omega) (by assumption) | exact PF2_n hf2 (by assumption) | exact PF2_f hf2 (by assumption)) (by omega) hP hD hS (lv_sub hl [2, 3, 4, 1, 5, 0] rfl)
                · skip
                  refine lv_aload_n hx hb dX4_scan_68 rfl (lv_at hl 0 rfl) ?_
                  refine lv_aload_n hx hb dX4_scan_69 rfl (lv_at hl 0 rfl) ?_
                  refine va_get (D := (dC, dI)) (ci := 4) (v := .ref (b 1)) (C := RX4) (T := TX4) (N := 3) hx hb hts i_X4 hown hK hP 0 rfl rfl 0 (by decide) k_0 (fun _ h9 => h9) rfl dX4_scan_70 ?_
                  refine va_get (D := (dC, dI)) (ci := 6) (v := .ref (b 6)) (C := RX6) (T := TX6) (N := 7) hx hb hts i_X6 hown hK hP 1 rfl rfl 5 (by decide) k_2 (fun _ h9 => h9) rfl dX4_scan_73 ?_
                  refine lv_iload hx hb dX4_scan_76 (lv_at hl 4 rfl) ?_
                  refine gk_ld hx hb hK hP 6 0 rfl rfl ia (by omega) (by omega) (v := nI (o ia)) (rfl) dX4_scan_78 ?_
                  refine va_put (D := (dC, dI)) (ci := 4) (v := .int (nI (o ia))) (ty := .int) (C := RX4) (T := TX4) (N := 3) hx hb hts i_X4 tyX4 tyX4_ok nmX4 hown hK hP hD hS 0 rfl rfl 1 (by decide) k_3 (fun _ h9 => h9) rfl (by decide +kernel) rfl rfl (Nat.le_of_ble_eq_true rfl) dX4_scan_79 (fun H locs hP hD hS => ?_)
                  have hP : va_P (dC, dI) vwCl [(b 12, .inr (4, [.ref (b 1), .int (nI (o ia)), .int z2])), (b 1, .inr (6, [.int (nI n), .ref (b 2), .ref (b 3), .ref (b 4), .ref (b 5), .ref (b 6), .ref (b 7)])), (b 2, .inl (cI, 60, .inl F)), (b 3, .inl (cI, 60, .inl T)), (b 4, .inl (cI, 60, .inl P)), (b 5, .inl (cI, 60, .inl V)), (b 6, .inl (cI, 60, .inl (fun j => nI (o j)))), (b 7, .inl (cI, 60, .inl (fun j => nI (kr j))))] H := hP
                  have hD : va_D A [(b 12, .inr (4, [.ref (b 1), .int (nI (o ia)), .int z2])), (b 1, .inr (6, [.int (nI n), .ref (b 2), .ref (b 3), .ref (b 4), .ref (b 5), .ref (b 6), .ref (b 7)])), (b 2, .inl (cI, 60, .inl F)), (b 3, .inl (cI, 60, .inl T)), (b 4, .inl (cI, 60, .inl P)), (b 5, .inl (cI, 60, .inl V)), (b 6, .inl (cI, 60, .inl (fun j => nI (o j)))), (b 7, .inl (cI, 60, .inl (fun j => nI (kr j))))] := hD
                  refine lv_aload_n hx hb dX4_scan_82 rfl (lv_at hl 0 rfl) ?_
                  refine lv_aload_n hx hb dX4_scan_83 rfl (lv_at hl 0 rfl) ?_
                  refine va_get (D := (dC, dI)) (ci := 4) (v := .ref (b 1)) (C := RX4) (T := TX4) (N := 3) hx hb hts i_X4 hown hK hP 0 rfl rfl 0 (by decide) k_0 (fun _ h9 => h9) rfl dX4_scan_84 ?_
                  refine va_get (D := (dC, dI)) (ci := 6) (v := .ref (b 6)) (C := RX6) (T := TX6) (N := 7) hx hb hts i_X6 hown hK hP 1 rfl rfl 5 (by decide) k_2 (fun _ h9 => h9) rfl dX4_scan_87 ?_
                  refine lv_iload hx hb dX4_scan_90 (lv_at hl 5 rfl) ?_
                  refine gk_ld hx hb hK hP 6 0 rfl rfl ib (by omega) (by omega) (v := nI (o ib)) (rfl) dX4_scan_92 ?_
                  refine va_put (D := (dC, dI)) (ci := 4) (v := .int (nI (o ib))) (ty := .int) (C := RX4) (T := TX4) (N := 3) hx hb hts i_X4 tyX4 tyX4_ok nmX4 hown hK hP hD hS 0 rfl rfl 2 (by decide) k_4 (fun _ h9 => h9) rfl (by decide +kernel) rfl rfl (Nat.le_of_ble_eq_true rfl) dX4_scan_93 (fun H locs hP hD hS => ?_)
                  have hP : va_P (dC, dI) vwCl [(b 12, .inr (4, [.ref (b 1), .int (nI (o ia)), .int (nI (o ib))])), (b 1, .inr (6, [.int (nI n), .ref (b 2), .ref (b 3), .ref (b 4), .ref (b 5), .ref (b 6), .ref (b 7)])), (b 2, .inl (cI, 60, .inl F)), (b 3, .inl (cI, 60, .inl T)), (b 4, .inl (cI, 60, .inl P)), (b 5, .inl (cI, 60, .inl V)), (b 6, .inl (cI, 60, .inl (fun j => nI (o j)))), (b 7, .inl (cI, 60, .inl (fun j => nI (kr j))))] H := hP
                  have hD : va_D A [(b 12, .inr (4, [.ref (b 1), .int (nI (o ia)), .int (nI (o ib))])), (b 1, .inr (6, [.int (nI n), .ref (b 2), .ref (b 3), .ref (b 4), .ref (b 5), .ref (b 6), .ref (b 7)])), (b 2, .inl (cI, 60, .inl F)), (b 3, .inl (cI, 60, .inl T)), (b 4, .inl (cI, 60, .inl P)), (b 5, .inl (cI, 60, .inl V)), (b 6, .inl (cI, 60, .inl (fun j => nI (o j)))), (b 7, .inl (cI, 60, .inl (fun j => nI (kr j))))] := hD
                  refine lv_iinc (v := nI ((posc (qC F T P V o kd) n ia ib) + 1)) (lv' := [(3, .int (nI ((posc (qC F T P V o kd) n ia ib) + 1))), (0, .ref (b 12)), (1, .int kd), (2, .int i), (4, .int (nI ia)), (5, .int (nI ib))]) hx hb dX4_scan_96 hl (k := 3) rfl (gk_inc1 _) (by decide) rfl (fun ls hl => ?_)
                  refine lv_iinc (v := nI (ib + 1)) (lv' := [(5, .int (nI (ib + 1))), (3, .int (nI ((posc (qC F T P V o kd) n ia ib) + 1))), (0, .ref (b 12)), (1, .int kd), (2, .int i), (4, .int (nI ia))]) hx hb dX4_scan_99 hl (k := 5) rfl (gk_inc1 _) (by decide) rfl (fun ls hl => ?_)
                  refine lv_goto (tgt := 23) hx hb dX4_scan_102 (by decide) ?_
                  exact ih23 (ib + 1) _ _ _ _ _ _ ls (by first | exact congrArg nI posc_0.symm | exact congrArg nI (posc_s1 (by omega) (by assumption)).symm | exact congrArg nI (posc_s0 (by assumption)).symm) (by rfl) (by omega) (by omega) (by first | exact PF2_in hf1 | exact PF2_y hn (by omega) (by omega) (by assumption) | exact PF2_n hf2 (by assumption) | exact PF2_f hf2 (by assumption)) (by omega) hP hD hS (lv_sub hl [2, 3, 4, 1, 5, 0] rfl)
        exact L23 ((n) + 1) (ia + 1) _ _ _ _ _ _ ls (by first | exact congrArg nI posc_0.symm | exact congrArg nI (posc_s1 (by omega) (by assumption)).symm | exact congrArg nI (posc_s0 (by assumption)).symm) (by rfl) (by omega) (by omega) (by first | exact PF2_in hf1 | exact PF2_y hn (by omega) (by omega) (by assumption) | exact PF2_n hf2 (by assumption) | exact PF2_f hf2 (by assumption)) (by omega) hP hD hS (lv_sub hl [1, 2, 3, 4, 5, 0] rfl)
  exact L5 ((n) + 1) 0 _ _ _ _ _ _ ls (by first | rfl | (obtain rfl : ib = n := by omega); rfl) (by rfl) (by omega) (by first | exact PF2_0 | exact PF2_out hf2 (by omega)) (by omega) hP hD hS (lv_sub hl [2, 3, 4, 1, 0] rfl)
