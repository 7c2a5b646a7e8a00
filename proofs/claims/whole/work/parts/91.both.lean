/-! the two objects side by side, new -/
def wj (w1 w2 : PW) : PW := (fun j g => if j < 90 then w1.1 j g else w2.1 j g, fun j g => if j < 90 then w1.2 j g else w2.2 j g)
def adj (a1 a2 : AD) : AD := fun o => if o.2 < 90 then a1 o else a2 o
theorem wj_lo {w1 w2 : PW} {g j : Nat} (h : j < 90) : gI (wj w1 w2) (g, j) = gI w1 (g, j) ∧ gL (wj w1 w2) (g, j) = gL w1 (g, j) := ⟨if_pos h, if_pos h⟩
theorem wj_hi {w1 w2 : PW} {g j : Nat} (h : 90 ≤ j) : gI (wj w1 w2) (g, j) = gI w2 (g, j) ∧ gL (wj w1 w2) (g, j) = gL w2 (g, j) := ⟨if_neg (by omega), if_neg (by omega)⟩
theorem cell_w {ad : AD} {cI cZ cJ cW cP : ClassId} {w w' : PW} {o : Ob} (h1 : gI w' o = gI w o) (h2 : gL w' o = gL w o) : cellOf ad cI cZ cJ cW cP w' o = cellOf ad cI cZ cJ cW cP w o := by
  unfold cellOf fldL
  have e : fldV ad w' o (shc o.2) = fldV ad w o (shc o.2) := by
    funext k
    unfold fldV
    rw [h1]
  rw [h1, h2, e]
theorem lo_C : ∀ o, o ∈ objsC → o.2 < 90 := by
  have h : objsC.all (fun o => Nat.blt o.2 90) = true := by decide +kernel
  exact fun o ho => Nat.le_of_ble_eq_true (List.all_eq_true.mp h o ho)
theorem r_C : ∀ o, o ∈ objsC → o = (0, 13) ∨ o = (0, 32) ∨ refsIn objsC o := by
  have h : objsC.all (fun o => decide (o = (0, 13)) || decide (o = (0, 32)) || refsB objsC o) = true := by decide +kernel
  intro o ho
  have := List.all_eq_true.mp h o ho
  simp only [Bool.or_eq_true, decide_eq_true_eq] at this
  rcases this with (h | h) | h
  · exact Or.inl h
  · exact Or.inr (Or.inl h)
  · exact Or.inr (Or.inr (refsB_ok h))
theorem cell_C {ad ad' : AD} {cI cZ cJ cW cP : ClassId} {w : PW} {o : Ob} (ho : o ∈ objsC) (h : ∀ x : Ob, x.2 < 90 → ad' x = ad x) : cellOf ad' cI cZ cJ cW cP w o = cellOf ad cI cZ cJ cW cP w o := by
  rcases r_C o ho with rfl | rfl | hr
  · show (Sum.inl (cW, 4, .inr (.inr (.inr (.inr (fun i => some (ad' (i, 80))))))) : va_E) = Sum.inl (cW, 4, .inr (.inr (.inr (.inr (fun i => some (ad (i, 80)))))))
    rw [show (fun i : Nat => some (ad' (i, 80))) = fun i : Nat => some (ad (i, 80)) from funext fun i => by rw [h (i, 80) (by show 80 < 90; omega)]]
  · show (Sum.inl (cP, 6, .inr (.inr (.inr (.inr (fun i => some (ad' (i, 70))))))) : va_E) = Sum.inl (cP, 6, .inr (.inr (.inr (.inr (fun i => some (ad (i, 70)))))))
    rw [show (fun i : Nat => some (ad' (i, 70))) = fun i : Nat => some (ad (i, 70)) from funext fun i => by rw [h (i, 70) (by show 70 < 90; omega)]]
  · exact cell_ad hr (fun x hx => h x (lo_C x hx))
theorem r_M : ∀ o, o ∈ objsM → refsIn objsM o := refsA (by decide +kernel)
theorem hi_M : ∀ o, o ∈ objsM → 90 ≤ o.2 := by
  have h : objsM.all (fun o => Nat.ble 90 o.2) = true := by decide +kernel
  exact fun o ho => Nat.le_of_ble_eq_true (List.all_eq_true.mp h o ho)
theorem objs_two : (objsC ++ objsM).Perm objs := List.isPerm_iff.mp (by decide +kernel)
theorem ws_two {a1 a2 : AD} {cI cZ cJ cW cP : ClassId} {w1 w2 : PW} : (wsOfC a1 cI cZ cJ cW cP w1 ++ wsOfM a2 cI cZ cJ cW cP w2).Perm (wsOf (adj a1 a2) cI cZ cJ cW cP (wj w1 w2)) := by
  have e1 : wsOfC a1 cI cZ cJ cW cP w1 = objsC.map (fun o => (adj a1 a2 o, cellOf (adj a1 a2) cI cZ cJ cW cP (wj w1 w2) o)) := by
    refine List.map_congr_left (fun o ho => ?_)
    have hl := lo_C o ho
    have ea : ∀ x : Ob, x.2 < 90 → adj a1 a2 x = a1 x := fun x hx => if_pos hx
    rw [ea o hl, cell_C ho ea, cell_w (w := w1) (wj_lo (g := o.1) hl).1 (wj_lo (g := o.1) hl).2]
  have e2 : wsOfM a2 cI cZ cJ cW cP w2 = objsM.map (fun o => (adj a1 a2 o, cellOf (adj a1 a2) cI cZ cJ cW cP (wj w1 w2) o)) := by
    refine List.map_congr_left (fun o ho => ?_)
    have hl := hi_M o ho
    have ea : ∀ x, x ∈ objsM → adj a1 a2 x = a2 x := fun x hx => if_neg (Nat.not_lt.mpr (hi_M x hx))
    rw [ea o ho, cell_ad (r_M o ho) ea, cell_w (w := w2) (wj_hi (g := o.1) hl).1 (wj_hi (g := o.1) hl).2]
  rw [e1, e2, ← List.map_append]
  exact objs_two.map _
theorem TPo_0 {c : Nat → Nat → Int32} : TPo c 4 1 TP0 := ⟨by show 0 ≤ 5; omega, fun x => absurd x.1 (by show ¬ 1 ≤ 0; omega), fun x => absurd x (by show ¬ (0 : Nat) = 5; omega)⟩
theorem K_inv {w1 w2 : PW} (h1 : K9 w1) (h2 : K10 w2) : Inv 0 (wj w1 w2) := by
  obtain ⟨σ, ca, ic, s2, s3, r3⟩ := h1
  obtain ⟨f, t0, t1, t2, t3, t4, t5, t6, t7, t8, t9', t10, t11, t12⟩ := h2
  have hck : CK (cf w1) 0 4 := lo_CK (by omega) (by omega) r3
  have fn : FN w1 (wj w1 w2) := fun g j hj => wj_lo hj
  have m : ∀ g j, 90 ≤ j → gI (wj w1 w2) (g, j) = gI w2 (g, j) := fun g j hj => (wj_hi hj).1
  have e90 := m 0 90 (by omega)
  refine Inv.mk (v := 1) (R := 4) (cr := 2) (se := 0) (c := cf w1) (RL := []) (PL := []) (MK := []) (rf := 0) (by omega) (IC_FN fn ic) ⟨⟨by rw [e90]; exact t0, by rw [e90]; exact t1, by rw [e90]; exact t2, by omega, ⟨by rw [e90]; exact t3, fun r x hx => by cases hx⟩, ⟨Nat.zero_le _, fun x hx => by cases hx⟩, ⟨by rw [e90]; exact t4, fun r x hx => by cases hx⟩, Nat.zero_le _⟩, fun q i hq hi => ?_, ⟨by rw [e90]; exact t5, fun r x hx => by cases hx⟩, ?_, fun b hb => clm_WTm ⟨?_, ?_, ?_⟩, fun d hd => ⟨?_, fun x => absurd x.1 (by show ¬ 1 ≤ 0; omega), fun x => absurd x (by show ¬ (0 : Nat) = 5; omega)⟩, by rw [e90]; exact t7, by rw [e90]; exact t6⟩ ⟨⟨Nat.zero_le _, fun x hx => by cases hx⟩, ⟨Nat.zero_le _, fun x hx => by cases hx⟩, start_RO hck s2 s3 (Nat.zero_le _) (Nat.zero_le _) (fun x hx => by cases hx) (fun x hx => by cases hx), fun b hb => WTo_0, fun d hd => TPo_0⟩
  · rw [r3 q i hq hi, ← t8 q i hq hi]
    unfold cm
    rw [m _ _ (by omega)]
  · rw [m _ _ (by omega), t10]; exact start_KM0 hck s2 s3 (SM_c (fun q i hq hi => r3 q i hq hi) t11)
  · rw [m _ _ (by omega)]; exact (t9' b hb).1
  · rw [m _ _ (by omega)]; exact (t9' b hb).2.1
  · rw [m _ _ (by omega)]; exact (t9' b hb).2.2
  · rw [m _ _ (by omega)]; exact t12 d hd
