/-! what is told anew: frames */ -/
def FZ (w w' : PW) : Prop := (∀ g j, ¬ (g = 0 ∧ j ≤ 20) → gI w' (g, j) = gI w (g, j)) ∧ w'.2 = w.2
theorem FZ.refl {w} : FZ w w := ⟨fun _ _ _ => rfl, rfl⟩
theorem FZ.tr {w w' w''} (h : FZ w w') (h' : FZ w' w'') : FZ w w'' := ⟨fun g j hh => (h'.1 g j hh).trans (h.1 g j hh), h'.2.trans h.2⟩
theorem FZ_s {w : PW} {j i : Nat} {v : Int32} (h : j ≤ 20) : FZ w (sI w (0, j) i v) := ⟨fun g j' hh => sI_ne (fun e => hh ⟨e.1, by omega⟩), rfl⟩
theorem FZ.fc {w w'} (h : FZ w w') : FC w w' := fun g j hj => ⟨h.1 g j (by omega), by unfold gL; rw [h.2]⟩
theorem TPc_up {c w R R' d t v} (ho : TPo c R v t) (h : TPc w R d t v) : TPc w R' d t (v + 1) := by
  obtain ⟨a1, a2, a3⟩ := h
  exact ⟨a1, a2, fun x => ⟨(a3 x).1, (a3 x).2.1, fun y => by have := (ho.2.2 x).1; omega⟩⟩
theorem TPm_up {c w R R' d t v} (ho : TPo c R v t) (h : TPm w R d t v) : TPm w R' d t (v + 1) := by
  obtain ⟨a1, a2, a3⟩ := h
  exact ⟨a1, a2, fun x => ⟨(a3 x).1, (a3 x).2.1, fun y => by have := (ho.2.2 x).1; omega⟩⟩
theorem TPo_up {c c' R R' v t} (h : TPo c R v t) : TPo c' R' (v + 1) t := by
  obtain ⟨a1, a2, a3⟩ := h
  exact ⟨a1, a2, fun x => ⟨by have := (a3 x).1; omega, (a3 x).2.1, fun y => by have := (a3 x).1; omega⟩⟩
theorem TPc_z {w w' R d t v} (h : FZ w w') (ht : TPc w R d t v) : TPc w' R d t v :=
  TPc_fr (h.1 _ _ (by omega)) (by unfold gL; rw [h.2]) (fun j a b => h.1 _ _ (by omega)) (fun j a b => h.1 _ _ (by omega)) (fun j a b => h.1 _ _ (by omega)) (fun j a b => h.1 _ _ (by omega)) ht
theorem LV1_z {w w' R A M} (h : FZ w w') (hl : LV1 w 1 R A M) : LV1 w' 1 R A M :=
  LV1_fr (fun j a b => h.1 _ _ (by omega)) (fun j a b => h.1 _ _ (by omega)) (fun j a b => h.1 _ _ (by omega)) (fun j a b => h.1 _ _ (by omega)) hl
theorem IC_Z {w w' R cr se c RL PL MK A M WT TP v rf cr' se' c' RL' v' rf'} (hz : FZ w w') (he : EC w' R cr' se' RL') (hc : ceq c' (cf w')) (hv : gI w' (0, 0) 9 = nI v') (hr : gI w' (0, 0) 10 = rf') (ht : ∀ d, d < 6 → TPc w R d (TP d) v → TPc w R d (TP d) v')
    (h : IC w R cr se c RL PL MK A M WT TP v rf) : IC w' R cr' se' c' RL' PL MK A M WT TP v' rf' := by
  obtain ⟨h1, h2, h3, h4, h5, h6, h7, h8, h9⟩ := h
  exact ⟨he, hc, PLc_fr (fun j a b => hz.1 _ _ (by omega)) h3, MKc_fr (fun j a b => hz.1 _ _ (by omega)) h4, LV1_z hz h5, fun b hb => WTc_fr (fun j x y => hz.1 _ _ (by omega)) (h6 b hb), fun d hd => TPc_z hz (ht d hd (h7 d hd)), hv, hr⟩
def FY (w w' : PW) : Prop := (∀ g j, ¬ (g = 0 ∧ ((90 ≤ j ∧ j ≤ 101) ∨ (105 ≤ j ∧ j ≤ 107) ∨ (121 ≤ j ∧ j ≤ 125))) → gI w' (g, j) = gI w (g, j)) ∧ w'.2 = w.2
theorem FY.refl {w} : FY w w := ⟨fun _ _ _ => rfl, rfl⟩
theorem FY.tr {w w' w''} (h : FY w w') (h' : FY w' w'') : FY w w'' := ⟨fun g j hh => (h'.1 g j hh).trans (h.1 g j hh), h'.2.trans h.2⟩
theorem FY_s {w : PW} {j i : Nat} {v : Int32} (h : (90 ≤ j ∧ j ≤ 101) ∨ (105 ≤ j ∧ j ≤ 107) ∨ (121 ≤ j ∧ j ≤ 125)) : FY w (sI w (0, j) i v) := ⟨fun g j' hh => sI_ne (fun e => hh ⟨e.1, by omega⟩), rfl⟩
theorem FY.fm {w w'} (h : FY w w') : FN w w' := fun g j hj => ⟨h.1 g j (by omega), by unfold gL; rw [h.2]⟩
theorem IM_Y {w w' R cr se c RL PL MK A M WT TP v rf cr' se' c' RL' v' rf'} (hz : FY w w') (he : EM w' R cr' se' RL' PL) (hc : CE R c' (cm w')) (h35 : gI w' (0, 90) 35 = gI w (0, 90) 35) (hv : gI w' (0, 90) 37 = nI v') (hr : gI w' (0, 90) 36 = rf') (ht : ∀ d, d < 6 → TPm w R d (TP d) v → TPm w R d (TP d) v')
    (h : IM w R cr se c RL PL MK A M WT TP v rf) : IM w' R cr' se' c' RL' PL MK A M WT TP v' rf' := by
  obtain ⟨h1, h2, h3, h4, h5, h6, h7, h8⟩ := h
  exact ⟨he, hc, MKm_fr h35 (fun j a b => hz.1 _ _ (by omega)) h3, by rw [hz.1 1 114 (by omega)]; exact h4, fun b hb => WTm_fr (fun j hj => hz.1 _ _ (by omega)) (h5 b hb), fun d hd => TPm_fr (fun j a b => hz.1 _ _ (by omega)) (by unfold gL; rw [hz.2]) (ht d hd (h6 d hd)), hv, hr⟩
theorem Ok.c0 {c c' R W I σ} (h : c' 0 = c 0) (ho : Ok c R W I σ) : Ok c' R W I σ := by unfold Ok shOK; rw [h]; exact ho
theorem lv_c8 {c c' wa} (h : ∀ f, f ≤ 8 → c' f = c f) : lv c' wa = lv c wa := by
  funext i; unfold lv; rw [h 1 (by omega), h 2 (by omega)]
theorem RO_c8 {c c' R A M} (h : ∀ f, f ≤ 8 → c' f = c f) (hr : RO c R A M) : RO c' R A M := by
  obtain ⟨a1, a2, a3, a4⟩ := hr
  refine ⟨⟨Ok.c0 (h 0 (by omega)) a1.1, a1.2⟩, a2, a3, fun hz => ?_⟩
  have := a4 hz
  unfold stc at *
  rw [lv_c8 h, h 4 (by omega), h 5 (by omega), h 6 (by omega), h 8 (by omega)]
  exact this
theorem TPo_c8 {c c' R v t} (h : ∀ f, f ≤ 8 → c' f = c f) (ht : TPo c R v t) : TPo c' R v t :=
  ⟨ht.1, ht.2.1, fun x => ⟨(ht.2.2 x).1, (ht.2.2 x).2.1, fun y => RO_c8 h ((ht.2.2 x).2.2 y)⟩⟩
theorem IO_c8 {R c c' PL MK A M WT TP v} (h : ∀ f, f ≤ 8 → c' f = c f) (ho : IO R c PL MK A M WT TP v) : IO R c' PL MK A M WT TP v :=
  ⟨ho.1, ho.2.1, RO_c8 h ho.2.2.1, ho.2.2.2.1, fun d hd => TPo_c8 h (ho.2.2.2.2 d hd)⟩
theorem i_cell {a : Int32} {R : Nat} (h : 0 ≤ a ∧ a ≤ nI R - 1) (hR : 2 ≤ R) (h24 : R ≤ 24) : ∃ i : Nat, i < R ∧ a = nI i := of_rng h.1 h.2 (by omega) (by omega)
theorem ceq_u {c c' : Nat → Nat → Int32} {q : Nat} {f : Nat → Int32} (h : ceq c c') (q' : c' q = f → True) : True := trivial
/-- a row of the river is told anew, on the class's side -/
theorem ceq_s {w : PW} {c : Nat → Nat → Int32} {q i : Nat} {v : Int32} (hq : q ≤ 10) (h : ceq c (cf w)) : ceq (ub c q (ub (c q) i v)) (cf (sI w (0, 2 + q) i v)) := by
  intro f hf
  show gI (sI w (0, 2 + q) i v) (0, 2 + f) = _
  rw [ub_eq]
  by_cases e : f = q
  · subst e; rw [if_pos rfl, gI_s]; exact congrArg (fun x => ub x i v) (h f hf)
  · rw [if_neg e, gI_so (beq_f (by omega))]; exact h f hf
theorem CE_s {w : PW} {c : Nat → Nat → Int32} {R q i : Nat} {v : Int32} (hq : q ≤ 10) (h : CE R c (cm w)) : CE R (ub c q (ub (c q) i v)) (cm (sI w (0, 91 + q) i v)) := by
  intro f j hf hj
  show gI (sI w (0, 91 + q) i v) (0, 91 + f) j = _
  rw [ub_eq]
  by_cases e : f = q
  · subst e
    rw [if_pos rfl, gI_s, ub_eq, ub_eq]
    by_cases e2 : j = i
    · rw [if_pos e2, if_pos e2]
    · rw [if_neg e2, if_neg e2]; exact h f j hf hj
  · rw [if_neg e, gI_so (beq_f (by omega))]; exact h f j hf hj
/-! gauge, eye, crews, sea -/
theorem o_gauge {n w} {a b : Int32} (hi : Inv n w) : OP n w 65 130 [vI a, vI b] := by
  have hi0 := hi
  obtain ⟨R, cr, se, c, RL, PL, MK, A, M, WT, TP, v, rf, hv', ic, im, io⟩ := hi
  have ic0 := ic
  have im0 := im
  obtain ⟨c1, c2, c3, c4, c5, c6, c7, c8, c9⟩ := ic
  obtain ⟨m1, m2, m3, m4, m5, m6, m7, m8⟩ := im
  have hck : CK c se R := CK.c c2.symm c1.2.2.2.2.1
  have no : ¬ ((0 ≤ a ∧ a ≤ nI R - 1) ∧ (-1 ≤ b ∧ b ≤ 6)) → kI (fun x w1 => Cl 130 (vO 0 90 :: [vI a, vI b]) w1 (kI fun y w2 => y = x ∧ Inv (n + 1) w2)) (.inl (-1)) w := by
    intro hn
    show Cl 130 [vO 0 90, vI a, vI b] w _
    have fin : kI (fun y w2 => y = -1 ∧ Inv (n + 1) w2) (.inl (-1)) w := ⟨rfl, hi0.up (by omega)⟩
    apply v_X10_gauge_0
    rw [m1.1]
    exact ⟨bb_01, bbi (fun g1 => bbj (fun g2 => absurd ⟨g1, g2⟩ hn) (fun _ => fin)) (fun _ => fin)⟩
  apply v_X9_gauge_0
  rw [c1.1]
  refine ⟨bb_01, bbi (fun g1 => bbj (fun g2 => ?_) (fun g => no (fun x => g x.2))) (fun g => no (fun x => g x.1))⟩
  obtain ⟨i, hi', rfl⟩ := i_cell g1 hck.1 hck.2.1
  have h24 := hck.2.1
  have in24 : vp_in (nI i) 24 := in_nI (by omega) (by omega)
  rw [cl_nI (by omega), show gI w (0, 11) i = c 9 i from congrFun (c2 9 (by omega)) i]
  have main : ∀ x, x = (if c 9 i = -1 then (0 : Int32) else 1) → kI (fun x w1 => Cl 130 (vO 0 90 :: [vI (nI i), vI b]) w1 (kI fun y w2 => y = x ∧ Inv (n + 1) w2)) (.inl x) (sI w (0, 11) i b) := by
    intro x hx
    have fz : FZ w (sI w (0, 11) i b) := FZ_s (by omega)
    have hc8 : ∀ f, f ≤ 8 → ub c 9 (ub (c 9) i b) f = c f := fun f hf => ub_ne (beq_f (by omega))
    have hc' : ceq (ub c 9 (ub (c 9) i b)) (cf (sI w (0, 11) i b)) := ceq_s (q := 9) (by omega) c2
    have hck' : CK (ub c 9 (ub (c 9) i b)) se R := by
      obtain ⟨k1, k2, k3, k4⟩ := hck
      refine ⟨k1, k2, k3, fun j hj => ?_⟩
      obtain ⟨q0, q1, q2, q3, q4, q5, q6, q7, q8, q9⟩ := k4 j hj
      refine ⟨q0, q1, q2, q3, q4, q5, q6, q7, q8, ?_⟩
      rw [ub_same, ub_eq]
      by_cases e : j = i
      · rw [if_pos e]; rw [ti_le, ti_le] at g2; exact g2
      · rw [if_neg e]; exact q9
    have ic1 : IC (sI w (0, 11) i b) R cr se (ub c 9 (ub (c 9) i b)) RL PL MK A M WT TP v rf := by
      refine IC_Z fz ⟨by rw [gI_so rfl]; exact c1.1, by rw [gI_so rfl]; exact c1.2.1, by rw [gI_so rfl]; exact c1.2.2.1, c1.2.2.2.1, CK.c hc' hck', ?_, c1.2.2.2.2.2.2⟩ hc' (by rw [gI_so rfl]; exact c8) (by rw [gI_so rfl]; exact c9) (fun _ _ h => h) ic0
      unfold RUc
      rw [gI_so (j := 14) rfl, gI_so (j := 15) rfl, gI_so (j := 16) rfl, gI_so (j := 17) rfl, gI_so (j := 18) rfl, gI_so (j := 19) rfl, gI_so (j := 20) rfl]
      exact c1.2.2.2.2.2.1
    have im1 := IM_FC fz.fc im0
    generalize sI w (0, 11) i b = w1 at ic1 im1
    have im2 := im1
    obtain ⟨m1, m2, m3, m4, m5, m6, m7, m8⟩ := im1
    show Cl 130 [vO 0 90, vI (nI i), vI b] w1 _
    have fin : ∀ y, y = x → kI (fun y w2 => y = x ∧ Inv (n + 1) w2) (.inl y) (sI w1 (0, 100) i b) := by
      intro y hy
      have fy : FY w1 (sI w1 (0, 100) i b) := FY_s (by omega)
      refine ⟨hy, Inv.mk (by omega) (IC_FN fy.fm ic1) (IM_Y fy (EM_fr (fun j hj => gI_so (beq_f (by omega))) (fun q _ => by rw [gI_so rfl]) m1) ?_ (by rw [gI_so rfl]) (by rw [gI_so rfl]; exact m7) (by rw [gI_so rfl]; exact m8) (fun _ _ h => h) im2) (IO_c8 hc8 io)⟩
      exact CE_s (q := 9) (by omega) m2
    · apply v_X10_gauge_0
      rw [m1.1, cl_nI (by omega), show gI w1 (0, 100) i = c 9 i from m2 9 i (by omega) hi']
      have lg := (hck.2.2.2 i hi').2.2.2.2.2.2.2.2.2
      refine ⟨bb_01, bbi (fun _ => bbj (fun _ => ⟨in24, fun g => ⟨in24, fin 0 ?_⟩, fun g => ⟨in24, fin 1 ?_⟩⟩) (fun e => absurd g2 e)) (fun e => absurd g1 e)⟩
      · rw [hx, if_pos (by rw [ti_eq, tlm1]; rw [ti_lt, tl0] at g; omega)]
      · rw [hx, if_neg (by rw [ti_eq, tlm1]; rw [ti_le, tl0] at g; omega)]
  exact ⟨in24, in24, fun g => main 1 (if_neg g).symm, fun g => main 0 (if_pos g).symm⟩
theorem o_eye {n w} {a : Int32} (hi : Inv n w) : OP n w 66 131 [vI a] := by
  have hi0 := hi
  obtain ⟨R, cr, se, c, RL, PL, MK, A, M, WT, TP, v, rf, hv', ic, im, io⟩ := hi
  have ic0 := ic
  have im0 := im
  obtain ⟨c1, c2, c3, c4, c5, c6, c7, c8, c9⟩ := ic
  obtain ⟨m1, m2, m3, m4, m5, m6, m7, m8⟩ := im
  have hck : CK c se R := CK.c c2.symm c1.2.2.2.2.1
  have no : ¬ (0 ≤ a ∧ a ≤ nI R - 1) → kI (fun x w1 => Cl 131 (vO 0 90 :: [vI a]) w1 (kI fun y w2 => y = x ∧ Inv (n + 1) w2)) (.inl (-1)) w := by
    intro hn
    show Cl 131 [vO 0 90, vI a] w _
    apply v_X10_eye_0
    rw [m1.1]
    exact ⟨bb_01, bbj (fun g1 => absurd g1 hn) (fun _ => ⟨rfl, hi0.up (by omega)⟩)⟩
  apply v_X9_eye_0
  rw [c1.1]
  refine ⟨bb_01, bbj (fun g1 => ?_) (fun g => no g)⟩
  obtain ⟨i, hi', rfl⟩ := i_cell g1 hck.1 hck.2.1
  have h24 := hck.2.1
  have in24 : vp_in (nI i) 24 := in_nI (by omega) (by omega)
  rw [cl_nI (by omega), show gI w (0, 12) i = c 10 i from congrFun (c2 10 (by omega)) i, gI_sat, gI_sat]
  have main : ∀ x, x = (if c 10 i = 0 then (1 : Int32) else 0) → kI (fun x w1 => Cl 131 (vO 0 90 :: [vI (nI i)]) w1 (kI fun y w2 => y = x ∧ Inv (n + 1) w2)) (.inl x) (sI w (0, 12) i x) := by
    intro x hx
    have fz : FZ w (sI w (0, 12) i x) := FZ_s (by omega)
    have hc8 : ∀ f, f ≤ 8 → ub c 10 (ub (c 10) i x) f = c f := fun f hf => ub_ne (beq_f (by omega))
    have hc' : ceq (ub c 10 (ub (c 10) i x)) (cf (sI w (0, 12) i x)) := ceq_s (q := 10) (by omega) c2
    have ic1 : IC (sI w (0, 12) i x) R cr se (ub c 10 (ub (c 10) i x)) RL PL MK A M WT TP v rf := by
      refine IC_Z fz ⟨by rw [gI_so rfl]; exact c1.1, by rw [gI_so rfl]; exact c1.2.1, by rw [gI_so rfl]; exact c1.2.2.1, c1.2.2.2.1, CK.c hc' hck, ?_, c1.2.2.2.2.2.2⟩ hc' (by rw [gI_so rfl]; exact c8) (by rw [gI_so rfl]; exact c9) (fun _ _ h => h) ic0
      unfold RUc
      rw [gI_so (j := 14) rfl, gI_so (j := 15) rfl, gI_so (j := 16) rfl, gI_so (j := 17) rfl, gI_so (j := 18) rfl, gI_so (j := 19) rfl, gI_so (j := 20) rfl]
      exact c1.2.2.2.2.2.1
    have im1 := IM_FC fz.fc im0
    generalize sI w (0, 12) i x = w1 at ic1 im1
    have im2 := im1
    obtain ⟨m1, m2, m3, m4, m5, m6, m7, m8⟩ := im1
    show Cl 131 [vO 0 90, vI (nI i)] w1 _
    have fin : kI (fun y w2 => y = x ∧ Inv (n + 1) w2) (.inl x) (sI w1 (0, 101) i x) := by
      have fy : FY w1 (sI w1 (0, 101) i x) := FY_s (by omega)
      refine ⟨rfl, Inv.mk (by omega) (IC_FN fy.fm ic1) (IM_Y fy (EM_fr (fun j hj => gI_so (beq_f (by omega))) (fun q _ => by rw [gI_so rfl]) m1) ?_ (by rw [gI_so rfl]) (by rw [gI_so rfl]; exact m7) (by rw [gI_so rfl]; exact m8) (fun _ _ h => h) im2) (IO_c8 hc8 io)⟩
      exact CE_s (q := 10) (by omega) m2
    · apply v_X10_eye_0
      rw [m1.1, cl_nI (by omega), show gI w1 (0, 101) i = c 10 i from m2 10 i (by omega) hi', gI_sat, gI_sat]
      refine ⟨bb_01, bbj (fun _ => ⟨in24, fun g => ?_, fun g => ?_⟩) (fun e => absurd g1 e)⟩
      · rw [if_neg g] at hx; subst hx
        exact ⟨b01_0, in24, in24, fun _ => fin, fun e => absurd rfl e⟩
      · rw [if_pos g] at hx; subst hx
        exact ⟨b01_1, in24, in24, fun e => absurd e (by decide), fun _ => fin⟩
  refine ⟨in24, fun g => ⟨b01_0, in24, in24, fun _ => main 0 (if_neg g).symm, fun e => absurd rfl e⟩, fun g => ⟨b01_1, in24, in24, fun e => absurd e (by decide), fun _ => main 1 (if_pos g).symm⟩⟩
theorem o_crews {n w} {a : Int32} (hi : Inv n w) : OP n w 67 132 [vI a] := by
  have hi0 := hi
  obtain ⟨R, cr, se, c, RL, PL, MK, A, M, WT, TP, v, rf, hv', ic, im, io⟩ := hi
  have ic0 := ic
  have im0 := im
  obtain ⟨c1, c2, c3, c4, c5, c6, c7, c8, c9⟩ := ic
  obtain ⟨m1, m2, m3, m4, m5, m6, m7, m8⟩ := im
  apply v_X9_crews_0
  refine bbj (fun g1 => ?_) (fun g => ?_)
  · obtain ⟨z, _, hz, rfl⟩ := i_rng (lo := 1) (hi := 6) g1 (by omega) (by omega)
    rw [c1.2.2.1]
    have fz : FZ w (sI w (0, 1) 2 (nI z)) := FZ_s (by omega)
    have cq : ceq (cf w) (cf (sI w (0, 1) 2 (nI z))) := fun f hf => gI_so (beq_f (by omega))
    have ic1 : IC (sI w (0, 1) 2 (nI z)) R z se c RL PL MK A M WT TP v rf := by
      refine IC_Z fz ⟨by rw [gI_sN rfl]; exact c1.1, by rw [gI_sN rfl]; exact c1.2.1, gI_sat, hz, CK.c cq c1.2.2.2.2.1, ?_, c1.2.2.2.2.2.2⟩ (c2.tr cq) (by rw [gI_so rfl]; exact c8) (by rw [gI_so rfl]; exact c9) (fun _ _ h => h) ic0
      unfold RUc
      rw [gI_so (j := 14) rfl, gI_so (j := 15) rfl, gI_so (j := 16) rfl, gI_so (j := 17) rfl, gI_so (j := 18) rfl, gI_so (j := 19) rfl, gI_so (j := 20) rfl]
      exact c1.2.2.2.2.2.1
    have im1 := IM_FC fz.fc im0
    generalize sI w (0, 1) 2 (nI z) = w1 at ic1 im1
    have im2 := im1
    obtain ⟨m1, m2, m3, m4, m5, m6, m7, m8⟩ := im1
    show Cl 132 [vO 0 90, vI (nI z)] w1 _
    apply v_X10_crews_0
    refine bbj (fun _ => ?_) (fun e => absurd g1 e)
    have fy : FY w1 (sI w1 (0, 90) 32 (nI z)) := FY_s (by omega)
    refine ⟨m1.2.2.1, Inv.mk (by omega) (IC_FN fy.fm ic1) (IM_Y (cr' := z) fy ⟨by rw [gI_sN rfl]; exact m1.1, by rw [gI_sN rfl]; exact m1.2.1, gI_sat, hz, ?_, m1.2.2.2.2.2.1, ?_, m1.2.2.2.2.2.2.2⟩ (CE_fr (fun j hj => gI_so (beq_f (by omega))) m2) (by rw [gI_sN rfl]) (by rw [gI_sN rfl]; exact m7) (by rw [gI_sN rfl]; exact m8) (fun _ _ h => h) im2) io⟩
    · unfold RUm
      rw [gI_sN rfl, gI_so (j := 105) rfl, gI_so (j := 106) rfl, gI_so (j := 107) rfl]; exact m1.2.2.2.2.1
    · unfold PLm
      rw [gI_sN rfl, gI_so (j := 108) rfl, gI_so (j := 109) rfl, gI_so (j := 110) rfl]; exact m1.2.2.2.2.2.2.1
  · show Cl 132 [vO 0 90, vI a] w _
    apply v_X10_crews_0
    exact bbj (fun e => absurd e g) (fun _ => ⟨rfl, hi0.up (by omega)⟩)
theorem o_sea {n w} {a : Int32} (hi : Inv n w) (hn : n ≤ 100000) : OP n w 63 125 [vI a] := by
  have hi0 := hi
  obtain ⟨R, cr, se, c, RL, PL, MK, A, M, WT, TP, v, rf, hv', ic, im, io⟩ := hi
  have ic0 := ic
  have im0 := im
  obtain ⟨c1, c2, c3, c4, c5, c6, c7, c8, c9⟩ := ic
  obtain ⟨m1, m2, m3, m4, m5, m6, m7, m8⟩ := im
  have hch : gI w (1, 40) 0 = nI (aH A) := c5.1.2.1
  have hmh : gI w (1, 114) 288 = nI (aH A) := m4.2.1
  have h300 := io.2.2.1.2.2.1
  have in8 : vp_in 288 19675 := in_nI (j := 288) (by omega) (by omega)
  apply v_X9_sea_0
  rw [hch]
  refine bbj (fun g1 => ⟨fun g2 => ?_, fun g2 => ?_⟩) (fun g => ?_)
  · have fz : FZ w (sI (sI w (0, 1) 1 a) (0, 0) 9 (gI w (0, 0) 9 + 1)) := (FZ_s (by omega)).tr (FZ_s (by omega))
    have cq : ceq (cf w) (cf (sI (sI w (0, 1) 1 a) (0, 0) 9 (gI w (0, 0) 9 + 1))) := fun f hf => (gI_so (beq_f (by omega))).trans (gI_so (beq_f (by omega)))
    have ic1 : IC (sI (sI w (0, 1) 1 a) (0, 0) 9 (gI w (0, 0) 9 + 1)) R cr a c RL PL MK A M WT TP (v + 1) rf := by
      refine IC_Z fz ⟨by rw [gI_so rfl, gI_sN rfl]; exact c1.1, by rw [gI_so rfl, gI_sat], by rw [gI_so rfl, gI_sN rfl]; exact c1.2.2.1, c1.2.2.2.1, ?_, ?_, c1.2.2.2.2.2.2⟩ (c2.tr cq) (by rw [gI_sat, c8, nI_s1]) (by rw [gI_sN rfl, gI_so rfl]; exact c9) (fun d hd h => TPc_up (io.2.2.2.2 d hd) h) ic0
      · obtain ⟨k1, k2, k3, k4⟩ := CK.c cq c1.2.2.2.2.1
        exact ⟨k1, k2, by rw [ti_le, ti_le] at g1; exact g1, k4⟩
      · unfold RUc
        rw [gI_so (j := 14) rfl, gI_so (j := 15) rfl, gI_so (j := 16) rfl, gI_so (j := 17) rfl, gI_so (j := 18) rfl, gI_so (j := 19) rfl, gI_so (j := 20) rfl, gI_so (j := 14) rfl, gI_so (j := 15) rfl, gI_so (j := 16) rfl, gI_so (j := 17) rfl, gI_so (j := 18) rfl, gI_so (j := 19) rfl, gI_so (j := 20) rfl]
        exact c1.2.2.2.2.2.1
    have im1 := IM_FC fz.fc im0
    rw [c1.2.1]
    generalize sI (sI w (0, 1) 1 a) (0, 0) 9 (gI w (0, 0) 9 + 1) = w1 at ic1 im1
    have im2 := im1
    obtain ⟨m1, m2, m3, m4, m5, m6, m7, m8⟩ := im1
    show Cl 125 [vO 0 90, vI a] w1 _
    apply v_X10_sea_0
    rw [m4.2.1]
    refine bbj (fun _ => ⟨in8, fun _ => ⟨b01_0, fun _ => ?_, fun e => absurd rfl e⟩, fun e => absurd g2 (Int32.not_le.mpr e)⟩) (fun e => absurd g1 e)
    have fy : FY w1 (sI (sI w1 (0, 90) 31 a) (0, 90) 37 (gI w1 (0, 90) 37 + 1)) := (FY_s (by omega)).tr (FY_s (by omega))
    refine ⟨m1.2.1, Inv.mk (by omega) (IC_FN fy.fm ic1) (IM_Y (se' := a) fy ⟨by rw [gI_sN rfl, gI_sN rfl]; exact m1.1, by rw [gI_sN rfl, gI_sat], by rw [gI_sN rfl, gI_sN rfl]; exact m1.2.2.1, m1.2.2.2.1, ?_, m1.2.2.2.2.2.1, ?_, m1.2.2.2.2.2.2.2⟩ (CE_fr (fun j hj => (gI_so (beq_f (by omega))).trans (gI_so (beq_f (by omega)))) m2) (by rw [gI_sN rfl, gI_sN rfl]) (by rw [gI_sat, m7, nI_s1]) (by rw [gI_sN rfl, gI_sN rfl]; exact m8) (fun d hd h => TPm_up (io.2.2.2.2 d hd) h) im2) ⟨io.1, io.2.1, io.2.2.1, io.2.2.2.1, fun d hd => TPo_up (io.2.2.2.2 d hd)⟩⟩
    · unfold RUm
      rw [gI_sN rfl, gI_sN rfl, gI_so (j := 105) rfl, gI_so (j := 106) rfl, gI_so (j := 107) rfl, gI_so (j := 105) rfl, gI_so (j := 106) rfl, gI_so (j := 107) rfl]; exact m1.2.2.2.2.1
    · unfold PLm
      rw [gI_sN rfl, gI_sN rfl, gI_so (j := 108) rfl, gI_so (j := 109) rfl, gI_so (j := 110) rfl, gI_so (j := 108) rfl, gI_so (j := 109) rfl, gI_so (j := 110) rfl]; exact m1.2.2.2.2.2.2.1
  · show Cl 125 [vO 0 90, vI a] w _
    apply v_X10_sea_0
    rw [hmh]
    exact bbj (fun _ => ⟨in8, fun e => absurd g2 (Int32.not_lt.mpr e), fun _ => ⟨b01_1, fun e => absurd e (by decide), fun _ => ⟨rfl, hi0.up (by omega)⟩⟩⟩) (fun e => absurd g1 e)
  · show Cl 125 [vO 0 90, vI a] w _
    apply v_X10_sea_0
    exact bbj (fun e => absurd e g) (fun _ => ⟨rfl, hi0.up (by omega)⟩)
