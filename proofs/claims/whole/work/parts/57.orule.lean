/-! RULE, BOTH SIDES -/
theorem m_rule {w R cr se c RL PL MK A M WT TP v rf} {a b : Int32} {d : Nat} {l : List O3} {k : Int32 → PW → Prop} (hd : d < 6) (h24 : R ≤ 24) (im : IM w R cr se c RL PL MK A M WT TP v rf) (io : IO R c PL MK A M WT TP v)
    (ho : actOK R (a, b)) (hN : tN (TP d) ≤ 100) (hb : Tb (tE (TP d)) (tN (TP d))) (hs : gI w (0, 119) d = nI (tN (TP d))) (ht : ∀ q, q < tN (TP d) → gL w (0, 120) (100 * d + q) = tE (TP d) q)
    (e : prs (tE (TP d)) (tN (TP d)) R 101 0 0 = .inr l) (h12 : RL.length < 12) (h20 : l.length ≤ 20)
    (hk : ∀ w', FN w w' → IM w' R cr se c (RL ++ [(a, b, l)]) PL MK (AC A RL.length) M WT TP (v + 1) rf → k (nI RL.length) w') :
    Wp 136 100 [t9, none, none, i9 (nI d), none, none, i9 0] [] (sI (sI w (0, 105) RL.length a) (0, 106) RL.length b) (kI k) := by
  have im0 := im
  obtain ⟨m1, m2, m3, m4, m5, m6, m7, m8⟩ := im
  obtain ⟨r1, r2⟩ := m1.2.2.2.2.1
  have x5 : gI (sI (sI w (0, 105) RL.length a) (0, 106) RL.length b) (0, 105) = ub (gI w (0, 105)) RL.length a := by rw [sI_ne (by omega), gI_s]
  have x6 : gI (sI (sI w (0, 105) RL.length a) (0, 106) RL.length b) (0, 106) = ub (gI w (0, 106)) RL.length b := by rw [gI_s, sI_ne (by omega)]
  have f2 : ∀ g j, ¬ (g = 0 ∧ 105 ≤ j ∧ j ≤ 106) → gI (sI (sI w (0, 105) RL.length a) (0, 106) RL.length b) (g, j) = gI w (g, j) := fun g j hh => by rw [sI_ne (by omega), sI_ne (by omega)]
  have l2 : (sI (sI w (0, 105) RL.length a) (0, 106) RL.length b).2 = w.2 := rfl
  generalize sI (sI w (0, 105) RL.length a) (0, 106) RL.length b = w2 at x5 x6 f2 l2
  refine m_rloop hd hN h12 (by rw [f2 _ _ (by omega)]; exact hs) (by rw [f2 _ _ (by omega)]; exact r1) ?_
  intro w3 h3
  have f3 : ∀ g j, ¬ (g = 0 ∧ j = 107) → gI w3 (g, j) = gI w2 (g, j) := fun g j hh => by rw [h3, aI_ne (by omega)]
  have x7 : ∀ q, gI w3 (0, 107) q = va_cpy (fun q => (gL w2 (0, 120) q).toInt32) (gI w2 (0, 107)) (100 * d) (100 * RL.length) (tN (TP d)) q := fun q => by rw [h3, gI_aI]
  have l3 : w3.2 = w.2 := by rw [h3]; exact l2
  have lq : ∀ q, gL w2 (0, 120) q = gL w (0, 120) q := fun q => by unfold gL; rw [l2]
  have e37 : gI w2 (0, 90) 37 + 1 = nI (v + 1) := by rw [f2 _ _ (by omega), m7, nI_s1]
  rw [e37]
  clear h3
  have fr : ∀ g j, ¬ (g = 0 ∧ 105 ≤ j ∧ j ≤ 107) → gI w3 (g, j) = gI w (g, j) := fun g j hh => by rw [f3 g j (by omega), f2 g j (by omega)]
  have x5' : gI w3 (0, 105) = ub (gI w (0, 105)) RL.length a := by rw [f3 _ _ (by omega), x5]
  have x6' : gI w3 (0, 106) = ub (gI w (0, 106)) RL.length b := by rw [f3 _ _ (by omega), x6]
  have old : ∀ q, q < 100 * RL.length → gI w3 (0, 107) q = gI w (0, 107) q := fun q hq => by rw [x7, va_cpy_out (by omega), f2 _ _ (by omega)]
  have nw' : ∀ q, q < tN (TP d) → gI w3 (0, 107) (100 * RL.length + q) = (tE (TP d) q).toInt32 := fun q hq => by
    rw [x7, va_cpy_in (by omega) (by omega), show 100 * d + (100 * RL.length + q - 100 * RL.length) = 100 * d + q by omega, lq, ht q hq]
  have fX : ∀ g j, ¬ (g = 0 ∧ j = 90) → gI (sI (sI w3 (0, 90) 33 (nI (RL.length + 1))) (0, 90) 37 (nI (v + 1))) (g, j) = gI w3 (g, j) := fun g j hh => by rw [sI_ne (by omega), sI_ne (by omega)]
  have f90 : ∀ q, ¬ q = 33 → ¬ q = 37 → gI (sI (sI w3 (0, 90) 33 (nI (RL.length + 1))) (0, 90) 37 (nI (v + 1))) (0, 90) q = gI w (0, 90) q := fun q h1 h2 => by rw [gI_sN (beq_f h2), gI_sN (beq_f h1), fr _ _ (by omega)]
  have e33 : gI (sI (sI w3 (0, 90) 33 (nI (RL.length + 1))) (0, 90) 37 (nI (v + 1))) (0, 90) 33 = nI (RL.length + 1) := by rw [gI_sN rfl, gI_sat]
  have e37' : gI (sI (sI w3 (0, 90) 33 (nI (RL.length + 1))) (0, 90) 37 (nI (v + 1))) (0, 90) 37 = nI (v + 1) := gI_sat
  have pk := prs_ok hN h24 hb 101 0 0 l e
  have fY : FY w (sI (sI w3 (0, 90) 33 (nI (RL.length + 1))) (0, 90) 37 (nI (v + 1))) := ⟨fun g j hh => by rw [fX g j (by omega), fr g j (by omega)], l3⟩
  have ru : RUm (sI (sI w3 (0, 90) 33 (nI (RL.length + 1))) (0, 90) 37 (nI (v + 1))) (RL ++ [(a, b, l)]) := by
    refine ⟨by rw [e33, List.length_append]; rfl, fun q x hx => ?_⟩
    rw [fX 0 105 (by omega), fX 0 106 (by omega), fX 0 107 (by omega), x5', x6']
    rcases push_at hx with ⟨h1, h2⟩ | ⟨h1, h2⟩
    · rw [ub_ne (beq_f (by omega)), ub_ne (beq_f (by omega))]
      obtain ⟨y1, y2, y3⟩ := r2 q x h1
      have := (m1.2.2.2.2.2.1.2 x (List.mem_of_getElem? h1)).2.1
      exact ⟨y1, y2, OM_eq _ _ (fun z u1 u2 => old z (by omega)) y3⟩
    · subst h1 h2
      rw [ub_same, ub_same]
      exact ⟨rfl, rfl, pk.2.2 (gI w3 (0, 107)) (100 * RL.length) nw' (by omega)⟩
  have em : EM (sI (sI w3 (0, 90) 33 (nI (RL.length + 1))) (0, 90) 37 (nI (v + 1))) R cr se (RL ++ [(a, b, l)]) PL := by
    refine ⟨by rw [f90 _ (by omega) (by omega)]; exact m1.1, by rw [f90 _ (by omega) (by omega)]; exact m1.2.1, by rw [f90 _ (by omega) (by omega)]; exact m1.2.2.1, m1.2.2.2.1, ru, ⟨by rw [List.length_append, List.length_singleton]; omega, fun x hx => ?_⟩, ?_, m1.2.2.2.2.2.2.2⟩
    · rcases List.mem_append.mp hx with h | h
      · exact m1.2.2.2.2.2.1.2 x h
      · rw [List.mem_singleton.mp h]; exact ⟨ho, h20, pk.2.1⟩
    · have := m1.2.2.2.2.2.2.1
      unfold PLm at this ⊢
      rw [f90 34 (by omega) (by omega), fX 0 108 (by omega), fX 0 109 (by omega), fX 0 110 (by omega), fr 0 108 (by omega), fr 0 109 (by omega), fr 0 110 (by omega)]
      exact this
  have imX := IM_Y (se' := se) (cr' := cr) fY em (CE_fr (fun j hj => by rw [fX _ _ (by omega), fr _ _ (by omega)]) m2) (f90 35 (by omega) (by omega)) e37' ((f90 36 (by omega) (by omega)).trans m8) (fun q hq h => TPm_up (io.2.2.2.2 q hq) h) im0
  have ro := io.2.2.1
  refine hk _ ?_ (IM_live (w := sI (sI w3 (0, 90) 33 (nI (RL.length + 1))) (0, 90) 37 (nI (v + 1))) (fun g j hj => ?_) (fun q h1 h2 => ?_) rfl ?_ imX)
  · intro g j hj
    refine ⟨by rw [sI_ne (by omega), sI_ne (by omega), sI_ne (by omega), fr g j (by omega)], ?_⟩
    show w3.2 j g = w.2 j g
    rw [l3]
  · rw [sI_ne (by omega), sI_ne (by omega), sI_ne (by omega), sI_ne (by omega), sI_ne (by omega)]
  · rw [gI_s, gI_s, gI_s, gI_s, sI_ne (by omega)]
  · rw [gI_so rfl, gI_so rfl, gI_s, fr 1 114 (by omega)]
    refine KM_aC m4 ro.2.1.1 h24 ro.1.2.2.2.1 ro.1.2.2.2.2.1 (fun q hq => ub_ne (beq_f (by omega))) (fun q hq => ?_)
    rw [ub_eq, ub_eq]
    by_cases x : q = RL.length
    · rw [if_pos x, if_pos (by omega)]
    · rw [if_neg x, if_neg (by omega)]
