/-! RULE -/
theorem c_rule {w R cr se c RL PL MK A M WT TP v rf} {a b : Int32} {d : Nat} {l : List O3} {Q : PQ} (hd : d < 6) (ic : IC w R cr se c RL PL MK A M WT TP v rf) (io : IO R c PL MK A M WT TP v)
    (ho : actOK R (a, b)) (hN : tN (TP d) ≤ 100) (hb : Tb (tE (TP d)) (tN (TP d))) (hs : gI w (d, 70) 1 = nI (tN (TP d))) (ht : ∀ q, q < tN (TP d) → gL w (d, 71) q = tE (TP d) q)
    (e : prs (tE (TP d)) (tN (TP d)) R 101 0 0 = .inr l) (h12 : RL.length < 12) (h20 : l.length ≤ 20)
    (hk : ∀ w', FC w w' → IC w' R cr se c (RL ++ [(a, b, l)]) PL MK (AC A RL.length) M WT TP (v + 1) rf → Q (.inl (nI RL.length)) w') :
    Cl 23 [vO 0 14, vI a, vI b, vO d 70] w (kV fun w8 => vp_in (gI w (0, 14) 6) 12 ∧ Q (.inl (gI w (0, 14) 6)) (sI (sI w8 (1, 53) (gI w (0, 14) 6).toNatClampNeg (-2)) (0, 0) 9 (gI w8 (0, 0) 9 + 1))) := by
  have ic0 := ic
  obtain ⟨c1, c2, c3, c4, c5, c6, c7, c8, c9⟩ := ic
  have hck : CK c se R := CK.c c2.symm c1.2.2.2.2.1
  have h24 : R ≤ 24 := hck.2.1
  obtain ⟨r1, r2⟩ := c1.2.2.2.2.2.1
  have i12 : vp_in (nI RL.length) 12 := in_nI (by omega) (by omega)
  apply v_X4_add_0
  rw [r1, cl_nI (by omega)]
  refine ⟨i12, i12, ?_⟩
  apply v_X4_ordersIn_0
  refine c_count (w := sI (sI w (0, 15) RL.length a) (0, 16) RL.length b) hN h24 (by rw [sI_ne (by omega), sI_ne (by omega)]; exact hs) ht hb 101 0 0 0 l (Nat.le_refl 0) e ?_
  refine ⟨i12, ?_⟩
  rw [sI_ne (g := 0) (j := 14) (by omega), sI_ne (g := 0) (j := 14) (by omega), r1, show nI RL.length * 20 = nI (20 * RL.length) by rw [show (20 : Int32) = nI 20 from rfl, nI_ml, Nat.mul_comm], Nat.zero_add]
  refine c_add (r := RL.length) (L := l.length) hN h24 hb h12 (by omega) 101 0 0 l (20 * RL.length) _ e rfl ?_ gI_sat ht ?_
  · rw [sI_ne (by omega), sI_ne (by omega), sI_ne (by omega)]; exact r1
  intro w8 q1 q2
  refine ⟨i12, ?_⟩
  have f3 : ∀ g j, ¬ (g = 0 ∧ 15 ≤ j ∧ j ≤ 17) → gI (sI (sI (sI w (0, 15) RL.length a) (0, 16) RL.length b) (0, 17) RL.length (nI l.length)) (g, j) = gI w (g, j) := fun g j hh => by
    rw [sI_ne (by omega), sI_ne (by omega), sI_ne (by omega)]
  have h15 : gI (sI (sI (sI w (0, 15) RL.length a) (0, 16) RL.length b) (0, 17) RL.length (nI l.length)) (0, 15) = ub (gI w (0, 15)) RL.length a := by rw [sI_ne (by omega), sI_ne (by omega), gI_s]
  have h16 : gI (sI (sI (sI w (0, 15) RL.length a) (0, 16) RL.length b) (0, 17) RL.length (nI l.length)) (0, 16) = ub (gI w (0, 16)) RL.length b := by rw [sI_ne (by omega), gI_s, sI_ne (by omega)]
  have h17 : gI (sI (sI (sI w (0, 15) RL.length a) (0, 16) RL.length b) (0, 17) RL.length (nI l.length)) (0, 17) = ub (gI w (0, 17)) RL.length (nI l.length) := by rw [gI_s, sI_ne (by omega), sI_ne (by omega)]
  have l3 : (sI (sI (sI w (0, 15) RL.length a) (0, 16) RL.length b) (0, 17) RL.length (nI l.length)).2 = w.2 := rfl
  generalize sI (sI (sI w (0, 15) RL.length a) (0, 16) RL.length b) (0, 17) RL.length (nI l.length) = w3 at q1 f3 h15 h16 h17 l3
  have e9 : gI (sI w8 (0, 14) 6 (nI (RL.length + 1))) (0, 0) 9 + 1 = nI (v + 1) := by
    rw [sI_ne (by omega), q1.1 0 0 (by omega), f3 0 0 (by omega), c8, nI_s1]
  rw [e9]
  have g14 : gI (sI w8 (0, 14) 6 (nI (RL.length + 1))) (0, 14) 6 = nI (RL.length + 1) := gI_sat
  have g9 : ∀ g j, ¬ (g = 0 ∧ 14 ≤ j ∧ j ≤ 17) → gI (sI w8 (0, 14) 6 (nI (RL.length + 1))) (g, j) = gI w8 (g, j) := fun g j hh => sI_ne (by omega)
  have g15 : gI (sI w8 (0, 14) 6 (nI (RL.length + 1))) (0, 15) = ub (gI w (0, 15)) RL.length a := by rw [sI_ne (by omega), q1.1 0 15 (by omega), h15]
  have g16 : gI (sI w8 (0, 14) 6 (nI (RL.length + 1))) (0, 16) = ub (gI w (0, 16)) RL.length b := by rw [sI_ne (by omega), q1.1 0 16 (by omega), h16]
  have g17 : gI (sI w8 (0, 14) 6 (nI (RL.length + 1))) (0, 17) = ub (gI w (0, 17)) RL.length (nI l.length) := by rw [sI_ne (by omega), q1.1 0 17 (by omega), h17]
  have l9 : (sI w8 (0, 14) 6 (nI (RL.length + 1))).2 = w.2 := q1.2.1.trans l3
  generalize sI w8 (0, 14) 6 (nI (RL.length + 1)) = w9 at g14 g9 g15 g16 g17 l9
  have old : ∀ j z, 18 ≤ j → j ≤ 20 → z < 20 * RL.length → gI w9 (0, j) z = gI w (0, j) z := fun j z x y u => by rw [g9 0 j (by omega), q1.2.2 j z x y u, f3 0 j (by omega)]
  have fr : ∀ g j, ¬ (g = 0 ∧ 14 ≤ j ∧ j ≤ 20) → gI w9 (g, j) = gI w (g, j) := fun g j hh => by rw [g9 g j (by omega), q1.1 g j (by omega), f3 g j (by omega)]
  have frZ : ∀ g j, ¬ (g = 0 ∧ (j = 0 ∨ (14 ≤ j ∧ j ≤ 20))) → gI (sI w9 (0, 0) 9 (nI (v + 1))) (g, j) = gI w (g, j) := fun g j hh => by rw [sI_ne (by omega), fr g j (by omega)]
  have fZ : FZ w (sI w9 (0, 0) 9 (nI (v + 1))) := ⟨fun g j hh => frZ g j (by omega), l9⟩
  have ru : RUc (sI w9 (0, 0) 9 (nI (v + 1))) (RL ++ [(a, b, l)]) := by
    refine ⟨by rw [sI_ne (by omega), g14, List.length_append]; rfl, fun k x hx => ?_⟩
    rw [sI_ne (j := 15) (by omega), sI_ne (j := 16) (by omega), sI_ne (j := 17) (by omega), sI_ne (j := 18) (by omega), sI_ne (j := 19) (by omega), sI_ne (j := 20) (by omega), g15, g16, g17]
    rcases push_at hx with ⟨h1, h2⟩ | ⟨h1, h2⟩
    · rw [ub_ne (beq_f (by omega)), ub_ne (beq_f (by omega)), ub_ne (beq_f (by omega))]
      obtain ⟨y1, y2, y3, y4⟩ := r2 k x h1
      have := (c1.2.2.2.2.2.2.2 x (List.mem_of_getElem? h1)).2.1
      exact ⟨y1, y2, y3, OC_eq _ _ (fun q u1 u2 => ⟨old 18 q (by omega) (by omega) (by omega), old 19 q (by omega) (by omega) (by omega), old 20 q (by omega) (by omega) (by omega)⟩) y4⟩
    · subst h1 h2
      rw [ub_same, ub_same, ub_same, g9 0 18 (by omega), g9 0 19 (by omega), g9 0 20 (by omega), Nat.mul_comm]
      exact ⟨rfl, rfl, rfl, q2⟩
  have pk := prs_ok hN h24 hb 101 0 0 l e
  have ec : EC (sI w9 (0, 0) 9 (nI (v + 1))) R cr se (RL ++ [(a, b, l)]) := by
    refine ⟨by rw [frZ _ _ (by omega)]; exact c1.1, by rw [frZ _ _ (by omega)]; exact c1.2.1, by rw [frZ _ _ (by omega)]; exact c1.2.2.1, c1.2.2.2.1, CK.c (fun f hf => frZ 0 (2 + f) (by omega)) c1.2.2.2.2.1, ru, by rw [List.length_append, List.length_singleton]; omega, fun x hx => ?_⟩
    rcases List.mem_append.mp hx with h | h
    · exact c1.2.2.2.2.2.2.2 x h
    · rw [List.mem_singleton.mp h]; exact ⟨ho, h20, pk.2.1⟩
  have icZ : IC (sI w9 (0, 0) 9 (nI (v + 1))) R cr se c (RL ++ [(a, b, l)]) PL MK A M WT TP (v + 1) rf :=
    IC_Z fZ ec (c2.tr (fun f hf => frZ 0 (2 + f) (by omega))) gI_sat (by rw [gI_sN rfl, fr 0 0 (by omega)]; exact c9) (fun d hd h => TPc_up (io.2.2.2.2 d hd) h) ic0
  have fF : ∀ g j, ¬ (g = 1 ∧ j = 53) → gI (sI (sI w9 (1, 53) RL.length (-2)) (0, 0) 9 (nI (v + 1))) (g, j) = gI (sI w9 (0, 0) 9 (nI (v + 1))) (g, j) := fun g j hh => by
    by_cases x : g = 0 ∧ j = 0
    · obtain ⟨rfl, rfl⟩ := x
      rw [gI_s, gI_s, sI_ne (by omega)]
    · rw [sI_ne x, sI_ne x, sI_ne hh]
  have f53 : gI (sI (sI w9 (1, 53) RL.length (-2)) (0, 0) 9 (nI (v + 1))) (1, 53) = ub (aC A) RL.length (-2) := by
    rw [sI_ne (by omega), gI_s, fr 1 53 (by omega), c5.1.2.2.2.2.2.2.2]
  refine hk _ ?_ ?_
  · intro g j hj
    refine ⟨by rw [fF g j (by omega), frZ g j (by omega)], ?_⟩
    show w9.2 j g = w.2 j g
    rw [l9]
  · refine IC_live (fun g j hj => fF g j (by unfold inK at hj; omega)) (fun _ => rfl) ?_ icZ
    obtain ⟨⟨s0, s1, s2, s3, s4, s5, s6, s7⟩, bk⟩ := icZ.2.2.2.2.1
    refine ⟨⟨fun q hq => by rw [fF _ _ (by omega)]; exact s0 q hq, by rw [fF _ _ (by omega)]; exact s1, by rw [fF _ _ (by omega)]; exact s2, by rw [fF _ _ (by omega)]; exact s3, by rw [fF _ _ (by omega)]; exact s4, WL_fr (fun j _ _ => fF _ _ (by omega)) s5, TL_fr (fun j _ _ => fF _ _ (by omega)) s6, f53⟩, BK_fr (fun j _ _ => fF _ _ (by omega)) bk⟩
