/-! mend, count */ -/
theorem nw_cons {rl rf M i} {x : M4} (hx : 0 < x.2.2.2) (h1 : 1 ≤ x.2.1) : ∀ h, nw rl rf (x :: M) i h = if x.1 = i ∧ x.2.1 ≤ h ∧ nw rl rf M i h < x.2.1 then x.2.1 else nw rl rf M i h := by
  intro h
  induction h with
  | zero => show 0 = if _ then _ else 0; rw [if_neg (by omega)]
  | succ h ih =>
    have le := nw_le (rl := rl) (rf := rf) (M := M) (i := i) h
    have e : nw rl rf (x :: M) i (h + 1) = if 0 < (cu rl rf (x :: M) i (h + 1)).2 then h + 1 else nw rl rf (x :: M) i h := rfl
    have e2 : nw rl rf M i (h + 1) = if 0 < (cu rl rf M i (h + 1)).2 then h + 1 else nw rl rf M i h := rfl
    have e3 : cu rl rf (x :: M) i (h + 1) = if x.1 = i ∧ x.2.1 = h + 1 then x.2.2 else cu rl rf M i (h + 1) := rfl
    rw [e, e3, e2, ih]
    by_cases g : x.1 = i ∧ x.2.1 = h + 1
    · rw [if_pos g, if_pos hx]
      by_cases g2 : 0 < (cu rl rf M i (h + 1)).2
      · rw [if_pos g2, if_neg (by omega)]
      · rw [if_neg g2, if_pos (by omega)]; omega
    · rw [if_neg g]
      by_cases g2 : 0 < (cu rl rf M i (h + 1)).2
      · rw [if_pos g2, if_pos g2, if_neg (by omega)]
      · rw [if_neg g2, if_neg g2]
        by_cases g3 : x.1 = i ∧ x.2.1 ≤ h ∧ nw rl rf M i h < x.2.1
        · rw [if_pos g3, if_pos (by omega)]
        · rw [if_neg g3, if_neg (by omega)]
theorem c_tellAnew {w R hr rl rf M k} {i h : Nat} {l : Int32} (hbk : BK w 1 R hr rl rf M) (hM : M.length < 40) (hi : i < R) (h24 : R ≤ 24) (h1 : 1 ≤ h) (hh : h ≤ hr) (h300 : hr ≤ 300)
    (hk : ∀ w', BK w' 1 R hr rl rf ((i, h, l, hr + 1) :: M) → BkF 1 w w' → k w') : Cl 8 [vO 1 62, vI (nI h), vI (nI i), vI l, vI (nI hr)] w (kV k) := by
  obtain ⟨q1, q2, q3, q4⟩ := hbk
  have hh24 : h * 24 ≤ hr * 24 := Nat.mul_le_mul_right _ hh
  obtain ⟨o1, o2⟩ := q3 i h hi h1 hh
  apply v_X1_tellAnew_0
  rw [show len 1 63 = 9528 from rfl, show len 1 64 = 9528 from rfl, q1, ix_b, cl_nI (by omega), cl_nI (by omega), o1, o2, nI_s1, nI_s1]
  have iM : vp_in (nI M.length) 40 := in_nI hM (by omega)
  have ip : vp_in (nI (h * 24 + i)) 9528 := in_nI (by omega) (by omega)
  refine ⟨iM, ip, iM, ip, iM, ip, ip, ?_⟩
  generalize hw1 : sI (sI (sI (sI (sI (sI w (1, 66) M.length (nI (h * 24 + i))) (1, 67) M.length (cu rl rf M i h).1) (1, 68) M.length (nI (cu rl rf M i h).2)) (1, 62) 6 (nI (M.length + 1))) (1, 63) (h * 24 + i) l) (1, 64) (h * 24 + i) (nI (hr + 1)) = w1
  have f62 : gI w1 (1, 62) 6 = nI (M.length + 1) := by rw [← hw1, sI_ne (by omega), sI_ne (by omega), gI_sat]
  have f66 : gI w1 (1, 66) = ub (gI w (1, 66)) M.length (nI (h * 24 + i)) := by rw [← hw1, sI_ne (by omega), sI_ne (by omega), sI_ne (by omega), sI_ne (by omega), sI_ne (by omega), gI_s]
  have f67 : gI w1 (1, 67) = ub (gI w (1, 67)) M.length (cu rl rf M i h).1 := by rw [← hw1, sI_ne (by omega), sI_ne (by omega), sI_ne (by omega), sI_ne (by omega), gI_s, sI_ne (by omega)]
  have f68 : gI w1 (1, 68) = ub (gI w (1, 68)) M.length (nI (cu rl rf M i h).2) := by rw [← hw1, sI_ne (by omega), sI_ne (by omega), sI_ne (by omega), gI_s, sI_ne (by omega), sI_ne (by omega)]
  have f63 : gI w1 (1, 63) = ub (gI w (1, 63)) (h * 24 + i) l := by rw [← hw1, sI_ne (by omega), gI_s, sI_ne (by omega), sI_ne (by omega), sI_ne (by omega), sI_ne (by omega)]
  have f64 : gI w1 (1, 64) = ub (gI w (1, 64)) (h * 24 + i) (nI (hr + 1)) := by rw [← hw1, gI_s, sI_ne (by omega), sI_ne (by omega), sI_ne (by omega), sI_ne (by omega), sI_ne (by omega)]
  have f65 : gI w1 (1, 65) = gI w (1, 65) := by rw [← hw1, sI_ne (by omega), sI_ne (by omega), sI_ne (by omega), sI_ne (by omega), sI_ne (by omega), sI_ne (by omega)]
  have fr1 : BkF 1 w w1 := ⟨by rw [← hw1]; rfl, fun g j hh => by rw [← hw1, sI_ne (by omega), sI_ne (by omega), sI_ne (by omega), sI_ne (by omega), sI_ne (by omega), sI_ne (by omega)]⟩
  clear hw1
  have nx := fun h' => nw_cons (rl := rl) (rf := rf) (M := M) (i := i) (x := (i, h, l, hr + 1)) (Nat.succ_pos _) h1 h'
  have main : ∀ z h' w', h' + z = hr + 1 → h ≤ h' → BkF 1 w w' → (∀ j, (j = 62 ∨ (63 ≤ j ∧ j ≤ 68 ∧ ¬ j = 65)) → gI w' (1, j) = gI w1 (1, j)) → (∀ i' h2, (i' < R ∨ (i' < 24 ∧ h2 = 0)) → h2 ≤ hr → gI w' (1, 65) (h2 * 24 + i') = if i' = i ∧ h ≤ h2 ∧ h2 < h' then nI (nw rl rf ((i, h, l, hr + 1) :: M) i h2) else nI (nw rl rf M i' h2)) →
      Wp 8 83 [some (.inr (.inr (1, 62))), some (.inl (nI h)), some (.inl (nI i)), none, some (.inl (nI hr)), none, some (.inl (nI h')), none] [] w' (kV k) := by
    intro z
    induction z with
    | zero =>
      intro h' w' hz hle fr hj h65
      apply v_X1_tellAnew_83
      refine ⟨fun _ => hk w' ⟨?_, ?_, fun i' h2 hi' a1 a2 => ?_, fun i' h2 hi' a2 => ?_⟩ fr, fun e => absurd e (by rw [le_nI (by omega) (by omega)]; omega)⟩
      · rw [hj 62 (by omega)]; exact f62
      · rw [hj 66 (by omega), hj 67 (by omega), hj 68 (by omega), f66, f67, f68]
        refine ⟨ub_same, ub_same, ub_same, ?_⟩
        have ul : ∀ l2 : List M4, l2.length ≤ M.length → UL rl rf (gI w (1, 66)) (gI w (1, 67)) (gI w (1, 68)) l2 → UL rl rf (ub (gI w (1, 66)) M.length (nI (h * 24 + i))) (ub (gI w (1, 67)) M.length (cu rl rf M i h).1) (ub (gI w (1, 68)) M.length (nI (cu rl rf M i h).2)) l2 := by
          intro l2
          induction l2 with
          | nil => intro _ _; exact trivial
          | cons x l2 ih =>
            intro hl hu
            rw [List.length_cons] at hl
            obtain ⟨u1, u2, u3, u4⟩ := hu
            exact ⟨by rw [ub_ne (beq_f (by omega))]; exact u1, by rw [ub_ne (beq_f (by omega))]; exact u2, by rw [ub_ne (beq_f (by omega))]; exact u3, ih (by omega) u4⟩
        exact ul M (Nat.le_refl _) q2
      · rw [hj 63 (by omega), hj 64 (by omega), f63, f64, ub_eq, ub_eq]
        have e : cu rl rf ((i, h, l, hr + 1) :: M) i' h2 = if i = i' ∧ h = h2 then (l, hr + 1) else cu rl rf M i' h2 := rfl
        rw [e]
        by_cases g : i = i' ∧ h = h2
        · obtain ⟨rfl, rfl⟩ := g
          rw [if_pos rfl, if_pos rfl, if_pos ⟨rfl, rfl⟩]; exact ⟨rfl, rfl⟩
        · simp only [if_neg g, if_neg (show ¬ h2 * 24 + i' = h * 24 + i by omega)]; exact q3 i' h2 hi' a1 a2
      · rw [h65 i' h2 hi' a2]
        by_cases g : i' = i
        · subst g
          by_cases g2 : h ≤ h2
          · rw [if_pos ⟨rfl, g2, by omega⟩]
          · have n2 : nw rl rf ((i', h, l, hr + 1) :: M) i' h2 = nw rl rf M i' h2 := by rw [nx h2]; exact if_neg (fun x => g2 x.2.1)
            rw [if_neg (fun x => g2 x.2.1), n2]
        · rw [if_neg (fun x => g x.1)]
          have := nw_cons (rl := rl) (rf := rf) (M := M) (i := i') (x := (i, h, l, hr + 1)) (Nat.succ_pos _) h1 h2
          rw [this, if_neg (fun x => g x.1.symm)]
    | succ z ih =>
      intro h' w' hz hle fr hj h65
      have hh' : h' * 24 ≤ hr * 24 := Nat.mul_le_mul_right _ (by omega)
      have ip' : vp_in (nI (h' * 24 + i)) 9528 := in_nI (by omega) (by omega)
      have le := nw_le (rl := rl) (rf := rf) (M := M) (i := i) h'
      apply v_X1_tellAnew_83
      rw [show len 1 65 = 9528 from rfl, ix_b, cl_nI (by omega), h65 i h' (Or.inl hi) (by omega), if_neg (by omega), nI_s1]
      refine ⟨fun e => absurd e (by rw [lt_nI (by omega) (by omega)]; omega), fun _ => ⟨ip', ip', ?_⟩⟩
      refine ih (h' + 1) _ (by omega) (by omega) ⟨fr.1, fun g j hh => by rw [sI_ne (by omega)]; exact fr.2 g j hh⟩ (fun j hj' => by rw [sI_ne (by omega)]; exact hj j hj') (fun i' h2 hi' a2 => ?_)
      have old := h65 i' h2 hi' a2
      rw [gI_s, ub_eq]
      by_cases g : i' = i ∧ h2 = h'
      · obtain ⟨rfl, rfl⟩ := g
        rw [if_pos rfl, if_pos ⟨rfl, hle, by omega⟩, nx h2]
        unfold jmax
        by_cases g3 : nw rl rf M i' h2 < h
        · rw [if_pos ((lt_nI (by omega) (by omega)).mpr g3), if_pos ⟨rfl, hle, g3⟩]
        · rw [if_neg (fun x => g3 ((lt_nI (by omega) (by omega)).mp x)), if_neg (fun x => g3 x.2.2)]
      · rw [if_neg (by omega), old]
        by_cases g2 : i' = i ∧ h ≤ h2 ∧ h2 < h'
        · rw [if_pos g2, if_pos (by omega)]
        · rw [if_neg g2, if_neg (by omega)]
  refine main (hr + 1 - h) h w1 (by omega) (Nat.le_refl _) fr1 (fun j _ => rfl) (fun i' h2 hi' a2 => ?_)
  rw [f65, if_neg (by omega)]; exact q4 i' h2 hi' a2
theorem o_mend {n w} {a b d : Int32} (hi : Inv n w) : OP n w 76 159 [vI a, vI b, vI d] := by
  have hi0 := hi
  obtain ⟨R, cr, se, c, RL, PL, MK, A, M, WT, TP, v, rf, hv', ic, im, io⟩ := hi
  have ic0 := ic
  have im0 := im
  obtain ⟨c1, c2, c3, c4, c5, c6, c7, c8, c9⟩ := ic
  obtain ⟨m1, m2, m3, m4, m5, m6, m7, m8⟩ := im
  have hck : CK c se R := CK.c c2.symm c1.2.2.2.2.1
  have h24 := hck.2.1
  have h300 := io.2.2.1.2.2.1
  have hb := io.2.2.1.2.1
  have M40 := hb.1
  have in8 : vp_in 288 19675 := in_nI (j := 288) (by omega) (by omega)
  have in3 : vp_in 293 19675 := in_nI (j := 293) (by omega) (by omega)
  have hch : gI w (1, 40) 0 = nI (aH A) := c5.1.2.1
  have hmh : gI w (1, 114) 288 = nI (aH A) := m4.2.1
  have hcM : gI w (1, 62) 6 = nI M.length := c5.2.1
  have bkm := m4.2.2.2.2.2.2.2.2.1
  have fin : ∀ z, kI (fun y w2 => y = z ∧ Inv (n + 1) w2) (.inl z) w := fun z => ⟨rfl, hi0.up (by omega)⟩
  have no : ¬ ((0 ≤ a ∧ a ≤ nI R - 1) ∧ (1 ≤ b ∧ b ≤ nI (aH A)) ∧ (0 ≤ d ∧ d ≤ 9999)) → kI (fun x w1 => Cl 159 (vO 0 90 :: [vI a, vI b, vI d]) w1 (kI fun y w2 => y = x ∧ Inv (n + 1) w2)) (.inl (-1)) w := by
    intro hn
    show Cl 159 [vO 0 90, vI a, vI b, vI d] w _
    apply v_X10_mend_0
    rw [m1.1, hmh]
    exact ⟨bb_01, bbi (fun g1 => ⟨in8, bbi (fun g2 => bbj (fun g3 => absurd ⟨g1, g2, g3⟩ hn) (fun _ => fin _)) (fun _ => fin _)⟩) (fun _ => fin _)⟩
  apply v_X9_mend_0
  rw [c1.1, hch, hcM]
  refine ⟨bb_01, bbi (fun g1 => bbi (fun g2 => bbj (fun g3 => ?_) (fun g => no (fun x => g x.2.2))) (fun g => no (fun x => g x.2.1))) (fun g => no (fun x => g x.1))⟩
  rw [show (40 : Int32) = nI 40 from rfl, lt_nI (by omega) (by omega), le_nI (by omega) (by omega)]
  refine ⟨fun g4 => ?_, fun g4 => ?_⟩
  · have g1' := g1
    have g2' := g2
    obtain ⟨i, hi', rfl⟩ := i_cell g1 hck.1 h24
    obtain ⟨h, h1, h2, rfl⟩ := i_rng (lo := 1) (hi := aH A) g2 (by omega) (by omega)
    refine c_tellAnew c5.2 g4 hi' h24 h1 h2 h300 ?_
    intro w1 q1 q2
    have fc : FC w w1 := fun g j hj => ⟨q2.2 g j (by omega), by unfold gL; rw [q2.1]⟩
    have im1 := IM_FC fc im0
    have ic1 : IC w1 R cr se c RL PL MK A ((i, h, d, aH A + 1) :: M) WT TP v rf :=
      IC_live (A := A) (M := M) (fun g j hj => q2.2 g j (by unfold inK at hj; omega)) (fun d => by unfold gL; rw [q2.1]) ⟨KC_fr (fun j a b => q2.2 _ _ (by omega)) (fun j a b => q2.2 _ _ (by omega)) (fun j a b => q2.2 _ _ (by omega)) c5.1, q1⟩ ic0
    have im2 := im1
    obtain ⟨m1, m2, m3, m4, m5, m6, m7, m8⟩ := im1
    have bkm1 := m4.2.2.2.2.2.2.2.2.1
    show Cl 159 [vO 0 90, vI (nI i), vI (nI h), vI d] w1 _
    apply v_X10_mend_0
    have hmh1 : gI w1 (1, 114) 288 = nI (aH A) := m4.2.1
    rw [m1.1, hmh1, bkm1.1, ix_m, nI_s1, nI_p2, nI_p3, cl_nI (by omega), cl_nI (by omega), cl_nI (by omega), cl_nI (by omega)]
    have ij : ∀ q, q < 4 → vp_in (nI (458 + 4 * M.length + q)) 19675 := fun q hq => in_nI (by omega) (by omega)
    refine ⟨bb_01, bbi (fun _ => ⟨in8, bbi (fun _ => bbj (fun _ => ⟨in3, fun _ => ⟨in3, ij 0 (by omega), ij 1 (by omega), ij 2 (by omega), in8, ij 3 (by omega), in3, in3, ?_⟩, fun e => absurd ((nI_inj (b := 40) (by omega) (by omega)).mp e) (by omega)⟩) (fun e => absurd g3 e)) (fun e => absurd g2' e)⟩) (fun e => absurd g1' e)⟩
    generalize hm : gI w1 (1, 114) = m at *
    have e1 : sI (sI (sI w1 (1, 114) (458 + 4 * M.length) (nI i)) (1, 114) (458 + 4 * M.length + 1) (nI h)) (1, 114) (458 + 4 * M.length + 2) d = aI w1 (1, 114) (ub (ub (ub m (458 + 4 * M.length) (nI i)) (458 + 4 * M.length + 1) (nI h)) (458 + 4 * M.length + 2) d) := by
      have : sI w1 (1, 114) (458 + 4 * M.length) (nI i) = aI w1 (1, 114) (ub m (458 + 4 * M.length) (nI i)) := by unfold sI; rw [hm]
      rw [this, sI_aI, sI_aI]
    rw [e1, gI_aI, ub_ne (show Nat.beq 288 (458 + 4 * M.length + 2) = false from beq_f (by omega)), ub_ne (show Nat.beq 288 (458 + 4 * M.length + 1) = false from beq_f (by omega)), ub_ne (show Nat.beq 288 (458 + 4 * M.length) = false from beq_f (by omega)), hmh1, nI_s1, sI_aI, gI_aI,
      ub_ne (show Nat.beq 293 (458 + 4 * M.length + 3) = false from beq_f (by omega)), ub_ne (show Nat.beq 293 (458 + 4 * M.length + 2) = false from beq_f (by omega)), ub_ne (show Nat.beq 293 (458 + 4 * M.length + 1) = false from beq_f (by omega)), ub_ne (show Nat.beq 293 (458 + 4 * M.length) = false from beq_f (by omega)), bkm1.1, nI_s1, sI_aI]
    generalize hm2 : ub (ub (ub (ub (ub m (458 + 4 * M.length) (nI i)) (458 + 4 * M.length + 1) (nI h)) (458 + 4 * M.length + 2) d) (458 + 4 * M.length + 3) (nI (aH A + 1))) 293 (nI (M.length + 1)) = m2
    have mo : ∀ q, ¬ (q = 293 ∨ (458 + 4 * M.length ≤ q ∧ q < 458 + 4 * M.length + 4)) → m2 q = m q := fun q hq => by
      rw [← hm2, ub_ne (beq_f (by omega)), ub_ne (beq_f (by omega)), ub_ne (beq_f (by omega)), ub_ne (beq_f (by omega)), ub_ne (beq_f (by omega))]
    have km : KM m2 R ((i, h, d, aH A + 1) :: M) A := by
      obtain ⟨k1, k2, k3, k4, k5, k6, k7, k8, k9, k10⟩ := m4
      have w40 := io.2.2.1.1.2.2.2.1
      have k24 := io.2.2.1.1.2.2.2.2.1
      refine ⟨fun j hj => ?_, (mo _ (by omega)).trans k2, (mo _ (by omega)).trans k3, (mo _ (by omega)).trans k4, (mo _ (by omega)).trans k5, ⟨(mo _ (by omega)).trans k6.1, fun q x hx => ?_⟩, ⟨(mo _ (by omega)).trans k7.1, fun q x hx => ?_⟩, fun r hr => (mo _ (by omega)).trans (k8 r hr), ⟨?_, ⟨?_, ?_, ?_, ?_, ?_⟩, fun j h' hj hh' => ?_⟩, k10⟩
      · have e : ∀ f, f < 12 → m2 (12 * j + f) = m (12 * j + f) := fun f hf => mo _ (by omega)
        have := k1 j hj
        simp only [e 0 (by omega), e 1 (by omega), e 2 (by omega), e 3 (by omega), e 4 (by omega), e 5 (by omega), e 6 (by omega), e 7 (by omega), e 8 (by omega), e 9 (by omega), e 10 (by omega), e 11 (by omega)]
        exact this
      · have hq : q < (aW A).length := (List.getElem?_eq_some_iff.mp hx).1
        rw [mo _ (by omega), mo _ (by omega)]; exact k6.2 q x hx
      · have hq : q < (aK A).length := (List.getElem?_eq_some_iff.mp hx).1
        rw [mo _ (by omega), mo _ (by omega), mo _ (by omega)]; exact k7.2 q x hx
      · rw [← hm2, ub_same]; rfl
      · rw [← hm2, ub_ne (beq_f (by omega)), ub_ne (beq_f (by omega)), ub_ne (beq_f (by omega)), ub_ne (beq_f (by omega)), ub_same]
      · rw [← hm2, ub_ne (beq_f (by omega)), ub_ne (beq_f (by omega)), ub_ne (beq_f (by omega)), ub_same]
      · rw [← hm2, ub_ne (beq_f (by omega)), ub_ne (beq_f (by omega)), ub_same]
      · rw [← hm2, ub_ne (beq_f (by omega)), ub_same]
      · have ml : ∀ l : List M4, l.length ≤ M.length → ML m l → ML m2 l := by
          intro l
          induction l with
          | nil => intro _ _; exact trivial
          | cons x l ih =>
            intro hl hm'
            rw [List.length_cons] at hl
            obtain ⟨u1, u2, u3, u4, u5⟩ := hm'
            exact ⟨by rw [mo _ (by omega)]; exact u1, by rw [mo _ (by omega)]; exact u2, by rw [mo _ (by omega)]; exact u3, by rw [mo _ (by omega)]; exact u4, ih (by omega) u5⟩
        exact ml M (Nat.le_refl _) k9.2.1
      · rw [mo _ (by omega), mo _ (by omega)]; exact k9.2.2 j h' hj hh'
    refine ⟨rfl, Inv.mk (by omega) (IC_FN (FN_a (by omega)) ic1) (IM_live (fun g j hj => aI_ne (by omega)) (fun q _ _ => by rw [aI_ne (by omega)]) rfl (by rw [gI_aI]; exact km) im2) (IO_live io ⟨io.2.2.1.1, ⟨?_, fun x hx => ?_, hb.2.2⟩, h300, io.2.2.1.2.2.2⟩)⟩
    · rw [List.length_cons]; omega
    · rcases List.mem_cons.mp hx with h' | h'
      · rw [h']
        refine ⟨hi', h1, h2, Nat.succ_pos _, Nat.le_refl _, ?_⟩
        have := g3.1; rw [ti_le, tl0] at this; exact this
      · exact hb.2.1 x h'
  · show Cl 159 [vO 0 90, vI a, vI b, vI d] w _
    apply v_X10_mend_0
    rw [m1.1, hmh, bkm.1]
    refine ⟨bb_01, bbi (fun _ => ⟨in8, bbi (fun _ => bbj (fun _ => ⟨in3, fun e => absurd (by rw [show M.length = 40 by omega]; rfl) e, fun _ => fin _⟩) (fun e => absurd g3 e)) (fun e => absurd g2 e)⟩) (fun e => absurd g1 e)⟩
theorem o_count {n w} {a : Int32} (hi : Inv n w) : OP n w 94 185 [vI a] := by
  have hi0 := hi
  obtain ⟨R, cr, se, c, RL, PL, MK, A, M, WT, TP, v, rf, hv', ic, im, io⟩ := hi
  obtain ⟨c1, c2, c3, c4, c5, c6, c7, c8, c9⟩ := ic
  obtain ⟨m1, m2, m3, m4, m5, m6, m7, m8⟩ := im
  have hck : CK c se R := CK.c c2.symm c1.2.2.2.2.1
  have h24 := hck.2.1
  have fin : ∀ z, kI (fun y w2 => y = z ∧ Inv (n + 1) w2) (.inl z) w := fun z => ⟨rfl, hi0.up (by omega)⟩
  have x0 : gI w (0, 1) 0 = nI R := c1.1
  have x1 : gI w (1, 40) 0 = nI (aH A) := c5.1.2.1
  have x2 : gI w (1, 40) 1 = aM A := c5.1.2.2.1
  have x3 : gI w (102, 54) 3 = nI (aW A).length := c5.1.2.2.2.2.2.1.1
  have x4 : gI w (1, 40) 2 = aD A := c5.1.2.2.2.1
  have x5 : gI w (0, 14) 6 = nI RL.length := c1.2.2.2.2.2.1.1
  have x6 : gI w (99, 54) 3 = nI PL.length := c3.1
  have x7 : gI w (0, 25) 3 = nI MK.length := c4.1
  have y0 : gI w (0, 90) 30 = nI R := m1.1
  have y1 : gI w (1, 114) 288 = nI (aH A) := m4.2.1
  have y2 : gI w (1, 114) 289 = aM A := m4.2.2.1
  have y3 : gI w (1, 114) 290 = nI (aW A).length := m4.2.2.2.2.2.1.1
  have y4 : gI w (1, 114) 291 = aD A := m4.2.2.2.1
  have y5 : gI w (0, 90) 33 = nI RL.length := m1.2.2.2.2.1.1
  have y6 : gI w (0, 90) 34 = nI PL.length := m1.2.2.2.2.2.2.1.1
  have y7 : gI w (0, 90) 35 = nI MK.length := m3.1
  apply v_X9_count_0
  rw [x0, x1, x2, x3, x4, x5, x6, x7, c9]
  have mm : ∀ x, (Cl 185 [vO 0 90, vI a] w (kI fun y w2 => y = x ∧ Inv (n + 1) w2)) → kI (fun x w1 => Cl 185 (vO 0 90 :: [vI a]) w1 (kI fun y w2 => y = x ∧ Inv (n + 1) w2)) (.inl x) w := fun x h => h
  refine ⟨fun e => mm _ ?_, fun n0 => ⟨fun e => mm _ ?_, fun n1 => ⟨fun e => mm _ ?_, fun n2 => ⟨fun e => mm _ ?_, fun n3 => ⟨fun e => mm _ ?_, fun n4 => ⟨fun e => mm _ ?_, fun n5 => ⟨fun e => mm _ ?_, fun n6 => ⟨fun e => mm _ ?_, fun n7 => ⟨fun e => ?_, fun n8 => ⟨fun e => mm _ ?_, fun n9 => mm _ ?_⟩⟩⟩⟩⟩⟩⟩⟩⟩⟩
  · subst e
    apply v_X10_count_0
    rw [y0, y1, y2, y3, y4, y5, y6, y7, m8]
    exact ⟨fun _ => fin _, fun e => absurd rfl e⟩
  · subst e
    apply v_X10_count_0
    rw [y0, y1, y2, y3, y4, y5, y6, y7, m8]
    exact ⟨fun e => absurd e (by decide), fun _ => ⟨fun _ => ⟨in_nI (j := 288) (by omega) (by omega), fin _⟩, fun e => absurd rfl e⟩⟩
  · subst e
    apply v_X10_count_0
    rw [y0, y1, y2, y3, y4, y5, y6, y7, m8]
    exact ⟨fun e => absurd e (by decide), fun _ => ⟨fun e => absurd e (by decide), fun _ => ⟨fun _ => ⟨in_nI (j := 289) (by omega) (by omega), fin _⟩, fun e => absurd rfl e⟩⟩⟩
  · subst e
    apply v_X10_count_0
    rw [y0, y1, y2, y3, y4, y5, y6, y7, m8]
    exact ⟨fun e => absurd e (by decide), fun _ => ⟨fun e => absurd e (by decide), fun _ => ⟨fun e => absurd e (by decide), fun _ => ⟨fun _ => ⟨in_nI (j := 290) (by omega) (by omega), fin _⟩, fun e => absurd rfl e⟩⟩⟩⟩
  · subst e
    apply v_X10_count_0
    rw [y0, y1, y2, y3, y4, y5, y6, y7, m8]
    exact ⟨fun e => absurd e (by decide), fun _ => ⟨fun e => absurd e (by decide), fun _ => ⟨fun e => absurd e (by decide), fun _ => ⟨fun e => absurd e (by decide), fun _ => ⟨fun _ => ⟨in_nI (j := 291) (by omega) (by omega), fin _⟩, fun e => absurd rfl e⟩⟩⟩⟩⟩
  · subst e
    apply v_X10_count_0
    rw [y0, y1, y2, y3, y4, y5, y6, y7, m8]
    exact ⟨fun e => absurd e (by decide), fun _ => ⟨fun e => absurd e (by decide), fun _ => ⟨fun e => absurd e (by decide), fun _ => ⟨fun e => absurd e (by decide), fun _ => ⟨fun e => absurd e (by decide), fun _ => ⟨fun _ => fin _, fun e => absurd rfl e⟩⟩⟩⟩⟩⟩
  · subst e
    apply v_X10_count_0
    rw [y0, y1, y2, y3, y4, y5, y6, y7, m8]
    exact ⟨fun e => absurd e (by decide), fun _ => ⟨fun e => absurd e (by decide), fun _ => ⟨fun e => absurd e (by decide), fun _ => ⟨fun e => absurd e (by decide), fun _ => ⟨fun e => absurd e (by decide), fun _ => ⟨fun e => absurd e (by decide), fun _ => ⟨fun _ => fin _, fun e => absurd rfl e⟩⟩⟩⟩⟩⟩⟩
  · subst e
    apply v_X10_count_0
    rw [y0, y1, y2, y3, y4, y5, y6, y7, m8]
    exact ⟨fun e => absurd e (by decide), fun _ => ⟨fun e => absurd e (by decide), fun _ => ⟨fun e => absurd e (by decide), fun _ => ⟨fun e => absurd e (by decide), fun _ => ⟨fun e => absurd e (by decide), fun _ => ⟨fun e => absurd e (by decide), fun _ => ⟨fun e => absurd e (by decide), fun _ => ⟨fun _ => fin _, fun e => absurd rfl e⟩⟩⟩⟩⟩⟩⟩⟩
  · subst e
    apply v_X5_looseIce_0
    have main : ∀ z i acc, i + z = R → (∀ x, (Wp 185 114 [some (.inr (.inr (0, 90))), none, some (.inl acc), some (.inl (nI i))] [] w (kI fun y w2 => y = x ∧ Inv (n + 1) w2)) → Wp 185 114 [some (.inr (.inr (0, 90))), none, some (.inl 0), some (.inl 0)] [] w (kI fun y w2 => y = x ∧ Inv (n + 1) w2)) →
        Wp 28 4 [some (.inr (.inr (1, 40))), some (.inl (nI R)), some (.inl acc), some (.inl (nI i))] [] w (kI fun x w1 => kI (fun x w1 => Cl 185 (vO 0 90 :: [vI 8]) w1 (kI fun y w2 => y = x ∧ Inv (n + 1) w2)) (.inl x) w1) := by
      intro z
      induction z with
      | zero =>
        intro i acc hi h
        obtain rfl : i = R := by omega
        apply v_X5_looseIce_4
        refine ⟨fun _ => mm _ ?_, fun e => absurd e (by rw [lt_nI (by omega) (by omega)]; omega)⟩
        apply v_X10_count_0
        refine ⟨fun e => absurd e (by decide), fun _ => ⟨fun e => absurd e (by decide), fun _ => ⟨fun e => absurd e (by decide), fun _ => ⟨fun e => absurd e (by decide), fun _ => ⟨fun e => absurd e (by decide), fun _ => ⟨fun e => absurd e (by decide), fun _ => ⟨fun e => absurd e (by decide), fun _ => ⟨fun e => absurd e (by decide), fun _ => ⟨fun _ => h _ ?_, fun e => absurd rfl e⟩⟩⟩⟩⟩⟩⟩⟩⟩
        apply v_X10_count_114
        rw [y0]
        exact ⟨fun _ => fin _, fun e => absurd e (by rw [lt_nI (by omega) (by omega)]; omega)⟩
      | succ z ih =>
        intro i acc hi h
        have hi' : i < R := by omega
        have rel := m4.1 i hi'
        dsimp only at rel
        obtain ⟨_, _, _, r3, r4, _⟩ := rel
        have s3 : gI w (1, 44) i = aS A 3 i := congrFun (c5.1.1 3 (by omega)) i
        have s4 : gI w (1, 45) i = aS A 4 i := congrFun (c5.1.1 4 (by omega)) i
        have in24 : vp_in (nI i) 24 := in_nI (by omega) (by omega)
        apply v_X5_looseIce_4
        rw [cl_nI (by omega), s3, s4, nI_s1]
        refine ⟨fun e => absurd e (by rw [le_nI (by omega) (by omega)]; omega), fun _ => ⟨in24, in24, ih (i + 1) _ (by omega) (fun x hx => h x ?_)⟩⟩
        apply v_X10_count_114
        rw [y0, ix_3, ix_4, cl_nI (by omega), cl_nI (by omega), r3, r4, nI_s1]
        exact ⟨fun e => absurd e (by rw [le_nI (by omega) (by omega)]; omega), fun _ => ⟨in_nI (by omega) (by omega), in_nI (by omega) (by omega), hx⟩⟩
    exact main R 0 0 (Nat.zero_add _) (fun x hx => hx)
  · subst e
    apply v_X10_count_0
    rw [y0, y1, y2, y3, y4, y5, y6, y7, m8]
    exact ⟨fun e => absurd e (by decide), fun _ => ⟨fun e => absurd e (by decide), fun _ => ⟨fun e => absurd e (by decide), fun _ => ⟨fun e => absurd e (by decide), fun _ => ⟨fun e => absurd e (by decide), fun _ => ⟨fun e => absurd e (by decide), fun _ => ⟨fun e => absurd e (by decide), fun _ => ⟨fun e => absurd e (by decide), fun _ => ⟨fun e => absurd e (by decide), fun _ => ⟨fun _ => fin _, fun e => absurd rfl e⟩⟩⟩⟩⟩⟩⟩⟩⟩⟩
  · apply v_X10_count_0
    exact ⟨fun e => absurd e n0, fun _ => ⟨fun e => absurd e n1, fun _ => ⟨fun e => absurd e n2, fun _ => ⟨fun e => absurd e n3, fun _ => ⟨fun e => absurd e n4, fun _ => ⟨fun e => absurd e n5, fun _ => ⟨fun e => absurd e n6, fun _ => ⟨fun e => absurd e n7, fun _ => ⟨fun e => absurd e n8, fun _ => ⟨fun e => absurd e n9, fun _ => fin _⟩⟩⟩⟩⟩⟩⟩⟩⟩⟩
