/-! fill and town -/
theorem o_fill {n w} {a b d : Int32} (hi : Inv n w) : OP n w 61 123 [vI a, vI b, vI d] := by
  have hi0 := hi
  obtain ⟨R, cr, se, c, RL, PL, MK, A, M, WT, TP, v, rf, hv', ic, im, io⟩ := hi
  have ic0 := ic
  have im0 := im
  obtain ⟨c1, c2, c3, c4, c5, c6, c7, c8, c9⟩ := ic
  have hck : CK c se R := CK.c c2.symm c1.2.2.2.2.1
  have h24 := hck.2.1
  have hmh : gI w (1, 40) 0 = nI (aH A) := c5.1.2.1
  have h300 := io.2.2.1.2.2.1
  have fin : ∀ z, kI (fun y w2 => y = z ∧ Inv (n + 1) w2) (.inl z) w := fun z => ⟨rfl, hi0.up (by omega)⟩
  have mhr : gI w (0, 90) 30 = nI R := im0.1.1
  have mhh : gI w (1, 114) 288 = nI (aH A) := im0.2.2.2.1.2.1
  have no : ¬ ((0 ≤ a ∧ a ≤ nI R - 1) ∧ (0 ≤ b ∧ b ≤ 200000) ∧ (0 ≤ d ∧ d ≤ 200)) → kI (fun x w1 => Cl 123 (vO 0 90 :: [vI a, vI b, vI d]) w1 (kI fun y w2 => y = x ∧ Inv (n + 1) w2)) (.inl (-1)) w := by
    intro hn
    show Cl 123 [vO 0 90, vI a, vI b, vI d] w _
    apply v_X10_fill_0
    rw [mhr]
    exact ⟨bb_01, bbi (fun g1 => bbi (fun g2 => bbj (fun g3 => absurd ⟨g1, g2, g3⟩ hn) (fun _ => fin _)) (fun _ => fin _)) (fun _ => fin _)⟩
  show Cl 61 [vO 0 0, vI a, vI b, vI d] w _
  apply v_X9_fill_0
  rw [c1.1, hmh, i_le0 (by omega), i_0lt (by omega)]
  refine ⟨bb_01, bbi (fun g1 => bbi (fun g2 => bbj (fun g3 => ⟨fun h0 => ?_, fun h0 => ?_⟩) (fun y => no (fun x => y x.2.2))) (fun y => no (fun x => y x.2.1))) (fun y => no (fun x => y x.1))⟩
  · replace h0 : aH A = 0 := by omega
    obtain ⟨i, hiR, rfl⟩ := i_cell g1 hck.1 h24
    have i24 : vp_in (nI i) 24 := in_nI (by omega) (by omega)
    rw [cl_nI (by omega)]
    have hck' : CK (cS (cS c 4 i b) 5 i d) se R := CK_s (CK_s hck (q := 4) (ck_of g2 tl0 tl200k)) (q := 5) (ck_of g3 tl0 tl200)
    refine ⟨i24, i24, c_cell2 ic0 io h0 hiR ((FQ.refl.s (by omega)).s (by omega)) (ceq_s (q := 5) (by omega) (ceq_s (q := 4) (by omega) c2)) hck' (fun f j _ hj => by rw [← cS, ← cS, cS_ne hj, cS_ne hj]) ?_⟩
    intro w2 σ' ic2 st fc
    have im2 := IM_FC fc im0
    have mhr2 : gI w2 (0, 90) 30 = nI R := im2.1.1
    have mhh2 : gI w2 (1, 114) 288 = nI (aH A) := im2.2.2.2.1.2.1
    show Cl 123 [vO 0 90, vI (nI i), vI b, vI d] w2 _
    apply v_X10_fill_0
    rw [mhr2, mhh2, i_le0 (by omega), i_0lt (by omega), cl_nI (by omega)]
    refine ⟨bb_01, bbi (fun _ => bbi (fun _ => bbj (fun _ => ⟨in_nI (j := 288) (by omega) (by omega), fun _ => ⟨b01_0, fun _ => ⟨i24, i24, m_cell2 im2 io h0 hiR ((FP.refl.s (by omega)).s (by omega)) (CE_s (q := 5) (by omega) (CE_s (q := 4) (by omega) im2.2.1)) hck' st ?_⟩, fun x => absurd rfl x⟩, fun x => absurd x (by omega)⟩) (fun x => absurd g3 x)) (fun x => absurd g2 x)) (fun x => absurd g1 x)⟩
    intro w3 im3 io3 fn
    exact ⟨rfl, Inv.mk (by omega) (IC_FN fn ic2) im3 io3⟩
  · show Cl 123 [vO 0 90, vI a, vI b, vI d] w _
    apply v_X10_fill_0
    rw [mhr, mhh, i_le0 (by omega), i_0lt (by omega)]
    refine ⟨bb_01, bbi (fun _ => bbi (fun _ => bbj (fun _ => ⟨in_nI (j := 288) (by omega) (by omega), fun x => absurd h0 (by omega), fun _ => ⟨b01_1, fun x => absurd x (by decide), fun _ => fin _⟩⟩) (fun x => absurd g3 x)) (fun x => absurd g2 x)) (fun x => absurd g1 x)⟩
theorem o_town {n w} {a b d e : Int32} (hi : Inv n w) : OP n w 62 124 [vI a, vI b, vI d, vI e] := by
  have hi0 := hi
  obtain ⟨R, cr, se, c, RL, PL, MK, A, M, WT, TP, v, rf, hv', ic, im, io⟩ := hi
  have ic0 := ic
  have im0 := im
  obtain ⟨c1, c2, c3, c4, c5, c6, c7, c8, c9⟩ := ic
  have hck : CK c se R := CK.c c2.symm c1.2.2.2.2.1
  have h24 := hck.2.1
  have hmh : gI w (1, 40) 0 = nI (aH A) := c5.1.2.1
  have h300 := io.2.2.1.2.2.1
  have fin : ∀ z, kI (fun y w2 => y = z ∧ Inv (n + 1) w2) (.inl z) w := fun z => ⟨rfl, hi0.up (by omega)⟩
  have mhr : gI w (0, 90) 30 = nI R := im0.1.1
  have mhh : gI w (1, 114) 288 = nI (aH A) := im0.2.2.2.1.2.1
  have no : ¬ ((0 ≤ a ∧ a ≤ nI R - 1) ∧ (0 ≤ b ∧ b ≤ 9999) ∧ (0 ≤ d ∧ d ≤ 4000) ∧ (0 ≤ e ∧ e ≤ 100000)) → kI (fun x w1 => Cl 124 (vO 0 90 :: [vI a, vI b, vI d, vI e]) w1 (kI fun y w2 => y = x ∧ Inv (n + 1) w2)) (.inl (-1)) w := by
    intro hn
    show Cl 124 [vO 0 90, vI a, vI b, vI d, vI e] w _
    apply v_X10_town_0
    rw [mhr]
    exact ⟨bb_01, bbi (fun g1 => bbi (fun g2 => bbi (fun g3 => bbj (fun g4 => absurd ⟨g1, g2, g3, g4⟩ hn) (fun _ => fin _)) (fun _ => fin _)) (fun _ => fin _)) (fun _ => fin _)⟩
  show Cl 62 [vO 0 0, vI a, vI b, vI d, vI e] w _
  apply v_X9_town_0
  rw [c1.1, hmh, i_le0 (by omega), i_0lt (by omega)]
  refine ⟨bb_01, bbi (fun g1 => bbi (fun g2 => bbi (fun g3 => bbj (fun g4 => ⟨fun h0 => ?_, fun h0 => ?_⟩) (fun y => no (fun x => y x.2.2.2))) (fun y => no (fun x => y x.2.2.1))) (fun y => no (fun x => y x.2.1))) (fun y => no (fun x => y x.1))⟩
  · replace h0 : aH A = 0 := by omega
    obtain ⟨i, hiR, rfl⟩ := i_cell g1 hck.1 h24
    have i24 : vp_in (nI i) 24 := in_nI (by omega) (by omega)
    rw [cl_nI (by omega)]
    have hck' : CK (cS (cS (cS c 6 i b) 7 i d) 8 i e) se R := CK_s (CK_s (CK_s hck (q := 6) (ck_of g2 tl0 tl9999)) (q := 7) (ck_of g3 tl0 tl4000)) (q := 8) (ck_of g4 tl0 tl100k)
    refine ⟨i24, i24, i24, c_cell2 ic0 io h0 hiR (((FQ.refl.s (by omega)).s (by omega)).s (by omega)) (ceq_s (q := 8) (by omega) (ceq_s (q := 7) (by omega) (ceq_s (q := 6) (by omega) c2))) hck' (fun f j _ hj => by rw [← cS, ← cS, ← cS, cS_ne hj, cS_ne hj, cS_ne hj]) ?_⟩
    intro w2 σ' ic2 st fc
    have im2 := IM_FC fc im0
    have mhr2 : gI w2 (0, 90) 30 = nI R := im2.1.1
    have mhh2 : gI w2 (1, 114) 288 = nI (aH A) := im2.2.2.2.1.2.1
    show Cl 124 [vO 0 90, vI (nI i), vI b, vI d, vI e] w2 _
    apply v_X10_town_0
    rw [mhr2, mhh2, i_le0 (by omega), i_0lt (by omega), cl_nI (by omega)]
    refine ⟨bb_01, bbi (fun _ => bbi (fun _ => bbi (fun _ => bbj (fun _ => ⟨in_nI (j := 288) (by omega) (by omega), fun _ => ⟨b01_0, fun _ => ⟨i24, i24, i24, m_cell2 im2 io h0 hiR (((FP.refl.s (by omega)).s (by omega)).s (by omega)) (CE_s (q := 8) (by omega) (CE_s (q := 7) (by omega) (CE_s (q := 6) (by omega) im2.2.1))) hck' st ?_⟩, fun x => absurd rfl x⟩, fun x => absurd x (by omega)⟩) (fun x => absurd g4 x)) (fun x => absurd g3 x)) (fun x => absurd g2 x)) (fun x => absurd g1 x)⟩
    intro w3 im3 io3 fn
    exact ⟨rfl, Inv.mk (by omega) (IC_FN fn ic2) im3 io3⟩
  · show Cl 124 [vO 0 90, vI a, vI b, vI d, vI e] w _
    apply v_X10_town_0
    rw [mhr, mhh, i_le0 (by omega), i_0lt (by omega)]
    refine ⟨bb_01, bbi (fun _ => bbi (fun _ => bbi (fun _ => bbj (fun _ => ⟨in_nI (j := 288) (by omega) (by omega), fun x => absurd h0 (by omega), fun _ => ⟨b01_1, fun x => absurd x (by decide), fun _ => fin _⟩⟩) (fun x => absurd g4 x)) (fun x => absurd g3 x)) (fun x => absurd g2 x)) (fun x => absurd g1 x)⟩
