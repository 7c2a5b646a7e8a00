/-! at, on the model's side -/
theorem v_X10_thrown_0 {w : PW} {Q : PQ} (h : Q (.inl (gI w (0, 90) 38)) w) : Wp 109 0 [some (.inr (.inr (0, 90)))] [] w Q := Wp.run smF_ok [] [] 4 _ _ _ _ _ _ h
theorem o_thrown {w : PW} : Cl 109 [vO 0 90] w (kI fun x w1 => x = gI w (0, 90) 38 ∧ w1 = w) := by
  apply v_X10_thrown_0
  exact ⟨rfl, rfl⟩
theorem o_at {n w} {a b : Int32} (hi : Inv n w) : (atK w a b = 0 → vp_in b 100) ∧ Cl 183 [vO 0 90, vI a, vI b] w (kL fun x w1 => Inv n w1 ∧ gI w1 (0, 90) 38 = nI (atK w a b) ∧ (atK w a b = 0 → x = atV w a b)) := by
  obtain ⟨R, cr, se, c, RL, PL, MK, A, M, WT, TP, v, rf, hv', ic, im, io⟩ := hi
  have st : ∀ w1 : PW, (∀ g j, ¬ j = 90 → gI w1 (g, j) = gI w (g, j)) → (∀ q, ¬ q = 38 → gI w1 (0, 90) q = gI w (0, 90) q) → w1.2 = w.2 → Inv n w1 := fun w1 h1 h2 h3 => Inv.mk hv' (IC_FN (fun g j hj => ⟨h1 g j (by omega), by unfold gL; rw [h3]⟩) ic) (IM_fr (fun g j h => h1 g j (by omega)) (fun q _ _ => h2 q (by omega)) (by unfold gL; rw [h3]) im) io
  have s0 : ∀ y, Inv n (sI w (0, 90) 38 y) := fun y => st _ (fun g j h => gI_so (beq_f h)) (fun q h => by rw [gI_s, ub_eq, if_neg h]) rfl
  have s1 : ∀ y, Inv n (sI (sI w (0, 90) 38 0) (0, 90) 38 y) := fun y => st _ (fun g j h => (gI_so (beq_f h)).trans (gI_so (beq_f h))) (fun q h => by rw [gI_s, ub_eq, if_neg h, gI_s, ub_eq, if_neg h]) rfl
  have F : ∀ y : Nat, atK w a b = y → ¬ y = 0 → y < 5 → (vp_in b 100 → False) ∨ True → ∀ x : Int64, (Inv n (sI (sI w (0, 90) 38 0) (0, 90) 38 (nI y)) ∧ gI (sI (sI w (0, 90) 38 0) (0, 90) 38 (nI y)) (0, 90) 38 = nI (atK w a b) ∧ (atK w a b = 0 → x = atV w a b)) := fun y h h0 _ _ x => ⟨s1 _, by rw [gI_sat, h], fun h9 => absurd (h.symm.trans h9) h0⟩
  by_cases g1 : (0 : Int32) ≤ a ∧ a ≤ 5
  · have g1' := g1
    obtain ⟨d, hd, rfl⟩ := i_d g1
    have i6 : vp_in (nI d) 6 := in_nI hd (by omega)
    have ecl : (nI d).toNatClampNeg = d := cl_nI (by omega)
    obtain ⟨t1, t2, t3⟩ := ic.2.2.2.2.2.2.1 d hd
    obtain ⟨p1, p2, p3⟩ := io.2.2.2.2 d hd
    obtain ⟨u1, u2, u3⟩ := im.2.2.2.2.2.1 d hd
    have s5 : ∀ q, q ≤ 5 → ((nI (tS (TP d)) = nI q) ↔ tS (TP d) = q) := fun q hq => nI_inj (by omega) (by omega)
    have hk : atK w (nI d) b = if (1 ≤ tS (TP d) ∧ tS (TP d) ≤ 4) ∧ ((0 : Int32) ≤ b ∧ b < gI w (d, 70) 1) then 0 else 2 := by
      unfold atK
      rw [if_pos g1', ecl, t1]
      have e1 : (1 : Int32) ≤ nI (tS (TP d)) ↔ 1 ≤ tS (TP d) := by rw [show (1 : Int32) = nI 1 from rfl, le_nI (by omega) (by omega)]
      have e2 : nI (tS (TP d)) ≤ (4 : Int32) ↔ tS (TP d) ≤ 4 := by rw [show (4 : Int32) = nI 4 from rfl, le_nI (by omega) (by omega)]
      simp only [e1, e2]
    have bad : ¬ ((1 ≤ tS (TP d) ∧ tS (TP d) ≤ 4) ∧ ((0 : Int32) ≤ b ∧ b < gI w (d, 70) 1)) → atK w (nI d) b = 2 := fun h => by rw [hk, if_neg h]
    by_cases h5 : 1 ≤ tS (TP d) ∧ tS (TP d) ≤ 4
    · obtain ⟨t4, t5⟩ := t2 h5
      obtain ⟨u4, u5⟩ := u2 h5
      obtain ⟨p4, p5⟩ := p2 h5
      by_cases g3 : (0 : Int32) ≤ b ∧ b < gI w (d, 70) 1
      · have hk0 : atK w (nI d) b = 0 := by rw [hk, if_pos ⟨h5, g3⟩]
        rw [t4] at g3
        obtain ⟨i, hi', rfl⟩ : ∃ i : Nat, i < tN (TP d) ∧ b = nI i := by
          obtain ⟨i, _, h1, h2⟩ := i_rng (x := b) (lo := 0) (hi := 100) ⟨g3.1, by have := g3.2; rw [ti_lt, ti_nI (by omega)] at this; rw [ti_le, ti_nI (by omega)]; omega⟩ (by omega) (by omega)
          refine ⟨i, ?_, h2⟩
          have := g3.2; rw [h2, lt_nI (by omega) (by omega)] at this; exact this
        have ia : vp_in (nI i) 100 := in_nI (by omega) (by omega)
        refine ⟨fun _ => ia, ?_⟩
        show Cl 183 [vO 0 90, vI (nI d), vI (nI i)] w _
        apply v_X10_at_0
        rw [ecl, u1, u4, ix_100, cl_nI (by omega)]
        refine ⟨bb_01, bbj (fun _ => ⟨i6, fun y => absurd ((s5 0 (by omega)).mp y) (by omega), fun _ => ⟨i6, fun y => absurd ((s5 5 (by omega)).mp y) (by omega), fun _ => ⟨i6, bbj (fun _ => ⟨fun y => absurd rfl y, fun _ => ⟨in_nI (by omega) (by omega), s0 _, by rw [gI_sat, hk0]; rfl, fun _ => ?_⟩⟩) (fun y => absurd ⟨g3.1, (le_prd (by omega)).mpr g3.2⟩ y)⟩⟩⟩) (fun y => absurd g1' y)⟩
        unfold atV
        rw [ecl, cl_nI (by omega), t5 i hi', u5 i hi']
      · have hk2 := bad (fun h => g3 h.2)
        refine ⟨fun h => absurd (hk2.symm.trans h) (by decide), ?_⟩
        apply v_X10_at_0
        rw [ecl, u1, u4]
        refine ⟨bb_01, bbj (fun _ => ⟨i6, fun y => absurd ((s5 0 (by omega)).mp y) (by omega), fun _ => ⟨i6, fun y => absurd ((s5 5 (by omega)).mp y) (by omega), fun _ => ⟨i6, bbj (fun y => absurd (by rw [t4]; exact ⟨y.1, (le_prd (by omega)).mp y.2⟩) g3) (fun _ => ⟨fun _ => F 2 hk2 (by omega) (by omega) (Or.inr trivial) _, fun y => absurd y (by decide)⟩)⟩⟩⟩) (fun y => absurd g1' y)⟩
    · have hk2 := bad (fun h => h5 h.1)
      have hq : ¬ tS (TP d) = 0 → ¬ tS (TP d) = 5 → False := by omega
      refine ⟨fun h => absurd (hk2.symm.trans h) (by decide), ?_⟩
      apply v_X10_at_0
      rw [ecl, u1]
      refine ⟨bb_01, bbj (fun _ => ⟨i6, fun y => ⟨fun _ => F 2 hk2 (by omega) (by omega) (Or.inr trivial) _, fun y => absurd y (by decide)⟩, fun y0 => ⟨i6, fun y => ⟨fun _ => F 2 hk2 (by omega) (by omega) (Or.inr trivial) _, fun y => absurd y (by decide)⟩, fun y5 => (hq (fun q => y0 ((s5 0 (by omega)).mpr q)) (fun q => y5 ((s5 5 (by omega)).mpr q))).elim⟩⟩) (fun y => absurd g1' y)⟩
  · have hk1 : atK w a b = 1 := if_neg g1
    refine ⟨fun h => absurd (hk1.symm.trans h) (by decide), ?_⟩
    apply v_X10_at_0
    exact ⟨bb_01, bbj (fun y => absurd y g1) (fun _ => ⟨fun _ => F 1 hk1 (by omega) (by omega) (Or.inr trivial) _, fun y => absurd y (by decide)⟩)⟩
