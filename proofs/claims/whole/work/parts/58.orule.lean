/-! RULE, THE CALL -/
theorem mv_neg {q : Nat} (h : q ≤ 100) : ¬ (0 ≤ (-1 : Int32) - nI q) ∧ (-1 : Int32) - nI q < 0 := by
  have e : ((-1 : Int32) - nI q).toInt = -1 - (q : Int) := by
    rw [ti_sub (by rw [ti_nI (by omega), show (-1 : Int32).toInt = -1 from rfl]; omega) (by rw [ti_nI (by omega), show (-1 : Int32).toInt = -1 from rfl]; omega), ti_nI (by omega)]; rfl
  rw [ti_le, ti_lt, e, tl0]; omega
theorem o_rule {n w} {a b e : Int32} (hi : Inv n w) : OP n w 68 136 [vI a, vI b, vI e] := by
  have hi0 := hi
  obtain ⟨R, cr, se, c, RL, PL, MK, A, M, WT, TP, v, rf, hv', ic, im, io⟩ := hi
  have hck : CK c se R := CK.c ic.2.1.symm ic.1.2.2.2.2.1
  have h24 : R ≤ 24 := hck.2.1
  have rl12 : RL.length ≤ 12 := ic.1.2.2.2.2.2.2.1
  have fin : ∀ z, kI (fun y w2 => y = z ∧ Inv (n + 1) w2) (.inl z) w := fun z => ⟨rfl, hi0.up (by omega)⟩
  have rf0 : ∀ z, (∀ w1, IC w1 R cr se c RL PL MK A M WT TP v (rf + 1) → IM w1 R cr se c RL PL MK A M WT TP v rf → Cl 136 [vO 0 90, vI a, vI b, vI e] w1 (kI fun y w2 => y = z ∧ Inv (n + 1) w2)) → kI (fun z w1 => Cl 136 (vO 0 90 :: [vI a, vI b, vI e]) w1 (kI fun y w2 => y = z ∧ Inv (n + 1) w2)) (.inl z) (sI w (0, 0) 10 (gI w (0, 0) 10 + 1)) :=
    fun z h => h _ (ic_ref ic) (IM_FC (FC_s (by omega)) im)
  apply v_X9_rule_0
  refine c_isAct ic.1.1 hck.1 h24 ic.2.1 ⟨fun g => ?_, fun g => ⟨bb_01, bbj (fun g1 => ?_) (fun g1 => ?_)⟩⟩
  · show Cl 136 [vO 0 90, vI a, vI b, vI e] w _
    apply v_X10_rule_0
    exact m_isAct im.1.1 hck.1 h24 im.2.1 ⟨fun _ => fin _, fun x => absurd g x⟩
  · have ab : actOK R (a, b) := actB_ok hck.1 h24 (ib_t g)
    have g1' := g1
    obtain ⟨d, hd, rfl⟩ := i_d g1
    have i6 : vp_in (nI d) 6 := in_nI hd (by omega)
    obtain ⟨t1, t2, t3⟩ := ic.2.2.2.2.2.2.1 d hd
    obtain ⟨p1, p2, p3⟩ := io.2.2.2.2 d hd
    have dv : ∀ q, q ≤ 5 → ((nI (tS (TP d)) = nI q) ↔ tS (TP d) = q) := fun q hq => nI_inj (by omega) (by omega)
    rw [cl_nI (by omega), t1, ic.1.1]
    refine ⟨i6, fun g2 => ⟨fun g3 => ?_, fun g3 => ?_⟩, fun g2 => ?_⟩
    · have s1 := (dv 1 (by omega)).mp g3
      obtain ⟨t4, t5⟩ := t2 (by omega)
      obtain ⟨n1, n2⟩ := p2 (by omega)
      have hb : Tb (tE (TP d)) (tN (TP d)) := n2 s1
      have mdl : ∀ w1 (k : Int32 → PW → Prop), IM w1 R cr se c RL PL MK A M WT TP v rf →
          ((0 ≤ mv 0 (prs (tE (TP d)) (tN (TP d)) R 101 0 0) → (nI RL.length = 12 → k (-2) w1) ∧ (¬ nI RL.length = 12 → (mv 0 (prs (tE (TP d)) (tN (TP d)) R 101 0 0) ≤ 20 → Wp 136 100 [t9, none, none, i9 (nI d), none, none, i9 0] [] (sI (sI w1 (0, 105) RL.length a) (0, 106) RL.length b) (kI k)) ∧ (20 < mv 0 (prs (tE (TP d)) (tN (TP d)) R 101 0 0) → k (-2) w1))) ∧
           (mv 0 (prs (tE (TP d)) (tN (TP d)) R 101 0 0) < 0 → k (-100 + mv 0 (prs (tE (TP d)) (tN (TP d)) R 101 0 0) + 1) w1)) →
          Cl 136 [vO 0 90, vI a, vI b, vI (nI d)] w1 (kI k) := by
        intro w1 k im1 hk
        obtain ⟨u1, u2, u3⟩ := im1.2.2.2.2.2.1 d hd
        obtain ⟨u4, u5⟩ := u2 (by omega)
        apply v_X10_rule_0
        refine m_isAct im1.1.1 hck.1 h24 im1.2.1 ⟨fun x => absurd x g, fun _ => ⟨bb_01, bbj (fun _ => ?_) (fun x => absurd g1' x)⟩⟩
        refine m_wrongRow hd im1 p1 (fun _ => ⟨fun _ => ?_, fun x => absurd rfl x⟩) (fun x => absurd x (by omega)) (fun _ x => absurd s1 x)
        apply v_X10_orders_0
        refine m_orders hd n1 ⟨hck.1, h24⟩ im1.1.1 u4 u5 hb 101 0 0 0 (by omega) (by omega) (by omega) (by omega) ?_
        refine ⟨fun x => ?_, hk.2⟩
        have h33 : gI w1 (0, 90) 33 = nI RL.length := im1.1.2.2.2.2.1.1
        rw [h33]
        obtain ⟨k1, k2⟩ := hk.1 x
        refine ⟨k1, fun y => ⟨fun z => ?_, (k2 y).2⟩⟩
        have l12 : RL.length < 12 := by
          have : ¬ RL.length = 12 := fun o => y (by rw [o]; rfl)
          omega
        rw [cl_nI (by omega)]
        exact ⟨in_nI l12 (by omega), in_nI l12 (by omega), (k2 y).1 z⟩
      apply v_X4_firstFault_0
      refine c_fault n1 h24 t4 t5 hb 101 0 0 (by omega) (by omega) (by omega) ?_
      cases ep : prs (tE (TP d)) (tN (TP d)) R 101 0 0 with
      | inl q =>
        have hq := prs_q 101 0 0 q (by omega) ep
        obtain ⟨z1, z2⟩ := mv_neg (q := q) (by omega)
        refine ⟨fun x => ?_, fun _ => ?_⟩
        · have : nI q = -1 := x
          rw [ti_eq, ti_nI (by omega), show (-1 : Int32).toInt = -1 from rfl] at this
          omega
        · refine mdl w _ im ?_
          rw [ep]
          refine ⟨fun x => absurd x z1, fun _ => ⟨?_, hi0.up (by omega)⟩⟩
          show (-100 : Int32) + (-1 - nI q) + 1 = -100 - nI q
          grind
      | inr l =>
        have pk := prs_ok n1 h24 hb 101 0 0 l ep
        have ll : l.length < 100 := by have := pk.1; omega
        have eL : mv 0 (prs (tE (TP d)) (tN (TP d)) R 101 0 0) = nI l.length := by rw [ep]; show nI (0 + l.length) = _; rw [Nat.zero_add]
        have hge : 0 ≤ nI l.length := nI_ge0 (by omega)
        have hnl : ¬ nI l.length < 0 := Int32.not_lt.mpr hge
        rw [eL] at mdl
        have r14 : gI w (0, 14) 6 = nI RL.length := ic.1.2.2.2.2.2.1.1
        have c12 : ((12 : Int32) ≤ nI RL.length ↔ 12 ≤ RL.length) := le_nI (a := 12) (by omega) (by omega)
        have c12' : (nI RL.length < 12 ↔ RL.length < 12) := lt_nI (b := 12) (by omega) (by omega)
        have c20 : (nI l.length ≤ 20 ↔ l.length ≤ 20) := le_nI (b := 20) (by omega) (by omega)
        have c20' : ((20 : Int32) < nI l.length ↔ 20 < l.length) := lt_nI (a := 20) (by omega) (by omega)
        refine ⟨fun _ => ⟨fun x => ?_, fun x => ?_⟩, fun x => absurd rfl x⟩
        · rw [r14] at x
          have e12 : RL.length = 12 := by have := c12.mp x; omega
          exact mdl w _ im ⟨fun _ => ⟨fun _ => fin _, fun y => absurd (by rw [e12]; rfl) y⟩, fun y => absurd y hnl⟩
        · rw [r14] at x
          have l12 := c12'.mp x
          have n12 : ¬ nI RL.length = 12 := fun o => by rw [o] at x; exact absurd x (by decide)
          apply v_X4_ordersIn_0
          refine c_count n1 h24 t4 t5 hb 101 0 0 0 l (Nat.le_refl 0) ep ?_
          rw [Nat.zero_add]
          refine ⟨fun y => ?_, fun y => mdl w _ im ⟨fun _ => ⟨fun z => absurd z n12, fun _ => ⟨fun z => absurd y (Int32.not_lt.mpr z), fun _ => fin _⟩⟩, fun z => absurd z hnl⟩⟩
          have l20 := c20.mp y
          refine c_rule hd ic io ab n1 hb t4 t5 ep l12 l20 ?_
          intro w1 f1 ic1
          refine mdl w1 _ (IM_FC f1 im) ⟨fun _ => ⟨fun z => absurd z n12, fun _ => ⟨fun _ => ?_, fun z => absurd y (Int32.not_le.mpr z)⟩⟩, fun z => absurd z hnl⟩
          have im1 := IM_FC f1 im
          obtain ⟨u1, u2, u3⟩ := im1.2.2.2.2.2.1 d hd
          obtain ⟨u4, u5⟩ := u2 (by omega)
          refine m_rule hd h24 im1 io ab n1 hb u4 u5 ep l12 l20 ?_
          intro w2 f2 im2
          exact ⟨rfl, Inv.mk (by omega) (IC_FN f2 ic1) im2 ⟨io.1, io.2.1, RO_aC io.2.2.1, io.2.2.2.1, fun d hd => TPo_up (io.2.2.2.2 d hd)⟩⟩
    · refine rf0 _ (fun w1 ic1 im1 => ?_)
      apply v_X10_rule_0
      refine m_isAct im1.1.1 hck.1 h24 im1.2.1 ⟨fun x => absurd x g, fun _ => ⟨bb_01, bbj (fun _ => ?_) (fun x => absurd g1' x)⟩⟩
      exact m_wrongRow hd im1 p1 (fun x => absurd ((dv 1 (by omega)).mpr x) g3) (fun x => absurd ((dv 0 (by omega)).mpr x) g2) (fun _ _ => ⟨fun x => absurd x (by decide), fun _ => ⟨rfl, inv_ref hv' ic1 im1 io⟩⟩)
    · refine rf0 _ (fun w1 ic1 im1 => ?_)
      apply v_X10_rule_0
      refine m_isAct im1.1.1 hck.1 h24 im1.2.1 ⟨fun x => absurd x g, fun _ => ⟨bb_01, bbj (fun _ => ?_) (fun x => absurd g1' x)⟩⟩
      have s0 := (dv 0 (by omega)).mp g2
      exact m_wrongRow hd im1 p1 (fun x => absurd x (by omega)) (fun _ => ⟨fun x => absurd x (by decide), fun _ => ⟨rfl, inv_ref hv' ic1 im1 io⟩⟩) (fun x _ => absurd s0 x)
  · show Cl 136 [vO 0 90, vI a, vI b, vI e] w _
    apply v_X10_rule_0
    exact m_isAct im.1.1 hck.1 h24 im.2.1 ⟨fun x => absurd x g, fun _ => ⟨bb_01, bbj (fun x => absurd x g1) (fun _ => fin _)⟩⟩
