/-! begin, on both sides */ -/
theorem SM_c {c c' : Nat → Nat → Int32} {R : Nat} {f : Nat → Int32} (h : ∀ q i, q ≤ 10 → i < R → c' q i = c q i) (hs : SM c R f) : SM c' R f := by
  refine ⟨fun b q hb hq => ?_, hs.2⟩
  rw [hs.1 b q hb hq]
  unfold sv lv
  rw [h 4 b (by omega) hb, h 5 b (by omega) hb, h 6 b (by omega) hb, h 8 b (by omega) hb, h 1 b (by omega) hb, h 2 b (by omega) hb]
theorem b_rng {a lo hi : Int32} {x y : Int} (h : lo ≤ a ∧ a ≤ hi) (hl : lo.toInt = x) (hh : hi.toInt = y) (h0 : 0 ≤ x) : ∃ i : Nat, x ≤ (i : Int) ∧ (i : Int) ≤ y ∧ a = nI i := by
  have h1 := h.1; have h2 := h.2
  rw [ti_le, hl] at h1; rw [ti_le, hh] at h2
  have := ti_b a
  exact ⟨a.toInt.toNat, by omega, by omega, by rw [ti_eq, ti_nI (by omega)]; omega⟩
theorem WTo_0 : WTo 1 (fun _ => 0) (fun _ => 0) := ⟨Nat.le_refl _, by omega, fun q _ => ⟨by rw [tl0]; omega, by rw [tl0]; omega⟩⟩
theorem o_begin {n w} {a : Int32} (hi : Inv n w) : OP n w 59 115 [vI a] := by
  have hi0 := hi
  obtain ⟨R, cr, se, c, RL, PL, MK, A, M, WT, TP, v, rf, hv', ic, im, io⟩ := hi
  have ic0 := ic
  have im0 := im
  obtain ⟨c1, c2, c3, c4, c5, c6, c7, c8, c9⟩ := ic
  show Cl 59 [vO 0 0, vI a] w _
  apply v_X9_begin_0
  refine bbj (fun g => ?_) (fun g => ?_)
  · obtain ⟨N, h2, h24, rfl⟩ := b_rng g tl2 (show (24 : Int32).toInt = 24 from rfl) (by omega)
    refine c_layOut (by omega) (by omega) ?_
    intro w1 σ ca q0 q1 r0 r1 r2 r3 r4 r5 r6 r7 r8 r9 s1 s2 s3 s4
    have fc : FC w w1 := fun a j hj => ⟨q1 a j (by omega), by unfold gL; rw [q0]⟩
    have hck : CK (cf w1) 0 N := lo_CK (by omega) (by omega) r3
    have ic1 : IC w1 N 2 0 (cf w1) [] [] [] (asS σ 0 [] [] ca) [] (fun _ => (1, fun _ => 0, fun _ => 0)) TP (v + 1) 0 := by
      refine ⟨⟨r0, r1, r2, by omega, hck, ⟨r5, fun r x hx => by cases hx⟩, ⟨Nat.zero_le _, fun x hx => by cases hx⟩⟩, ceq.refl, ⟨r6, fun r x hx => by cases hx⟩, ⟨r7, fun r x hx => by cases hx⟩, ⟨s1, start_BK s4 (fun i hi => ?_) (by omega)⟩, fun b hb => clm_WTc (r4 b hb), fun d hd => ?_, ?_, r8⟩
      · rw [q1 1 65 (by omega)]; exact BK_65 c5.2 i hi
      · exact TPc_up (io.2.2.2.2 d hd) (TPc_fr (q1 _ _ (by omega)) (by unfold gL; rw [q0]) (fun j _ _ => q1 _ _ (by omega)) (fun j _ _ => q1 _ _ (by omega)) (fun j _ _ => q1 _ _ (by omega)) (fun j _ _ => q1 _ _ (by omega)) (c7 d hd))
      · rw [r9, c8, nI_s1]
    have im1 := IM_FC fc im0
    obtain ⟨m1, m2, m3, m4, m5, m6, m7, m8⟩ := id im1
    show Cl 115 [vO 0 90, vI (nI N)] w1 _
    refine m_begin (by omega) (by omega) ?_
    intro w2 f p0 p1 t0 t1 t2 t3 t4 t5 t6 t7 t8 t9' t10 t11
    have fn : FN w1 w2 := fun a j hj => ⟨p1 a j (by omega), by unfold gL; rw [p0]⟩
    refine ⟨rfl, Inv.mk (by omega) (IC_FN fn ic1) ⟨⟨t0, t1, t2, by omega, ⟨t3, fun r x hx => by cases hx⟩, ⟨Nat.zero_le _, fun x hx => by cases hx⟩, ⟨t4, fun r x hx => by cases hx⟩, Nat.zero_le _⟩, fun q i hq hi => by rw [t8 q i hq hi, r3 q i hq hi], ⟨t5, fun r x hx => by cases hx⟩, ?_, fun b hb => clm_WTm (t9' b hb), fun d hd => ?_, ?_, t6⟩ ⟨⟨Nat.zero_le _, fun x hx => by cases hx⟩, ⟨Nat.zero_le _, fun x hx => by cases hx⟩, start_RO hck s2 s3 (Nat.zero_le _) (Nat.zero_le _) (fun x hx => by cases hx) (fun x hx => by cases hx), fun b hb => WTo_0, fun d hd => TPo_up (io.2.2.2.2 d hd)⟩⟩
    · rw [t10]; exact start_KM0 hck s2 s3 (SM_c (fun q i hq hi => r3 q i hq hi) t11)
    · exact TPm_up (io.2.2.2.2 d hd) (TPm_fr (fun j _ _ => p1 _ _ (by omega)) (by unfold gL; rw [p0]) (m6 d hd))
    · rw [t7, m7, nI_s1]
  · show Cl 115 [vO 0 90, vI a] w _
    apply v_X10_begin_0
    exact bbj (fun e => absurd e g) (fun _ => ⟨rfl, hi0.up (by omega)⟩)
