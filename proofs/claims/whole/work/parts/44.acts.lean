/-! act, plan, planless, ruleless, mark */ -/
def actB (c : Nat → Nat → Int32) (R : Nat) (a b : Int32) : Bool := decide ((0 ≤ a ∧ a ≤ 6) ∧ (0 ≤ b ∧ b ≤ nI R - 1) ∧ (a = 3 ∨ a = 4 → c 0 b.toNatClampNeg = 3))
theorem c_isAct {w R c k} {a b : Int32} (hR : gI w (0, 1) 0 = nI R) (h2 : 2 ≤ R) (h24 : R ≤ 24) (hc : ceq c (cf w)) (hk : k (ib (actB c R a b)) w) : Cl 102 [vO 0 0, vI a, vI b] w (kI k) := by
  have fin : ∀ t : Bool, t = actB c R a b → b01 (ib t) ∧ kI k (.inl (ib t)) w := fun t ht => ⟨ib_b01, by rw [ht]; exact hk⟩
  have e0 : gI w (0, 2) = c 0 := hc 0 (by omega)
  apply v_X9_isAct_0
  rw [hR, e0]
  refine bbi (fun g1 => ⟨bb_01, bbi (fun g2 => ?_) (fun g => fin false (decide_eq_false (fun x => g x.2.1)).symm)⟩) (fun g => fin false (decide_eq_false (fun x => g x.1)).symm)
  obtain ⟨i, hi, e⟩ := i_cell g2 h2 h24
  have in24 : vp_in b 24 := by rw [e]; exact in_nI (by omega) (by omega)
  refine ⟨fun g3 => ⟨in24, fun g4 => fin false (decide_eq_false (fun x => g4 (x.2.2 (Or.inl g3)))).symm, fun g4 => fin true (decide_eq_true ⟨g1, g2, fun _ => g4⟩).symm⟩, fun g3 => ⟨fun g4 => fin true (decide_eq_true ⟨g1, g2, fun x => (x.elim (fun y => absurd y g3) (fun y => absurd y g4))⟩).symm, fun g4 => ⟨in24, fun g5 => fin false (decide_eq_false (fun x => g5 (x.2.2 (Or.inr g4)))).symm, fun g5 => fin true (decide_eq_true ⟨g1, g2, fun _ => g5⟩).symm⟩⟩⟩
theorem m_isAct {w R c k} {a b : Int32} (hR : gI w (0, 90) 30 = nI R) (h2 : 2 ≤ R) (h24 : R ≤ 24) (hc : CE R c (cm w)) (hk : k (ib (actB c R a b)) w) : Cl 133 [vO 0 90, vI a, vI b] w (kI k) := by
  have fin : ∀ t : Bool, t = actB c R a b → b01 (ib t) ∧ kI k (.inl (ib t)) w := fun t ht => ⟨ib_b01, by rw [ht]; exact hk⟩
  apply v_X10_isAct_0
  rw [hR]
  refine bbi (fun g1 => ⟨bb_01, bbi (fun g2 => ?_) (fun g => fin false (decide_eq_false (fun x => g x.2.1)).symm)⟩) (fun g => fin false (decide_eq_false (fun x => g x.1)).symm)
  obtain ⟨i, hi, e⟩ := i_cell g2 h2 h24
  have in24 : vp_in b 24 := by rw [e]; exact in_nI (by omega) (by omega)
  have e0 : gI w (0, 91) b.toNatClampNeg = c 0 b.toNatClampNeg := by rw [e, cl_nI (by omega)]; exact hc 0 i (by omega) hi
  rw [e0]
  refine ⟨fun g3 => ⟨in24, fun g4 => fin false (decide_eq_false (fun x => g4 (x.2.2 (Or.inl g3)))).symm, fun g4 => fin true (decide_eq_true ⟨g1, g2, fun _ => g4⟩).symm⟩, fun g3 => ⟨fun g4 => fin true (decide_eq_true ⟨g1, g2, fun x => (x.elim (fun y => absurd y g3) (fun y => absurd y g4))⟩).symm, fun g4 => ⟨in24, fun g5 => fin false (decide_eq_false (fun x => g5 (x.2.2 (Or.inr g4)))).symm, fun g5 => fin true (decide_eq_true ⟨g1, g2, fun _ => g5⟩).symm⟩⟩⟩
theorem actB_ok {c R a b} (h2 : 2 ≤ R) (h24 : R ≤ 24) (h : actB c R a b = true) : actOK R (a, b) := by
  have g := of_decide_eq_true h
  obtain ⟨i, hi, e⟩ := i_cell g.2.1 h2 h24
  refine ⟨by show vp_in b R; rw [e]; exact in_nI hi (by omega), ?_⟩
  have := g.1
  rw [ti_le, ti_le, tl0] at this
  exact this
theorem gm_comes {w s k} {W : List A2} {a b : Int32} (hW : WM (gI w (s, 114)) W) (h40 : W.length ≤ 40)
    (h : ∀ r m', (W.length < 40 → r = 1) → (¬ W.length < 40 → r = 0) → WM m' (push 40 W (a, b)) → MW (gI w (s, 114)) m' → k r (aI w (s, 114) m')) : Cl 141 [vO s 114, vI a, vI b] w (kI k) := by
  have e := @eW_self w s
  have q := @m_comes w s (fun f i => gI w (s, 114) (12 * i + f)) (gI w (s, 114)) (gI w (0, 124)) (gI w (0, 125)) k W a b hW h40 ?_
  · rw [e] at q; exact q
  · intro r m' h1 h2 h3 h4
    have e2 : eW w s (fun f i => gI w (s, 114) (12 * i + f)) m' (gI w (0, 124)) (gI w (0, 125)) = aI w (s, 114) m' := by
      unfold eW
      rw [aI_self, aI_self]
      congr 1
      funext q
      unfold enc
      by_cases g : q < 288
      · rw [if_pos g]
        show gI w (s, 114) (12 * (q / 12) + q % 12) = m' q
        rw [show 12 * (q / 12) + q % 12 = q by omega, h4 q (by omega)]
      · rw [if_neg g]
    rw [e2]; exact h r m' h1 h2 h3 h4
theorem KM_W {m m' R M A W} (h : KM m R M A) (hb : M.length ≤ 40) (h24 : R ≤ 24) (hK : (aK A).length ≤ 24) (hm : MW m m') (hW : WM m' W) : KM m' R M (aS A, aH A, aM A, aD A, aT A, W, aK A, aC A, aR A, aF A) := by
  obtain ⟨k1, k2, k3, k4, k5, k6, k7, k8, k9, k10⟩ := h
  refine KM_mk (fun i hi => ?_) ((hm _ (by omega)).trans k2) ((hm _ (by omega)).trans k3) ((hm _ (by omega)).trans k4) ((hm _ (by omega)).trans k5) hW ⟨(hm _ (by omega)).trans k7.1, fun q x hx => ?_⟩ (fun r hr => (hm _ (by omega)).trans (k8 r hr)) (BKM_fr (fun q hq1 _ => hm q (by omega)) hb h24 k9) k10
  · have e : ∀ f, f < 12 → m' (12 * i + f) = m (12 * i + f) := fun f hf => hm _ (by omega)
    have := k1 i hi
    simp only [e 0 (by omega), e 1 (by omega), e 2 (by omega), e 3 (by omega), e 4 (by omega), e 5 (by omega), e 6 (by omega), e 7 (by omega), e 8 (by omega), e 9 (by omega), e 10 (by omega), e 11 (by omega)]
    exact this
  · have hq : q < (aK A).length := (List.getElem?_eq_some_iff.mp hx).1
    rw [hm _ (by omega), hm _ (by omega), hm _ (by omega)]; exact k7.2 q x hx
theorem o_act {n w} {a b : Int32} (hi : Inv n w) : OP n w 70 142 [vI a, vI b] := by
  have hi0 := hi
  obtain ⟨R, cr, se, c, RL, PL, MK, A, M, WT, TP, v, rf, hv', ic, im, io⟩ := hi
  have ic0 := ic
  have im0 := im
  obtain ⟨c1, c2, c3, c4, c5, c6, c7, c8, c9⟩ := ic
  obtain ⟨m1, m2, m3, m4, m5, m6, m7, m8⟩ := im
  have hck : CK c se R := CK.c c2.symm c1.2.2.2.2.1
  have h24 := hck.2.1
  have w40 := io.2.2.1.1.2.2.2.1
  have wm := m4.2.2.2.2.2.1
  apply v_X9_act_0
  refine c_isAct c1.1 hck.1 h24 c2 ?_
  have hcs : gI w (102, 54) 3 = nI (aW A).length := c5.1.2.2.2.2.2.1.1
  rw [hcs]
  refine ⟨fun g1 => ?_, fun g1 => ?_⟩
  · have t1 := ib_t g1
    refine bbi (fun g2 => ?_) (fun g2 => ?_)
    · rw [le_nI (by omega) (by omega)] at g2
      show Cl 142 [vO 0 90, vI a, vI b] w _
      apply v_X10_act_0
      refine m_isAct m1.1 hck.1 h24 m2 ?_
      refine ⟨fun _ => ?_, fun e => absurd e g1⟩
      refine gm_comes wm w40 ?_
      intro r m' h1 h2 h3 h4
      have inv : Inv (n + 1) (aI w (1, 114) m') := by
        have km := KM_W m4 io.2.2.1.2.1.1 h24 io.2.2.1.1.2.2.2.2.1 h4 h3
        have e : push 40 (aW A) (a, b) = aW A := by unfold push; rw [if_neg (by omega)]
        rw [e] at km
        exact Inv.mk (by omega) (IC_FN (FN_a (by omega)) ic0) (IM_live (fun g j hj => aI_ne (by omega)) (fun q _ _ => by rw [aI_ne (by omega)]) rfl (by rw [gI_aI]; exact km) im0) io
      refine ⟨fun _ => ⟨rfl, inv⟩, fun e => absurd (h2 (by omega)) e⟩
    · rw [le_nI (by omega) (by omega)] at g2
      refine st_add (g := 1) (by omega) c5.1 w40 ?_
      intro w1 q1 q2
      have e : push 40 (aW A) (a, b) = aW A ++ [(a, b)] := by unfold push; rw [if_pos (by omega)]
      have hcs1 : gI w1 (102, 54) 3 = nI ((aW A).length + 1) := by
        have := q1.2.2.2.2.2.1.1
        rw [e, List.length_append] at this; exact this
      rw [hcs1]
      have im1 := IM_FC q2.fc im0
      have ic1 : IC w1 R cr se c RL PL MK (aS A, aH A, aM A, aD A, aT A, push 40 (aW A) (a, b), aK A, aC A, aR A, aF A) M WT TP v rf :=
        IC_live (A := A) (M := M) (fun g j hj => q2.2 g j (by unfold inK at hj; unfold wg tg; omega)) (fun d => by unfold gL; rw [q2.1]) ⟨q1, BK_fr (fun j _ _ => q2.2 _ _ (by rw [bg1]; unfold wg tg; omega)) c5.2⟩ ic0
      have im2 := im1
      obtain ⟨m1, m2, m3, m4, m5, m6, m7, m8⟩ := im1
      show Cl 142 [vO 0 90, vI a, vI b] w1 _
      apply v_X10_act_0
      refine m_isAct m1.1 hck.1 h24 m2 ?_
      refine ⟨fun _ => ?_, fun e => absurd e g1⟩
      refine gm_comes m4.2.2.2.2.2.1 w40 ?_
      intro r m' h1 h2 h3 h4
      have km := KM_W m4 io.2.2.1.2.1.1 h24 io.2.2.1.1.2.2.2.2.1 h4 h3
      refine ⟨fun x => absurd ((h1 (by omega)).symm.trans x) (by decide), fun _ => ⟨in_nI (j := 290) (by omega) (by omega), ?_, ?_⟩⟩
      · rw [gI_aI, h3.1, e, List.length_append]; rfl
      · refine Inv.mk (by omega) (IC_FN (FN_a (by omega)) ic1) (IM_live (fun g j hj => aI_ne (by omega)) (fun q _ _ => by rw [aI_ne (by omega)]) rfl (by rw [gI_aI]; exact km) im2) (IO_live io ?_)
        obtain ⟨⟨a1, a2, a3, a4, a5, a6, a7⟩, b1, b2, b3⟩ := io.2.2.1
        refine ⟨⟨a1, a2, a3, push_le a4, a5, fun x hx => ?_, a7⟩, b1, b2, b3⟩
        rcases push_mem hx with h | h
        · exact a6 x h
        · rw [h]; exact actB_ok hck.1 h24 t1
  · show Cl 142 [vO 0 90, vI a, vI b] w _
    apply v_X10_act_0
    refine m_isAct m1.1 hck.1 h24 m2 ?_
    exact ⟨fun e => absurd g1 e, fun _ => ⟨rfl, hi0.up (by omega)⟩⟩
/-! the PLAN */ -/
theorem IC_pl {w w' R cr se c RL PL PL' MK A M WT TP v rf} (hf : ∀ g j, ¬ (g = 99 ∧ 54 ≤ j ∧ j ≤ 57) → gI w' (g, j) = gI w (g, j)) (hl : w'.2 = w.2) (hp : PLc w' PL') (h : IC w R cr se c RL PL MK A M WT TP v rf) : IC w' R cr se c RL PL' MK A M WT TP v rf := by
  obtain ⟨h1, h2, h3, h4, h5, h6, h7, h8, h9⟩ := h
  exact ⟨EC_of (fun j hj => hf _ _ (by omega)) h1, h2.tr (fun f hf' => hf 0 (2 + f) (by omega)), hp, MKc_fr (fun j a b => hf _ _ (by omega)) h4, LV1_fr (fun j a b => hf _ _ (by omega)) (fun j a b => hf _ _ (by unfold wg; omega)) (fun j a b => hf _ _ (by unfold tg; omega)) (fun j a b => hf _ _ (by omega)) h5,
    fun b hb => WTc_fr (fun j x y => hf _ _ (by omega)) (h6 b hb), fun d hd => TPc_fr (hf _ _ (by omega)) (by unfold gL; rw [hl]) (fun j x y => hf _ _ (by omega)) (fun j x y => hf _ _ (by omega)) (fun j x y => hf _ _ (by omega)) (fun j x y => hf _ _ (by omega)) (h7 d hd), by rw [hf _ _ (by omega)]; exact h8, by rw [hf _ _ (by omega)]; exact h9⟩
theorem IM_pl {w w' R cr se c RL PL PL' MK A M WT TP v rf} (hf : ∀ g j, ¬ (g = 0 ∧ (j = 90 ∨ (108 ≤ j ∧ j ≤ 110))) → gI w' (g, j) = gI w (g, j)) (h90 : ∀ q, ¬ q = 34 → gI w' (0, 90) q = gI w (0, 90) q) (hl : w'.2 = w.2) (hp : PLm w' PL') (h8 : PL'.length ≤ 8) (h : IM w R cr se c RL PL MK A M WT TP v rf) : IM w' R cr se c RL PL' MK A M WT TP v rf := by
  obtain ⟨m1, m2, m3, m4, m5, m6, m7, m8⟩ := h
  refine ⟨⟨by rw [h90 30 (by omega)]; exact m1.1, by rw [h90 31 (by omega)]; exact m1.2.1, by rw [h90 32 (by omega)]; exact m1.2.2.1, m1.2.2.2.1, ?_, m1.2.2.2.2.2.1, hp, h8⟩, CE_fr (fun j hj => hf _ _ (by omega)) m2, MKm_fr (h90 35 (by omega)) (fun j a b => hf _ _ (by omega)) m3, by rw [hf 1 114 (by omega)]; exact m4,
    fun b hb => WTm_fr (fun j hj => hf _ _ (by omega)) (m5 b hb), fun d hd => TPm_fr (fun j a b => hf _ _ (by omega)) (by unfold gL; rw [hl]) (m6 d hd), by rw [h90 37 (by omega)]; exact m7, by rw [h90 36 (by omega)]; exact m8⟩
  unfold RUm
  rw [h90 33 (by omega), hf 0 105 (by omega), hf 0 106 (by omega), hf 0 107 (by omega)]
  exact m1.2.2.2.2.1
theorem o_planless {n w} (hi : Inv n w) : OP n w 80 164 [] := by
  obtain ⟨R, cr, se, c, RL, PL, MK, A, M, WT, TP, v, rf, hv', ic, im, io⟩ := hi
  apply v_X9_planless_0
  have ic1 : IC (sI w (99, 54) 3 0) R cr se c RL [] MK A M WT TP v rf := IC_pl (fun g j hh => sI_ne (fun e => hh ⟨e.1, by omega, by omega⟩)) rfl ⟨gI_sat, fun k x hx => by cases hx⟩ ic
  have im1 := IM_FC (FC_s (w := w) (g := 99) (j := 54) (i := 3) (v := 0) (by omega)) im
  rw [ic.2.2.1.1]
  generalize sI w (99, 54) 3 0 = w1 at ic1 im1
  show Cl 164 [vO 0 90] w1 _
  apply v_X10_planless_0
  refine ⟨im1.1.2.2.2.2.2.2.1.1, Inv.mk (by omega) (IC_FN (FN_s (by omega)) ic1) (IM_pl (fun g j hh => sI_ne (by omega)) (fun q hq => gI_sN (beq_f hq)) rfl ⟨gI_sat, fun k x hx => by cases hx⟩ (Nat.zero_le _) im1) ⟨⟨Nat.zero_le _, fun x hx => by cases hx⟩, io.2⟩⟩
theorem o_plan {n w} {a b d : Int32} (hi : Inv n w) : OP n w 79 163 [vI a, vI b, vI d] := by
  have hi0 := hi
  obtain ⟨R, cr, se, c, RL, PL, MK, A, M, WT, TP, v, rf, hv', ic, im, io⟩ := hi
  have ic0 := ic
  have im0 := im
  obtain ⟨c1, c2, c3, c4, c5, c6, c7, c8, c9⟩ := ic
  obtain ⟨m1, m2, m3, m4, m5, m6, m7, m8⟩ := im
  have hck : CK c se R := CK.c c2.symm c1.2.2.2.2.1
  have h24 := hck.2.1
  have p8 := io.1.1
  have fin : ∀ z, kI (fun y w2 => y = z ∧ Inv (n + 1) w2) (.inl z) w := fun z => ⟨rfl, hi0.up (by omega)⟩
  have hms : gI w (0, 90) 34 = nI PL.length := m1.2.2.2.2.2.2.1.1
  apply v_X9_plan_0
  refine bbi (fun g1 => ?_) (fun g1 => ?_)
  · refine c_isAct c1.1 hck.1 h24 c2 ?_
    rw [c3.1]
    refine ⟨fun g2 => ?_, fun g2 => ?_⟩
    · have t1 := ib_t g2
      refine bbi (fun g3 => ?_) (fun g3 => ?_)
      · rw [le_nI (by omega) (by omega)] at g3
        show Cl 163 [vO 0 90, vI a, vI b, vI d] w _
        apply v_X10_plan_0
        refine bbi (fun _ => ?_) (fun e => absurd g1 e)
        refine m_isAct m1.1 hck.1 h24 m2 ?_
        rw [hms]
        exact ⟨fun _ => ⟨fun e => absurd (by rw [show PL.length = 8 by omega]; rfl) e, fun _ => fin _⟩, fun e => absurd e g2⟩
      · rw [le_nI (by omega) (by omega)] at g3
        refine c_addT (ga := 99) 8 rfl rfl rfl (by omega) c3 p8 ?_
        intro w1 q1 q2
        have e : push 8 PL (a, b, d) = PL ++ [(a, b, d)] := by unfold push; rw [if_pos (by omega)]
        rw [e] at q1
        have hcs1 : gI w1 (99, 54) 3 = nI (PL.length + 1) := by
          have := q1.1; rw [List.length_append] at this; exact this
        rw [hcs1]
        have fc : FC w w1 := fun g j hj => ⟨q2.2 g j (by omega), by unfold gL; rw [q2.1]⟩
        have im1 := IM_FC fc im0
        have ic1 : IC w1 R cr se c RL (PL ++ [(a, b, d)]) MK A M WT TP v rf := IC_pl q2.2 q2.1 q1 ic0
        have im2 := im1
        obtain ⟨m1, m2, m3, m4, m5, m6, m7, m8⟩ := im1
        have hms1 : gI w1 (0, 90) 34 = nI PL.length := m1.2.2.2.2.2.2.1.1
        show Cl 163 [vO 0 90, vI a, vI b, vI d] w1 _
        apply v_X10_plan_0
        refine bbi (fun _ => ?_) (fun e => absurd g1 e)
        refine m_isAct m1.1 hck.1 h24 m2 ?_
        rw [hms1, cl_nI (by omega), nI_s1]
        have i8 : vp_in (nI PL.length) 8 := in_nI (by omega) (by omega)
        refine ⟨fun _ => ⟨fun _ => ⟨i8, i8, i8, rfl, ?_⟩, fun x => absurd ((nI_inj (b := 8) (by omega) (by omega)).mp x) (by omega)⟩, fun e => absurd e g2⟩
        refine Inv.mk (by omega) (IC_FN ((((FN_s (by omega)).tr (FN_s (by omega))).tr (FN_s (by omega))).tr (FN_s (by omega))) ic1) (IM_pl (w := w1) (fun g j hh => by rw [sI_ne (by omega), sI_ne (by omega), sI_ne (by omega), sI_ne (by omega)]) (fun q hq => by rw [gI_sN (beq_f hq), sI_ne (by omega), sI_ne (by omega), sI_ne (by omega)]) rfl ⟨by rw [gI_sat, List.length_append]; rfl, fun k x hx => ?_⟩ (by rw [List.length_append, List.length_singleton]; omega) im2) ⟨⟨by rw [List.length_append, List.length_singleton]; omega, fun x hx => ?_⟩, io.2⟩
        · rw [sI_ne (j := 108) (by omega), sI_ne (j := 108) (by omega), sI_ne (j := 108) (by omega), gI_s, sI_ne (j := 109) (by omega), sI_ne (j := 109) (by omega), gI_s, sI_ne (j := 109) (by omega), sI_ne (j := 110) (by omega), gI_s, sI_ne (j := 110) (by omega), sI_ne (j := 110) (by omega)]
          rcases push_at hx with ⟨h1, h2⟩ | ⟨h1, h2⟩
          · rw [ub_ne (beq_f (by omega)), ub_ne (beq_f (by omega)), ub_ne (beq_f (by omega))]; exact m1.2.2.2.2.2.2.1.2 k x h1
          · subst h1 h2; rw [ub_same, ub_same, ub_same]; exact ⟨rfl, rfl, rfl⟩
        · rcases List.mem_append.mp hx with h | h
          · exact io.1.2 x h
          · rw [List.mem_singleton.mp h]
            refine ⟨?_, actB_ok hck.1 h24 t1⟩
            rw [ti_le, ti_le] at g1; exact g1
    · show Cl 163 [vO 0 90, vI a, vI b, vI d] w _
      apply v_X10_plan_0
      refine bbi (fun _ => ?_) (fun e => absurd g1 e)
      refine m_isAct m1.1 hck.1 h24 m2 ?_
      exact ⟨fun e => absurd g2 e, fun _ => fin _⟩
  · show Cl 163 [vO 0 90, vI a, vI b, vI d] w _
    apply v_X10_plan_0
    exact bbi (fun e => absurd e g1) (fun _ => fin _)
theorem o_ruleless {n w} (hi : Inv n w) : OP n w 69 137 [] := by
  obtain ⟨R, cr, se, c, RL, PL, MK, A, M, WT, TP, v, rf, hv', ic, im, io⟩ := hi
  have ic0 := ic
  have im0 := im
  obtain ⟨c1, c2, c3, c4, c5, c6, c7, c8, c9⟩ := ic
  apply v_X9_ruleless_0
  have fz : FZ w (sI (sI w (0, 14) 6 0) (0, 0) 9 (gI w (0, 0) 9 + 1)) := (FZ_s (by omega)).tr (FZ_s (by omega))
  have cq : ceq (cf w) (cf (sI (sI w (0, 14) 6 0) (0, 0) 9 (gI w (0, 0) 9 + 1))) := fun f hf => (gI_so (beq_f (by omega))).trans (gI_so (beq_f (by omega)))
  have ic1 : IC (sI (sI w (0, 14) 6 0) (0, 0) 9 (gI w (0, 0) 9 + 1)) R cr se c [] PL MK A M WT TP (v + 1) rf := by
    refine IC_Z fz ⟨by rw [gI_so rfl, gI_so rfl]; exact c1.1, by rw [gI_so rfl, gI_so rfl]; exact c1.2.1, by rw [gI_so rfl, gI_so rfl]; exact c1.2.2.1, c1.2.2.2.1, CK.c cq c1.2.2.2.2.1, ⟨by rw [gI_so rfl, gI_sat]; rfl, fun k x hx => by cases hx⟩, ⟨Nat.zero_le _, fun x hx => by cases hx⟩⟩ (c2.tr cq) (by rw [gI_sat, c8, nI_s1]) (by rw [gI_sN rfl, gI_so rfl]; exact c9) (fun d hd h => TPc_up (io.2.2.2.2 d hd) h) ic0
  have im1 := IM_FC fz.fc im0
  rw [c1.2.2.2.2.2.1.1]
  generalize sI (sI w (0, 14) 6 0) (0, 0) 9 (gI w (0, 0) 9 + 1) = w1 at ic1 im1
  have im2 := im1
  obtain ⟨m1, m2, m3, m4, m5, m6, m7, m8⟩ := im1
  show Cl 137 [vO 0 90] w1 _
  apply v_X10_ruleless_0
  have fy : FY w1 (sI (sI w1 (0, 90) 33 0) (0, 90) 37 (gI w1 (0, 90) 37 + 1)) := (FY_s (by omega)).tr (FY_s (by omega))
  refine ⟨m1.2.2.2.2.1.1, Inv.mk (by omega) (IC_FN fy.fm ic1) (IM_Y (RL' := []) fy ⟨by rw [gI_sN rfl, gI_sN rfl]; exact m1.1, by rw [gI_sN rfl, gI_sN rfl]; exact m1.2.1, by rw [gI_sN rfl, gI_sN rfl]; exact m1.2.2.1, m1.2.2.2.1, ⟨by rw [gI_sN rfl, gI_sat]; rfl, fun k x hx => by cases hx⟩, ⟨Nat.zero_le _, fun x hx => by cases hx⟩, ?_, m1.2.2.2.2.2.2.2⟩ (CE_fr (fun j hj => (gI_so (beq_f (by omega))).trans (gI_so (beq_f (by omega)))) m2) (by rw [gI_sN rfl, gI_sN rfl]) (by rw [gI_sat, m7, nI_s1]) (by rw [gI_sN rfl, gI_sN rfl]; exact m8) (fun d hd h => TPm_up (io.2.2.2.2 d hd) h) im2) ⟨io.1, io.2.1, io.2.2.1, io.2.2.2.1, fun d hd => TPo_up (io.2.2.2.2 d hd)⟩⟩
  unfold PLm
  rw [gI_sN rfl, gI_sN rfl, gI_so (j := 108) rfl, gI_so (j := 109) rfl, gI_so (j := 110) rfl, gI_so (j := 108) rfl, gI_so (j := 109) rfl, gI_so (j := 110) rfl]; exact m1.2.2.2.2.2.2.1
/-! mark */ -/
theorem EM_fr2 {w w' R cr se RL PL} (h : ∀ j, (105 ≤ j ∧ j ≤ 110) → gI w' (0, j) = gI w (0, j)) (h2 : ∀ q, 30 ≤ q → q ≤ 34 → gI w' (0, 90) q = gI w (0, 90) q) (he : EM w R cr se RL PL) : EM w' R cr se RL PL := by
  unfold EM RUm PLm
  rw [h2 30 (by omega) (by omega), h2 31 (by omega) (by omega), h2 32 (by omega) (by omega), h2 33 (by omega) (by omega), h2 34 (by omega) (by omega), h 105 (by omega), h 106 (by omega), h 107 (by omega), h 108 (by omega), h 109 (by omega), h 110 (by omega)]
  exact he
theorem o_mark {n w} {a b d : Int32} (hi : Inv n w) : OP n w 85 173 [vI a, vI b, vI d] := by
  have hi0 := hi
  obtain ⟨R, cr, se, c, RL, PL, MK, A, M, WT, TP, v, rf, hv', ic, im, io⟩ := hi
  have ic0 := ic
  have im0 := im
  obtain ⟨c1, c2, c3, c4, c5, c6, c7, c8, c9⟩ := ic
  obtain ⟨m1, m2, m3, m4, m5, m6, m7, m8⟩ := im
  have hck : CK c se R := CK.c c2.symm c1.2.2.2.2.1
  have h24 := hck.2.1
  have k10 := io.2.1.1
  have fin : ∀ z, kI (fun y w2 => y = z ∧ Inv (n + 1) w2) (.inl z) w := fun z => ⟨rfl, hi0.up (by omega)⟩
  have no : ¬ ((0 ≤ a ∧ a ≤ nI R - 1) ∧ (0 ≤ b ∧ b ≤ 9999) ∧ (b ≤ d ∧ d ≤ 9999)) → kI (fun x w1 => Cl 173 (vO 0 90 :: [vI a, vI b, vI d]) w1 (kI fun y w2 => y = x ∧ Inv (n + 1) w2)) (.inl (-1)) w := by
    intro hn
    show Cl 173 [vO 0 90, vI a, vI b, vI d] w _
    apply v_X10_mark_0
    rw [m1.1]
    exact ⟨bb_01, bbi (fun g1 => bbi (fun g2 => bbj (fun g3 => absurd ⟨g1, g2, g3⟩ hn) (fun _ => fin _)) (fun _ => fin _)) (fun _ => fin _)⟩
  apply v_X9_mark_0
  rw [c1.1, c4.1]
  refine ⟨bb_01, bbi (fun g1 => bbi (fun g2 => bbj (fun g3 => ?_) (fun g => no (fun x => g x.2.2))) (fun g => no (fun x => g x.2.1))) (fun g => no (fun x => g x.1))⟩
  rw [show (10 : Int32) = nI 10 from rfl, lt_nI (by omega) (by omega), le_nI (by omega) (by omega)]
  refine ⟨fun g4 => ?_, fun g4 => ?_⟩
  · have g1' := g1
    obtain ⟨i, hi', rfl⟩ := i_cell g1 hck.1 h24
    apply v_X2_add_0
    have i10 : vp_in (nI MK.length) 10 := in_nI (by omega) (by omega)
    rw [c4.1, cl_nI (by omega), nI_s1]
    refine ⟨i10, i10, i10, ?_⟩
    have q4 : gI (sI (sI (sI (sI w (0, 26) MK.length (nI i)) (0, 27) MK.length b) (0, 28) MK.length d) (0, 25) 3 (nI (MK.length + 1))) (0, 25) 3 = nI (MK.length + 1) := gI_sat
    have fr : ∀ g j, ¬ (g = 0 ∧ 25 ≤ j ∧ j ≤ 28) → gI (sI (sI (sI (sI w (0, 26) MK.length (nI i)) (0, 27) MK.length b) (0, 28) MK.length d) (0, 25) 3 (nI (MK.length + 1))) (g, j) = gI w (g, j) := fun g j hh => by
      rw [sI_ne (by omega), sI_ne (by omega), sI_ne (by omega), sI_ne (by omega)]
    have mk1 : MKc (sI (sI (sI (sI w (0, 26) MK.length (nI i)) (0, 27) MK.length b) (0, 28) MK.length d) (0, 25) 3 (nI (MK.length + 1))) (MK ++ [(i, b, d)]) := by
      refine ⟨by rw [q4, List.length_append]; rfl, fun k x hx => ?_⟩
      rw [sI_ne (j := 26) (by omega), sI_ne (j := 26) (by omega), sI_ne (j := 26) (by omega), gI_s, sI_ne (j := 27) (by omega), sI_ne (j := 27) (by omega), gI_s, sI_ne (j := 27) (by omega), sI_ne (j := 28) (by omega), gI_s, sI_ne (j := 28) (by omega), sI_ne (j := 28) (by omega)]
      rcases push_at hx with ⟨h1, h2⟩ | ⟨h1, h2⟩
      · rw [ub_ne (beq_f (by omega)), ub_ne (beq_f (by omega)), ub_ne (beq_f (by omega))]; exact c4.2 k x h1
      · subst h1 h2; rw [ub_same, ub_same, ub_same]; exact ⟨rfl, rfl, rfl⟩
    have fc : FC w (sI (sI (sI (sI w (0, 26) MK.length (nI i)) (0, 27) MK.length b) (0, 28) MK.length d) (0, 25) 3 (nI (MK.length + 1))) := (((FC_s (by omega)).tr (FC_s (by omega))).tr (FC_s (by omega))).tr (FC_s (by omega))
    show kI (fun x w1 => Cl 173 (vO 0 90 :: [vI (nI i), vI b, vI d]) w1 (kI fun y w2 => y = x ∧ Inv (n + 1) w2)) (.inl (gI (sI (sI (sI (sI w (0, 26) MK.length (nI i)) (0, 27) MK.length b) (0, 28) MK.length d) (0, 25) 3 (nI (MK.length + 1))) (0, 25) 3)) _
    rw [q4]
    generalize hw1 : sI (sI (sI (sI w (0, 26) MK.length (nI i)) (0, 27) MK.length b) (0, 28) MK.length d) (0, 25) 3 (nI (MK.length + 1)) = w1 at mk1 fr fc
    have l2 : w1.2 = w.2 := by rw [← hw1]; rfl
    have im1 := IM_FC fc im0
    have ic1 : IC w1 R cr se c RL PL (MK ++ [(i, b, d)]) A M WT TP v rf := by
      refine ⟨?_, c2.tr (fun f hf => fr 0 (2 + f) (by omega)), PLc_fr (fun j a b => fr _ _ (by omega)) c3, mk1, LV1_fr (fun j a b => fr _ _ (by omega)) (fun j a b => fr _ _ (by omega)) (fun j a b => fr _ _ (by omega)) (fun j a b => fr _ _ (by omega)) c5, fun b hb => WTc_fr (fun j x y => fr _ _ (by omega)) (c6 b hb), fun d hd => TPc_fr (fr _ _ (by omega)) (by unfold gL; rw [l2]) (fun j x y => fr _ _ (by omega)) (fun j x y => fr _ _ (by omega)) (fun j x y => fr _ _ (by omega)) (fun j x y => fr _ _ (by omega)) (c7 d hd), by rw [fr _ _ (by omega)]; exact c8, by rw [fr _ _ (by omega)]; exact c9⟩
      refine ⟨by rw [fr _ _ (by omega)]; exact c1.1, by rw [fr _ _ (by omega)]; exact c1.2.1, by rw [fr _ _ (by omega)]; exact c1.2.2.1, c1.2.2.2.1, CK.c (fun f hf => fr 0 (2 + f) (by omega)) c1.2.2.2.2.1, ?_, c1.2.2.2.2.2.2⟩
      unfold RUc
      rw [fr 0 14 (by omega), fr 0 15 (by omega), fr 0 16 (by omega), fr 0 17 (by omega), fr 0 18 (by omega), fr 0 19 (by omega), fr 0 20 (by omega)]
      exact c1.2.2.2.2.2.1
    have im2 := im1
    obtain ⟨m1, m2, m3, m4, m5, m6, m7, m8⟩ := im1
    show Cl 173 [vO 0 90, vI (nI i), vI b, vI d] w1 _
    apply v_X10_mark_0
    rw [m1.1, m3.1, cl_nI (by omega), nI_s1]
    refine ⟨bb_01, bbi (fun _ => bbi (fun _ => bbj (fun _ => ⟨fun _ => ⟨i10, i10, i10, rfl, ?_⟩, fun e => absurd ((nI_inj (b := 10) (by omega) (by omega)).mp e) (by omega)⟩) (fun e => absurd g3 e)) (fun e => absurd g2 e)) (fun e => absurd g1' e)⟩
    have fr2 : ∀ g j, ¬ (g = 0 ∧ (j = 90 ∨ (111 ≤ j ∧ j ≤ 113))) → gI (sI (sI (sI (sI w1 (0, 111) MK.length (nI i)) (0, 112) MK.length b) (0, 113) MK.length d) (0, 90) 35 (nI (MK.length + 1))) (g, j) = gI w1 (g, j) := fun g j hh => by
      rw [sI_ne (by omega), sI_ne (by omega), sI_ne (by omega), sI_ne (by omega)]
    have f90 : ∀ q, ¬ q = 35 → gI (sI (sI (sI (sI w1 (0, 111) MK.length (nI i)) (0, 112) MK.length b) (0, 113) MK.length d) (0, 90) 35 (nI (MK.length + 1))) (0, 90) q = gI w1 (0, 90) q := fun q hq => by
      rw [gI_sN (beq_f hq), sI_ne (by omega), sI_ne (by omega), sI_ne (by omega)]
    refine Inv.mk (by omega) (IC_FN ((((FN_s (by omega)).tr (FN_s (by omega))).tr (FN_s (by omega))).tr (FN_s (by omega))) ic1) ⟨EM_fr2 (fun j hj => fr2 _ _ (by omega)) (fun q _ _ => f90 q (by omega)) m1, CE_fr (fun j hj => fr2 _ _ (by omega)) m2, ⟨by rw [gI_sat, List.length_append]; rfl, fun k x hx => ?_⟩, by rw [fr2 _ _ (by omega)]; exact m4, fun b hb => WTm_fr (fun j hj => fr2 _ _ (by omega)) (m5 b hb), fun d hd => TPm_fr (fun j a b => fr2 _ _ (by omega)) rfl (m6 d hd), by rw [f90 37 (by omega)]; exact m7, by rw [f90 36 (by omega)]; exact m8⟩ ⟨io.1, ⟨by rw [List.length_append, List.length_singleton]; omega, fun x hx => ?_⟩, io.2.2⟩
    · rw [sI_ne (j := 111) (by omega), sI_ne (j := 111) (by omega), sI_ne (j := 111) (by omega), gI_s, sI_ne (j := 112) (by omega), sI_ne (j := 112) (by omega), gI_s, sI_ne (j := 112) (by omega), sI_ne (j := 113) (by omega), gI_s, sI_ne (j := 113) (by omega), sI_ne (j := 113) (by omega)]
      rcases push_at hx with ⟨h1, h2⟩ | ⟨h1, h2⟩
      · rw [ub_ne (beq_f (by omega)), ub_ne (beq_f (by omega)), ub_ne (beq_f (by omega))]; exact m3.2 k x h1
      · subst h1 h2; rw [ub_same, ub_same, ub_same]; exact ⟨rfl, rfl, rfl⟩
    · rcases List.mem_append.mp hx with h | h
      · exact io.2.1.2 x h
      · rw [List.mem_singleton.mp h]; exact hi'
  · show Cl 173 [vO 0 90, vI a, vI b, vI d] w _
    apply v_X10_mark_0
    rw [m1.1, m3.1]
    exact ⟨bb_01, bbi (fun _ => bbi (fun _ => bbj (fun _ => ⟨fun e => absurd (by rw [show MK.length = 10 by omega]; rfl) e, fun _ => fin _⟩) (fun e => absurd g3 e)) (fun e => absurd g2 e)) (fun e => absurd g1 e)⟩
