/-! TAPES */ -/
def upT (TP : Nat → TT) (d : Nat) (t : TT) : Nat → TT := fun q => if q = d then t else TP q
theorem upT_at {TP d t} : upT TP d t d = t := if_pos rfl
theorem upT_ne {TP d t q} (h : ¬ q = d) : upT TP d t q = TP q := if_neg h
def FT (d : Nat) (w w' : PW) : Prop := (∀ g j, ¬ ((g = d ∧ j = 70) ∨ (g = 3 + d ∧ ((40 ≤ j ∧ j ≤ 53) ∨ (62 ≤ j ∧ j ≤ 68))) ∨ ((g = 106 + 2 * d ∨ g = 107 + 2 * d) ∧ 54 ≤ j ∧ j ≤ 57) ∨ (g = 0 ∧ (j = 30 ∨ j = 31))) → gI w' (g, j) = gI w (g, j)) ∧
  ∀ g j, ¬ (g = d ∧ j = 71) → gL w' (g, j) = gL w (g, j)
theorem FT.refl {d w} : FT d w w := ⟨fun _ _ _ => rfl, fun _ _ _ => rfl⟩
theorem FT.tr {d w w' w''} (h : FT d w w') (h' : FT d w' w'') : FT d w w'' := ⟨fun g j hh => (h'.1 g j hh).trans (h.1 g j hh), fun g j hh => (h'.2 g j hh).trans (h.2 g j hh)⟩
theorem FT_s {d : Nat} {w : PW} {i : Nat} {v : Int32} : FT d w (sI w (d, 70) i v) := ⟨fun g j hh => sI_ne (fun e => hh (Or.inl e)), fun _ _ _ => rfl⟩
theorem FT_l {d : Nat} {w : PW} {f : Nat → Int64} : FT d w (aL w (d, 71) f) := ⟨fun _ _ _ => rfl, fun g j hh => gL_off hh⟩
theorem FT.fc {d w w'} (h : FT d w w') : FC w w' := fun g j hj => ⟨h.1 g j (by omega), h.2 g j (by omega)⟩
theorem IC_tp {w w' R cr se c RL PL MK A M WT TP v rf d t} (hd : d < 6) (hf : FT d w w') (ht : TPc w' R d t v) (h : IC w R cr se c RL PL MK A M WT TP v rf) : IC w' R cr se c RL PL MK A M WT (upT TP d t) v rf := by
  obtain ⟨h1, h2, h3, h4, h5, h6, h7, h8, h9⟩ := h
  have f := hf.1
  refine ⟨EC_of (fun j hj => f _ _ (by omega)) h1, h2.tr (fun q hq => f 0 (2 + q) (by omega)), PLc_fr (fun j a b => f _ _ (by omega)) h3, MKc_fr (fun j a b => f _ _ (by omega)) h4, LV1_fr (fun j a b => f _ _ (by omega)) (fun j a b => f _ _ (by unfold wg; omega)) (fun j a b => f _ _ (by unfold tg; omega)) (fun j a b => f _ _ (by rw [bg1]; omega)) h5,
    fun b hb => WTc_fr (fun j x y => f _ _ (by omega)) (h6 b hb), fun q hq => ?_, by rw [f _ _ (by omega)]; exact h8, by rw [f _ _ (by omega)]; exact h9⟩
  by_cases e : q = d
  · subst e; rw [upT_at]; exact ht
  · rw [upT_ne e]
    exact TPc_fr (f _ _ (by omega)) (hf.2 _ _ (by omega)) (fun j x y => f _ _ (by omega)) (fun j x y => f _ _ (by omega)) (fun j x y => f _ _ (by omega)) (fun j x y => f _ _ (by omega)) (h7 q hq)
def FTm (d : Nat) (w w' : PW) : Prop := (∀ g j, ¬ (g = 0 ∧ 116 ≤ j ∧ j ≤ 119) → gI w' (g, j) = gI w (g, j)) ∧ (∀ j q, 117 ≤ j → j ≤ 119 → ¬ q = d → gI w' (0, j) q = gI w (0, j) q) ∧ (∀ q, ¬ (19675 * d ≤ q ∧ q < 19675 * d + 19675) → gI w' (0, 116) q = gI w (0, 116) q) ∧
  (∀ g j, ¬ (g = 0 ∧ j = 120) → gL w' (g, j) = gL w (g, j)) ∧ ∀ q, ¬ (100 * d ≤ q ∧ q < 100 * d + 100) → gL w' (0, 120) q = gL w (0, 120) q
theorem FTm.refl {d w} : FTm d w w := ⟨fun _ _ _ => rfl, fun _ _ _ _ _ => rfl, fun _ _ => rfl, fun _ _ _ => rfl, fun _ _ => rfl⟩
theorem FTm.tr {d w w' w''} (h : FTm d w w') (h' : FTm d w' w'') : FTm d w w'' := ⟨fun g j hh => (h'.1 g j hh).trans (h.1 g j hh), fun j q a b c => (h'.2.1 j q a b c).trans (h.2.1 j q a b c), fun q a => (h'.2.2.1 q a).trans (h.2.2.1 q a), fun g j hh => (h'.2.2.2.1 g j hh).trans (h.2.2.2.1 g j hh), fun q a => (h'.2.2.2.2 q a).trans (h.2.2.2.2 q a)⟩
theorem FTm_s {d : Nat} {w : PW} {j : Nat} {v : Int32} (h : 117 ≤ j ∧ j ≤ 119) : FTm d w (sI w (0, j) d v) :=
  ⟨fun g j' hh => sI_ne (by omega), fun j' q a b c => by
    by_cases e : j' = j
    · subst e; rw [gI_s, ub_ne (beq_f c)]
    · rw [sI_ne (by omega)], fun q _ => by rw [sI_ne (by omega)], fun _ _ _ => rfl, fun _ _ => rfl⟩
theorem FTm_l {d i : Nat} {w : PW} {v : Int64} (h : 100 * d ≤ i ∧ i < 100 * d + 100) : FTm d w (sL w (0, 120) i v) :=
  ⟨fun _ _ _ => rfl, fun _ _ _ _ _ => rfl, fun _ _ => rfl, fun g j hh => gL_off hh, fun q hq => by
    unfold sL; rw [gL_at, ub_ne (beq_f (by omega))]⟩
theorem FTm.fm {d w w'} (h : FTm d w w') : FN w w' := fun g j hj => ⟨h.1 g j (by omega), h.2.2.2.1 g j (by omega)⟩
theorem IM_tp {w w' R cr se c RL PL MK A M WT TP v rf d t} (hd : d < 6) (hf : FTm d w w') (ho : ∀ q, q < 6 → tS (TP q) ≤ 5 ∧ (1 ≤ tS (TP q) ∧ tS (TP q) ≤ 4 → tN (TP q) ≤ 100)) (hM : ∀ q, q < 6 → tS (TP q) = 5 → tYv (TP q) = v → (tM (TP q)).length ≤ 40 ∧ (aW (tA (TP q))).length ≤ 40 ∧ (aK (tA (TP q))).length ≤ 24) (h24 : R ≤ 24) (ht : TPm w' R d t v) (h : IM w R cr se c RL PL MK A M WT TP v rf) : IM w' R cr se c RL PL MK A M WT (upT TP d t) v rf := by
  obtain ⟨m1, m2, m3, m4, m5, m6, m7, m8⟩ := h
  have f := hf.1
  refine ⟨EM_fr (fun j hj => f _ _ (by omega)) (fun q _ => by rw [f _ _ (by omega)]) m1, CE_fr (fun j hj => f _ _ (by omega)) m2, MKm_fr (by rw [f _ _ (by omega)]) (fun j a b => f _ _ (by omega)) m3, by rw [f _ _ (by omega)]; exact m4, fun b hb => WTm_fr (fun j hj => f _ _ (by omega)) (m5 b hb), fun q hq => ?_, by rw [f _ _ (by omega)]; exact m7, by rw [f _ _ (by omega)]; exact m8⟩
  by_cases e : q = d
  · subst e; rw [upT_at]; exact ht
  · rw [upT_ne e]
    obtain ⟨a1, a2, a3⟩ := m6 q hq
    refine ⟨by rw [hf.2.1 118 q (by omega) (by omega) e]; exact a1, fun x => ⟨by rw [hf.2.1 119 q (by omega) (by omega) e]; exact (a2 x).1, fun i hi => ?_⟩, fun x => ⟨by rw [hf.2.1 117 q (by omega) (by omega) e]; exact (a3 x).1, by rw [hf.2.2.1 _ (by omega)]; exact (a3 x).2.1, fun y => ?_⟩⟩
    · have := (ho q hq).2 x
      rw [hf.2.2.2.2 _ (by omega)]; exact (a2 x).2 i hi
    · have k := (a3 x).2.2 y
      obtain ⟨b1, b2, b3⟩ := hM q hq x y
      have E : ∀ z, z < 19675 → gI w' (0, 116) (19675 * q + z) = gI w (0, 116) (19675 * q + z) := fun z hz => hf.2.2.1 _ (by omega)
      obtain ⟨k1, k2, k3, k4, k5, k6, k7, k8, k9, k10⟩ := k
      refine ⟨fun i hi => ?_, (E _ (by omega)).trans k2, (E _ (by omega)).trans k3, (E _ (by omega)).trans k4, (E _ (by omega)).trans k5, ⟨(E _ (by omega)).trans k6.1, fun z x hx => ?_⟩, ⟨(E _ (by omega)).trans k7.1, fun z x hx => ?_⟩, fun r hr => (E _ (by omega)).trans (k8 r hr), ⟨(E _ (by omega)).trans k9.1, ?_, fun i h' hi hh' => ?_⟩, k10⟩
      · have e : ∀ f, f < 12 → gI w' (0, 116) (19675 * q + (12 * i + f)) = gI w (0, 116) (19675 * q + (12 * i + f)) := fun f hf => E _ (by omega)
        have := k1 i hi
        simp only [e 0 (by omega), e 1 (by omega), e 2 (by omega), e 3 (by omega), e 4 (by omega), e 5 (by omega), e 6 (by omega), e 7 (by omega), e 8 (by omega), e 9 (by omega), e 10 (by omega), e 11 (by omega)]
        exact this
      · have hz : z < (aW (tA (TP q))).length := (List.getElem?_eq_some_iff.mp hx).1
        have := k6.2 z x hx
        exact ⟨(E _ (by omega)).trans this.1, (E _ (by omega)).trans this.2⟩
      · have hz : z < (aK (tA (TP q))).length := (List.getElem?_eq_some_iff.mp hx).1
        have := k7.2 z x hx
        exact ⟨(E _ (by omega)).trans this.1, (E _ (by omega)).trans this.2.1, (E _ (by omega)).trans this.2.2⟩
      · have ml : ∀ l : List M4, l.length ≤ 40 → ML (fun z => gI w (0, 116) (19675 * q + z)) l → ML (fun z => gI w' (0, 116) (19675 * q + z)) l := by
          intro l
          induction l with
          | nil => intro _ _; exact trivial
          | cons x l ih =>
            intro hl hm'
            rw [List.length_cons] at hl
            obtain ⟨u1, u2, u3, u4, u5⟩ := hm'
            exact ⟨(E _ (by omega)).trans u1, (E _ (by omega)).trans u2, (E _ (by omega)).trans u3, (E _ (by omega)).trans u4, ih (by omega) u5⟩
        exact ml _ b1 k9.2.1
      · have e1 : gI w' (0, 116) (19675 * q + (10146 + 397 * i + h')) = gI w (0, 116) (19675 * q + (10146 + 397 * i + h')) := E _ (by omega)
        have e2 : gI w' (0, 116) (19675 * q + (618 + 397 * i + h')) = gI w (0, 116) (19675 * q + (618 + 397 * i + h')) := E _ (by omega)
        have := k9.2.2 i h' hi hh'
        dsimp only at this ⊢
        rw [e1, e2]; exact this
theorem IO_tp {R c PL MK A M WT TP v d t} (ht : TPo c R v t) (h : IO R c PL MK A M WT TP v) : IO R c PL MK A M WT (upT TP d t) v :=
  ⟨h.1, h.2.1, h.2.2.1, h.2.2.2.1, fun q hq => by
    by_cases e : q = d
    · subst e; rw [upT_at]; exact ht
    · rw [upT_ne e]; exact h.2.2.2.2 q hq⟩
theorem TPo_n {R c PL MK A M WT TP v} (h : IO R c PL MK A M WT TP v) : (∀ q, q < 6 → tS (TP q) ≤ 5 ∧ (1 ≤ tS (TP q) ∧ tS (TP q) ≤ 4 → tN (TP q) ≤ 100)) ∧ ∀ q, q < 6 → tS (TP q) = 5 → tYv (TP q) = v → (tM (TP q)).length ≤ 40 ∧ (aW (tA (TP q))).length ≤ 40 ∧ (aK (tA (TP q))).length ≤ 24 :=
  ⟨fun q hq => ⟨(h.2.2.2.2 q hq).1, fun x => ((h.2.2.2.2 q hq).2.1 x).1⟩, fun q hq x y => by
    have r := ((h.2.2.2.2 q hq).2.2 x).2.2 y
    exact ⟨r.2.1.1, r.1.2.2.2.1, r.1.2.2.2.2.1⟩⟩
/-! refusals */ -/
theorem ic_ref {w R cr se c RL PL MK A M WT TP v rf} (h : IC w R cr se c RL PL MK A M WT TP v rf) : IC (sI w (0, 0) 10 (gI w (0, 0) 10 + 1)) R cr se c RL PL MK A M WT TP v (rf + 1) := by
  have h0 := h
  obtain ⟨c1, c2, c3, c4, c5, c6, c7, c8, c9⟩ := h
  have cq : ceq (cf w) (cf (sI w (0, 0) 10 (gI w (0, 0) 10 + 1))) := fun f hf => gI_so (beq_f (by omega))
  refine IC_Z (FZ_s (by omega)) ⟨by rw [gI_so rfl]; exact c1.1, by rw [gI_so rfl]; exact c1.2.1, by rw [gI_so rfl]; exact c1.2.2.1, c1.2.2.2.1, CK.c cq c1.2.2.2.2.1, ?_, c1.2.2.2.2.2.2⟩ (c2.tr cq) (by rw [gI_sN rfl]; exact c8) (by rw [gI_sat, c9]) (fun _ _ h => h) h0
  unfold RUc
  rw [gI_so (j := 14) rfl, gI_so (j := 15) rfl, gI_so (j := 16) rfl, gI_so (j := 17) rfl, gI_so (j := 18) rfl, gI_so (j := 19) rfl, gI_so (j := 20) rfl]
  exact c1.2.2.2.2.2.1
theorem im_ref {w R cr se c RL PL MK A M WT TP v rf} (h : IM w R cr se c RL PL MK A M WT TP v rf) : IM (sI w (0, 90) 36 (gI w (0, 90) 36 + 1)) R cr se c RL PL MK A M WT TP v (rf + 1) := by
  obtain ⟨m1, m2, m3, m4, m5, m6, m7, m8⟩ := h
  exact ⟨EM_fr2 (fun j hj => gI_so (beq_f (by omega))) (fun q _ _ => gI_sN (beq_f (by omega))) m1, CE_fr (fun j hj => gI_so (beq_f (by omega))) m2, MKm_fr (gI_sN rfl) (fun j a b => gI_so (beq_f (by omega))) m3, by rw [gI_so rfl]; exact m4, fun b hb => WTm_fr (fun j hj => gI_so (beq_f (by omega))) (m5 b hb), fun q hq => TPm_fr (fun j a b => gI_so (beq_f (by omega))) rfl (m6 q hq), by rw [gI_sN rfl]; exact m7, by rw [gI_sat, m8]⟩
theorem inv_ref {n w R cr se c RL PL MK A M WT TP v rf} (hv : v ≤ n + 1) (h1 : IC w R cr se c RL PL MK A M WT TP v (rf + 1)) (h2 : IM w R cr se c RL PL MK A M WT TP v rf) (h3 : IO R c PL MK A M WT TP v) : Inv (n + 1) (sI w (0, 90) 36 (gI w (0, 90) 36 + 1)) :=
  Inv.mk (by omega) (IC_FN (FN_s (by omega)) h1) (im_ref h2) h3
theorem i_d {a : Int32} (h : 0 ≤ a ∧ a ≤ 5) : ∃ d : Nat, d < 6 ∧ a = nI d := by
  obtain ⟨d, _, h1, h2⟩ := i_rng (lo := 0) (hi := 5) h (by omega) (by omega)
  exact ⟨d, by omega, h2⟩
theorem o_clear {n w} {a : Int32} (hi : Inv n w) : OP n w 91 180 [vI a] := by
  have hi0 := hi
  obtain ⟨R, cr, se, c, RL, PL, MK, A, M, WT, TP, v, rf, hv', ic, im, io⟩ := hi
  have hck : CK c se R := CK.c ic.2.1.symm ic.1.2.2.2.2.1
  apply v_X9_clear_0
  refine ⟨bb_01, bbj (fun g1 => ?_) (fun g1 => ?_)⟩
  · have g1' := g1
    obtain ⟨d, hd, rfl⟩ := i_d g1
    have i6 : vp_in (nI d) 6 := in_nI hd (by omega)
    obtain ⟨t1, t2, t3⟩ := ic.2.2.2.2.2.2.1 d hd
    rw [cl_nI (by omega), t1]
    have ic1 : IC (sI w (d, 70) 0 0) R cr se c RL PL MK A M WT (upT TP d (0, 0, tE (TP d), 0, tA (TP d), tM (TP d))) v rf := IC_tp hd FT_s ⟨gI_sat, fun x => absurd x.1 (show ¬ 1 ≤ 0 by decide), fun x => absurd x (show ¬ 0 = 5 by decide)⟩ ic
    have im1 := IM_FC (FC_s (w := w) (g := d) (j := 70) (i := 0) (v := 0) (by omega)) im
    refine ⟨i6, i6, ?_⟩
    generalize sI w (d, 70) 0 0 = w1 at ic1 im1
    obtain ⟨s1, s2, s3⟩ := im1.2.2.2.2.2.1 d hd
    show Cl 180 [vO 0 90, vI (nI d)] w1 _
    apply v_X10_clear_0
    rw [cl_nI (by omega), s1]
    refine ⟨bb_01, bbj (fun _ => ⟨i6, i6, i6, rfl, ?_⟩) (fun e => absurd g1' e)⟩
    have fm : FTm d w1 (sI (sI w1 (0, 118) d 0) (0, 119) d 0) := (FTm_s (by omega)).tr (FTm_s (by omega))
    refine Inv.mk (by omega) (IC_FN fm.fm ic1) (IM_tp hd fm (TPo_n io).1 (TPo_n io).2 hck.2.1 ⟨by rw [sI_ne (by omega), gI_sat]; rfl, fun x => absurd x.1 (show ¬ 1 ≤ 0 by decide), fun x => absurd x (show ¬ 0 = 5 by decide)⟩ im1) (IO_tp ⟨Nat.zero_le _, fun x => absurd x.1 (show ¬ 1 ≤ 0 by decide), fun x => absurd x (show ¬ 0 = 5 by decide)⟩ io)
  · show Cl 180 [vO 0 90, vI a] w _
    apply v_X10_clear_0
    exact ⟨bb_01, bbj (fun e => absurd e g1) (fun _ => ⟨rfl, hi0.up (by omega)⟩)⟩
theorem ix_100 {d i : Nat} : (100 : Int32) * nI d + nI i = nI (100 * d + i) := by rw [show (100 : Int32) = nI 100 from rfl, nI_ml, nI_ad]
theorem gL_sat {w : PW} {o : Ob} {k : Nat} {v : Int64} : gL (sL w o k v) o = ub (gL w o) k v := by unfold sL; rw [gL_at]
theorem o_tape {n w} {a b e : Int32} (hi : Inv n w) : OP n w 87 175 [vI a, vI b, vI e] := by
  have hi0 := hi
  obtain ⟨R, cr, se, c, RL, PL, MK, A, M, WT, TP, v, rf, hv', ic, im, io⟩ := hi
  have hck : CK c se R := CK.c ic.2.1.symm ic.1.2.2.2.2.1
  have fin : ∀ z, kI (fun y w2 => y = z ∧ Inv (n + 1) w2) (.inl z) w := fun z => ⟨rfl, hi0.up (by omega)⟩
  have no : ¬ ((0 ≤ a ∧ a ≤ 5) ∧ (1 ≤ b ∧ b ≤ 4) ∧ e ≤ 100) → kI (fun x w1 => Cl 175 (vO 0 90 :: [vI a, vI b, vI e]) w1 (kI fun y w2 => y = x ∧ Inv (n + 1) w2)) (.inl (-1)) w := by
    intro hn
    show Cl 175 [vO 0 90, vI a, vI b, vI e] w _
    apply v_X10_tape_0
    exact ⟨bb_01, bbi (fun g1 => bbi (fun g2 => ⟨fun g3 => absurd ⟨g1, g2, g3⟩ hn, fun _ => fin _⟩) (fun _ => fin _)) (fun _ => fin _)⟩
  apply v_X9_tape_0
  refine ⟨bb_01, bbi (fun g1 => bbi (fun g2 => ⟨fun g3 => ⟨fun g4 => ?_, fun g4 => ?_⟩, fun g3 => no (fun x => Int32.not_le.mpr g3 x.2.2)⟩) (fun g => no (fun x => g x.2.1))) (fun g => no (fun x => g x.1))⟩
  · have g1' := g1
    have g2' := g2
    obtain ⟨d, hd, rfl⟩ := i_d g1
    obtain ⟨s, hs1, hs2, rfl⟩ := i_rng (lo := 1) (hi := 4) g2 (by omega) (by omega)
    obtain ⟨N, _, hN, rfl⟩ := i_rng (lo := 0) (hi := 100) ⟨g4, g3⟩ (by omega) (by omega)
    have i6 : vp_in (nI d) 6 := in_nI hd (by omega)
    refine ⟨i6, ?_⟩
    rw [cl_nI (by omega)]
    apply v_X7_becomeRow_0
    have nd : ∀ {P : Prop} {x : Int64}, TPc (sI (sI w (d, 70) 0 (nI s)) (d, 70) 1 (nI N)) R d (s, N, fun _ => x, 0, tA (TP d), tM (TP d)) v ∨ ¬ P → True := fun _ => trivial
    refine cntI (L := fun x => [some (.inr (.inr (d, 70))), none, some (.inl (nI N)), some (.inl x)]) N (fun i w' => FT d w w' ∧ gI w' (d, 70) 0 = nI s ∧ gI w' (d, 70) 1 = nI N ∧ ∀ q, q < i → gL w' (d, 71) q = Int32.toInt64 0) rfl ⟨FT_s.tr FT_s, by rw [gI_sN rfl, gI_sat], gI_sat, fun q hq => by omega⟩ ?_ ?_
    · rintro w1 ⟨p1, p2, p3, p4⟩
      apply v_X7_becomeRow_12
      refine ⟨fun _ => ?_, fun x => absurd x (by rw [lt_nI (by omega) (by omega)]; omega)⟩
      have ic1 : IC w1 R cr se c RL PL MK A M WT (upT TP d (s, N, fun _ => Int32.toInt64 0, 0, tA (TP d), tM (TP d))) v rf := IC_tp hd p1 ⟨p2, fun _ => ⟨p3, p4⟩, fun x => absurd x (by show ¬ s = 5; omega)⟩ ic
      have im1 := IM_FC p1.fc im
      show Cl 175 [vO 0 90, vI (nI d), vI (nI s), vI (nI N)] w1 _
      apply v_X10_tape_0
      refine ⟨bb_01, bbi (fun _ => bbi (fun _ => ⟨fun _ => ⟨fun _ => ⟨i6, i6, ?_⟩, fun x => absurd g4 (Int32.not_le.mpr x)⟩, fun x => absurd g3 (Int32.not_le.mpr x)⟩) (fun x => absurd g2' x)) (fun x => absurd g1' x)⟩
      rw [cl_nI (by omega)]
      refine cntI (L := fun x => [some (.inr (.inr (0, 90))), some (.inl (nI d)), none, some (.inl (nI N)), some (.inl x)]) 100 (fun i w' => FTm d w1 w' ∧ gI w' (0, 118) d = nI s ∧ gI w' (0, 119) d = nI N ∧ ∀ q, q < i → gL w' (0, 120) (100 * d + q) = Int32.toInt64 0) rfl ⟨(FTm_s (by omega)).tr (FTm_s (by omega)), by rw [sI_ne (by omega), gI_sat], gI_sat, fun q hq => by omega⟩ ?_ ?_
      · rintro w2 ⟨r1, r2, r3, r4⟩
        apply v_X10_tape_52
        rw [show (100 : Int32) = nI 100 from rfl]
        refine ⟨fun _ => ⟨rfl, ?_⟩, fun x => absurd x (by rw [lt_nI (by omega) (by omega)]; omega)⟩
        refine Inv.mk (by omega) (IC_FN r1.fm ic1) (IM_tp hd r1 (TPo_n io).1 (TPo_n io).2 hck.2.1 ⟨r2, fun _ => ⟨r3, fun i hi => r4 i (by have : i < N := hi; omega)⟩, fun x => absurd x (by show ¬ s = 5; omega)⟩ im1) (IO_tp ⟨by show s ≤ 5; omega, fun _ => ⟨hN, fun _ i _ => by show -128 ≤ (Int32.toInt64 0).toInt ∧ (Int32.toInt64 0).toInt ≤ 127; decide⟩, fun x => absurd x (by show ¬ s = 5; omega)⟩ io)
      · rintro i w2 hi' ⟨r1, r2, r3, r4⟩ hx
        apply v_X10_tape_52
        rw [ix_100, show (100 : Int32) = nI 100 from rfl, cl_nI (by omega), nI_s1]
        refine ⟨fun x => absurd x (by rw [le_nI (by omega) (by omega)]; omega), fun _ => ⟨in_nI (by omega) (by omega), hx _ ⟨r1.tr (FTm_l (by omega)), r2, r3, fun q hq => ?_⟩⟩⟩
        rw [gL_sat, ub_eq]
        by_cases g : q = i
        · subst g; rw [if_pos rfl]
        · rw [if_neg (by omega)]; exact r4 q (by omega)
    · rintro i w1 hi' ⟨p1, p2, p3, p4⟩ hx
      apply v_X7_becomeRow_12
      rw [cl_nI (by omega), nI_s1]
      refine ⟨fun x => absurd x (by rw [le_nI (by omega) (by omega)]; omega), fun _ => ⟨in_nI (by omega) (by omega), hx _ ⟨p1.tr FT_l, p2, p3, fun q hq => ?_⟩⟩⟩
      rw [gL_sat, ub_eq]
      by_cases g : q = i
      · subst g; rw [if_pos rfl]
      · rw [if_neg g]; exact p4 q (by omega)
  · have ic1 := ic_ref ic
    have im1 := IM_FC (FC_s (w := w) (g := 0) (j := 0) (i := 10) (v := gI w (0, 0) 10 + 1) (by omega)) im
    generalize sI w (0, 0) 10 (gI w (0, 0) 10 + 1) = w1 at ic1 im1
    show Cl 175 [vO 0 90, vI a, vI b, vI e] w1 _
    apply v_X10_tape_0
    exact ⟨bb_01, bbi (fun _ => bbi (fun _ => ⟨fun _ => ⟨fun x => absurd g4 (Int32.not_lt.mpr x), fun _ => ⟨rfl, inv_ref hv' ic1 im1 io⟩⟩, fun x => absurd g3 (Int32.not_le.mpr x)⟩) (fun x => absurd g2 x)) (fun x => absurd g1 x)⟩
