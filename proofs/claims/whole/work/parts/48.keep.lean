theorem spn {x y : Int32} {N : Nat} (hx : 0 ≤ x) (hy : 0 ≤ y) (hN : N ≤ 100) : (x ≤ nI N - y) ↔ x.toInt + y.toInt ≤ N := by
  rw [ti_le, tl0] at hx hy
  have hb := ti_b y
  rw [ti_le, ti_sub (by rw [ti_nI (by omega)]; omega) (by rw [ti_nI (by omega)]; omega), ti_nI (by omega)]
  omega
theorem o_copy {n w} {a b p q e : Int32} (hi : Inv n w) : OP n w 93 184 [vI a, vI b, vI p, vI q, vI e] := by
  have hi0 := hi
  obtain ⟨R, cr, se, c, RL, PL, MK, A, M, WT, TP, v, rf, hv', ic, im, io⟩ := hi
  have hck : CK c se R := CK.c ic.2.1.symm ic.1.2.2.2.2.1
  have rf0 : ∀ z, (∀ w1, IC w1 R cr se c RL PL MK A M WT TP v (rf + 1) → IM w1 R cr se c RL PL MK A M WT TP v rf → Cl 184 [vO 0 90, vI a, vI b, vI p, vI q, vI e] w1 (kI fun y w2 => y = z ∧ Inv (n + 1) w2)) → kI (fun z w1 => Cl 184 (vO 0 90 :: [vI a, vI b, vI p, vI q, vI e]) w1 (kI fun y w2 => y = z ∧ Inv (n + 1) w2)) (.inl z) (sI w (0, 0) 10 (gI w (0, 0) 10 + 1)) :=
    fun z h => h _ (ic_ref ic) (IM_FC (FC_s (by omega)) im)
  have fin : ∀ z, kI (fun y w2 => y = z ∧ Inv (n + 1) w2) (.inl z) w := fun z => ⟨rfl, hi0.up (by omega)⟩
  have no : ¬ ((0 ≤ a ∧ a ≤ 5) ∧ (0 ≤ p ∧ p ≤ 5)) → kI (fun z w1 => Cl 184 (vO 0 90 :: [vI a, vI b, vI p, vI q, vI e]) w1 (kI fun y w2 => y = z ∧ Inv (n + 1) w2)) (.inl (-1)) w := by
    intro hn
    show Cl 184 [vO 0 90, vI a, vI b, vI p, vI q, vI e] w _
    apply v_X10_copy_0
    exact ⟨bb_01, bbi (fun g1 => ⟨bb_01, bbj (fun g2 => absurd ⟨g1, g2⟩ hn) (fun _ => fin _)⟩) (fun _ => fin _)⟩
  apply v_X9_copy_0
  refine ⟨bb_01, bbi (fun g1 => ⟨bb_01, bbj (fun g2 => ?_) (fun g => no (fun x => g x.2))⟩) (fun g => no (fun x => g x.1))⟩
  have g1' := g1
  have g2' := g2
  obtain ⟨d, hd, rfl⟩ := i_d g1
  obtain ⟨f, hf, rfl⟩ := i_d g2
  have id6 : vp_in (nI d) 6 := in_nI hd (by omega)
  have if6 : vp_in (nI f) 6 := in_nI hf (by omega)
  obtain ⟨t1, t2, t3⟩ := ic.2.2.2.2.2.2.1 d hd
  obtain ⟨s1, s2, s3⟩ := ic.2.2.2.2.2.2.1 f hf
  obtain ⟨p1, p2, p3⟩ := io.2.2.2.2 d hd
  obtain ⟨r1, r2, r3⟩ := io.2.2.2.2 f hf
  have dv : ∀ q, q ≤ 5 → ((nI (tS (TP d)) = nI q) ↔ tS (TP d) = q) := fun q hq => nI_inj (by omega) (by omega)
  have fv : ∀ q, q ≤ 5 → ((nI (tS (TP f)) = nI q) ↔ tS (TP f) = q) := fun q hq => nI_inj (by omega) (by omega)
  have df : (nI (tS (TP d)) = nI (tS (TP f))) ↔ tS (TP d) = tS (TP f) := nI_inj (by omega) (by omega)
  rw [cl_nI (by omega), cl_nI (by omega), t1, s1]
  -- the model, where it refuses
  have M11 : (tS (TP d) = 0 ∨ tS (TP f) = 0) → ∀ w1, IC w1 R cr se c RL PL MK A M WT TP v (rf + 1) → IM w1 R cr se c RL PL MK A M WT TP v rf → Cl 184 [vO 0 90, vI (nI d), vI b, vI (nI f), vI q, vI e] w1 (kI fun y w2 => y = -11 ∧ Inv (n + 1) w2) := by
    intro h w1 ic1 im1
    have u1 := (im1.2.2.2.2.2.1 d hd).1
    have u2 := (im1.2.2.2.2.2.1 f hf).1
    have z := inv_ref hv' ic1 im1 io
    apply v_X10_copy_0
    rw [cl_nI (by omega), cl_nI (by omega), u1, u2]
    exact ⟨bb_01, bbi (fun _ => ⟨bb_01, bbj (fun _ => ⟨id6, fun _ => ⟨rfl, z⟩, fun x => ⟨if6, fun y => absurd h (fun o => o.elim (fun o => x ((dv 0 (by omega)).mpr o)) (fun o => y ((fv 0 (by omega)).mpr o))), fun _ => ⟨rfl, z⟩⟩⟩) (fun x => absurd g2' x)⟩) (fun x => absurd g1' x)⟩
  have M12 : ¬ tS (TP d) = 0 → ¬ tS (TP f) = 0 → (tS (TP d) = 5 ∨ ¬ tS (TP d) = tS (TP f)) → ∀ w1, IC w1 R cr se c RL PL MK A M WT TP v (rf + 1) → IM w1 R cr se c RL PL MK A M WT TP v rf → Cl 184 [vO 0 90, vI (nI d), vI b, vI (nI f), vI q, vI e] w1 (kI fun y w2 => y = -12 ∧ Inv (n + 1) w2) := by
    intro h0 h1 h w1 ic1 im1
    have u1 := (im1.2.2.2.2.2.1 d hd).1
    have u2 := (im1.2.2.2.2.2.1 f hf).1
    have z := inv_ref hv' ic1 im1 io
    apply v_X10_copy_0
    rw [cl_nI (by omega), cl_nI (by omega), u1, u2]
    exact ⟨bb_01, bbi (fun _ => ⟨bb_01, bbj (fun _ => ⟨id6, fun x => absurd ((dv 0 (by omega)).mp x) h0, fun _ => ⟨if6, fun _ => ⟨id6, fun _ => ⟨rfl, z⟩, fun x => ⟨id6, if6, fun y => absurd h (fun o => o.elim (fun o => x ((dv 5 (by omega)).mpr o)) (fun o => o (df.mp y))), fun _ => ⟨rfl, z⟩⟩⟩, fun x => absurd ((fv 0 (by omega)).mp x) h1⟩⟩) (fun x => absurd g2' x)⟩) (fun x => absurd g1' x)⟩
  refine ⟨id6, if6, fun h0 => rf0 _ (M11 (Or.inl ((dv 0 (by omega)).mp h0))), fun h0 => ⟨fun h1 => ?_, fun h1 => rf0 _ (M11 (Or.inr ((fv 0 (by omega)).mp h1)))⟩⟩
  have h0' : ¬ tS (TP d) = 0 := fun x => h0 ((dv 0 (by omega)).mpr x)
  have h1' : ¬ tS (TP f) = 0 := fun x => h1 ((fv 0 (by omega)).mpr x)
  refine bbi (fun g3 => ⟨fun h2 => ?_, fun h2 => rf0 _ (M12 h0' h1' (Or.inr (fun x => h2 (df.mpr x))))⟩) (fun g3 => rf0 _ (M12 h0' h1' (Or.inl ?_)))
  · have hs : 1 ≤ tS (TP d) ∧ tS (TP d) ≤ 4 := by
      have h2 := g3.2
      rw [show (4 : Int32) = nI 4 from rfl, le_nI (by omega) (by omega)] at h2
      exact ⟨by omega, h2⟩
    have eqs : tS (TP d) = tS (TP f) := df.mp h2
    have hs' : 1 ≤ tS (TP f) ∧ tS (TP f) ≤ 4 := by omega
    have n5 : ¬ tS (TP d) = 5 := by omega
    obtain ⟨t4, t5⟩ := t2 hs
    obtain ⟨s4, s5⟩ := s2 hs'
    obtain ⟨p4, p5⟩ := p2 hs
    obtain ⟨r4, r5⟩ := r2 hs'
    rw [t4, s4]
    have M13 : ¬ ((0 ≤ b ∧ 0 ≤ e ∧ b ≤ nI (tN (TP d)) - e) ∧ (0 ≤ q ∧ 0 ≤ e ∧ q ≤ nI (tN (TP f)) - e)) → ∀ w1, IC w1 R cr se c RL PL MK A M WT TP v (rf + 1) → IM w1 R cr se c RL PL MK A M WT TP v rf → Cl 184 [vO 0 90, vI (nI d), vI b, vI (nI f), vI q, vI e] w1 (kI fun y w2 => y = -13 ∧ Inv (n + 1) w2) := by
      intro h w1 ic1 im1
      obtain ⟨u1, u3, _⟩ := im1.2.2.2.2.2.1 d hd
      obtain ⟨u2, u4, _⟩ := im1.2.2.2.2.2.1 f hf
      have z := inv_ref hv' ic1 im1 io
      apply v_X10_copy_0
      rw [cl_nI (by omega), cl_nI (by omega), u1, u2, (u3 hs).1, (u4 hs').1]
      refine ⟨bb_01, bbi (fun _ => ⟨bb_01, bbj (fun _ => ⟨id6, fun x => absurd x h0, fun _ => ⟨if6, fun _ => ⟨id6, fun x => absurd ((dv 5 (by omega)).mp x) n5, fun x => ⟨id6, if6, fun _ => ⟨fun _ => ⟨rfl, z⟩, fun k1 => ⟨fun _ => ⟨rfl, z⟩, fun k2 => ⟨fun _ => ⟨rfl, z⟩, fun k3 => ⟨id6, fun _ => ⟨rfl, z⟩, fun k4 => ⟨if6, fun k5 => ?_, fun _ => ⟨rfl, z⟩⟩⟩⟩⟩⟩, fun y => absurd h2 y⟩⟩, fun x => absurd x h1⟩⟩) (fun x => absurd g2' x)⟩) (fun x => absurd g1' x)⟩
      refine absurd ⟨⟨k2, k1, ?_⟩, k3, k1, ?_⟩ h
      · rw [spn k2 k1 p4]; rw [spn k1 k2 p4] at k4; omega
      · rw [spn k3 k1 r4]; rw [spn k1 k3 r4] at k5; omega
    refine bbi (fun k1 => bbj (fun k2 => ?_) (fun k => rf0 _ (M13 (fun x => k x.2)))) (fun k => rf0 _ (M13 (fun x => k x.1)))
    have l1 := (spn k1.1 k1.2.1 p4).mp k1.2.2
    have l2 := (spn k2.1 k2.2.1 r4).mp k2.2.2
    have e1 := k1.1; have e2 := k1.2.1; have e3 := k2.1
    rw [ti_le, tl0] at e1 e2 e3
    obtain ⟨i, hi', rfl⟩ : ∃ i : Nat, (i : Int) = b.toInt ∧ b = nI i := ⟨b.toInt.toNat, by omega, by rw [ti_eq, ti_nI (by omega)]; omega⟩
    obtain ⟨j, hj', rfl⟩ : ∃ i : Nat, (i : Int) = q.toInt ∧ q = nI i := ⟨q.toInt.toNat, by omega, by rw [ti_eq, ti_nI (by omega)]; omega⟩
    obtain ⟨N, hN', rfl⟩ : ∃ i : Nat, (i : Int) = e.toInt ∧ e = nI i := ⟨e.toInt.toNat, by omega, by rw [ti_eq, ti_nI (by omega)]; omega⟩
    have hiN : i + N ≤ tN (TP d) := by omega
    have hjN : j + N ≤ tN (TP f) := by omega
    rw [cl_nI (by omega), cl_nI (by omega), cl_nI (by omega)]
    refine ⟨cp_nI (by omega) (by omega) (by omega) (by omega), ?_⟩
    have ic1 : IC (aL w (f, 71) (va_cpy (gL w (d, 71)) (gL w (f, 71)) i j N)) R cr se c RL PL MK A M WT (upT TP f (tS (TP f), tN (TP f), va_cpy (tE (TP d)) (tE (TP f)) i j N, 0, tA (TP f), tM (TP f))) v rf := by
      refine IC_tp hf FT_l ⟨s1, fun _ => ⟨s4, fun z hz => ?_⟩, fun y => absurd y (by show ¬ tS (TP f) = 5; omega)⟩ ic
      have hz' : z < tN (TP f) := hz
      rw [gL_at]
      show _ = va_cpy (tE (TP d)) (tE (TP f)) i j N z
      by_cases g : j ≤ z ∧ z < j + N
      · rw [va_cpy_in g.1 g.2, va_cpy_in g.1 g.2]; exact t5 _ (by omega)
      · rw [va_cpy_out g, va_cpy_out g]; exact s5 _ hz'
    have im1 := IM_FC (FC_l (w := w) (g := f) (j := 71) (f := va_cpy (gL w (d, 71)) (gL w (f, 71)) i j N) (by omega)) im
    generalize aL w (f, 71) (va_cpy (gL w (d, 71)) (gL w (f, 71)) i j N) = w1 at ic1 im1
    obtain ⟨u1, u3, _⟩ := im1.2.2.2.2.2.1 d hd
    obtain ⟨u2, u4, _⟩ := im1.2.2.2.2.2.1 f hf
    obtain ⟨v1, v2⟩ := u3 hs
    obtain ⟨v3, v4⟩ := u4 hs'
    show Cl 184 [vO 0 90, vI (nI d), vI (nI i), vI (nI f), vI (nI j), vI (nI N)] w1 _
    apply v_X10_copy_0
    rw [cl_nI (by omega), cl_nI (by omega), u1, u2, v1, v3]
    refine ⟨bb_01, bbi (fun _ => ⟨bb_01, bbj (fun _ => ⟨id6, fun x => absurd x h0, fun _ => ⟨if6, fun _ => ⟨id6, fun x => absurd ((dv 5 (by omega)).mp x) n5, fun x => ⟨id6, if6, fun _ => ⟨fun x => absurd k1.2.1 (Int32.not_le.mpr x), fun _ => ⟨fun x => absurd k1.1 (Int32.not_le.mpr x), fun _ => ⟨fun x => absurd k2.1 (Int32.not_le.mpr x), fun _ => ⟨id6, fun x => ?_, fun _ => ⟨if6, fun _ => ?_, fun x => ?_⟩⟩⟩⟩⟩, fun y => absurd h2 y⟩⟩, fun x => absurd x h1⟩⟩) (fun x => absurd g2' x)⟩) (fun x => absurd g1' x)⟩
    · exact absurd ((spn k1.2.1 k1.1 p4).mpr (by omega)) (Int32.not_le.mpr x)
    · refine m_copy_loop hd hf (by omega) (by omega) ⟨rfl, ?_⟩
      have fm : FTm f w1 (aL w1 (0, 120) (va_cpy (gL w1 (0, 120)) (gL w1 (0, 120)) (100 * d + i) (100 * f + j) N)) :=
        ⟨fun _ _ _ => rfl, fun _ _ _ _ _ => rfl, fun _ _ => rfl, fun g j hh => gL_off hh, fun z hz => by rw [gL_at, va_cpy_out (by omega)]⟩
      refine Inv.mk (by omega) (IC_FN fm.fm ic1) (IM_tp hf fm (TPo_n io).1 (TPo_n io).2 hck.2.1 ⟨u2, fun _ => ⟨v3, fun z hz => ?_⟩, fun y => absurd y (by show ¬ tS (TP f) = 5; omega)⟩ im1) (IO_tp ⟨r1, fun _ => ⟨r4, fun h1 z hz => ?_⟩, fun y => absurd y (by show ¬ tS (TP f) = 5; omega)⟩ io)
      · have hz' : z < tN (TP f) := hz
        rw [gL_at]
        show _ = va_cpy (tE (TP d)) (tE (TP f)) i j N z
        by_cases g : j ≤ z ∧ z < j + N
        · rw [va_cpy_in (by omega) (by omega), va_cpy_in g.1 g.2, ← v2 _ (by omega)]; congr 1; omega
        · rw [va_cpy_out (by omega), va_cpy_out g]; exact v4 _ hz'
      · have h1' : tS (TP f) = 1 := h1
        have hz' : z < tN (TP f) := hz
        show -128 ≤ (va_cpy (tE (TP d)) (tE (TP f)) i j N z).toInt ∧ (va_cpy (tE (TP d)) (tE (TP f)) i j N z).toInt ≤ 127
        by_cases g : j ≤ z ∧ z < j + N
        · rw [va_cpy_in g.1 g.2]; exact p5 (by omega) _ (by omega)
        · rw [va_cpy_out g]; exact r5 h1' _ hz'
    · exact absurd ((spn k2.2.1 k2.1 r4).mpr (by omega)) (Int32.not_le.mpr x)
  · refine Classical.byContradiction fun n5 => g3 ⟨?_, ?_⟩
    · rw [show (1 : Int32) = nI 1 from rfl, le_nI (by omega) (by omega)]; omega
    · rw [show (4 : Int32) = nI 4 from rfl, le_nI (by omega) (by omega)]; omega
theorem m_wrongState {w R cr se c RL PL MK A M WT TP v rf k} {d : Nat} (hd : d < 6) (im : IM w R cr se c RL PL MK A M WT TP v rf) (p1 : tS (TP d) ≤ 5) (hk : (tS (TP d) = 5 → k 0 w) ∧ (tS (TP d) = 0 → k (-11) (sI w (0, 90) 36 (gI w (0, 90) 36 + 1))) ∧ (¬ tS (TP d) = 0 → ¬ tS (TP d) = 5 → k (-12) (sI w (0, 90) 36 (gI w (0, 90) 36 + 1)))) :
    Cl 177 [vO 0 90, vI (nI d)] w (kI k) := by
  have u1 := (im.2.2.2.2.2.1 d hd).1
  have i6 : vp_in (nI d) 6 := in_nI hd (by omega)
  have dv : ∀ q, q ≤ 5 → ((nI (tS (TP d)) = nI q) ↔ tS (TP d) = q) := fun q hq => nI_inj (by omega) (by omega)
  have g : 0 ≤ nI d ∧ nI d ≤ 5 := ⟨by rw [show (0 : Int32) = nI 0 from rfl, le_nI (by omega) (by omega)]; omega, by rw [show (5 : Int32) = nI 5 from rfl, le_nI (by omega) (by omega)]; omega⟩
  apply v_X10_wrongState_0
  rw [cl_nI (by omega), u1]
  exact ⟨bb_01, bbj (fun _ => ⟨i6, fun x => ⟨i6, fun y => hk.1 ((dv 5 (by omega)).mp y), fun y => hk.2.2 (fun z => x ((dv 0 (by omega)).mpr z)) (fun z => y ((dv 5 (by omega)).mpr z))⟩, fun x => hk.2.1 ((dv 0 (by omega)).mp x)⟩) (fun x => absurd g x)⟩
theorem m_wrongNo {w k} {a : Int32} (h : ¬ (0 ≤ a ∧ a ≤ 5)) (hk : k (-1) w) : Cl 177 [vO 0 90, vI a] w (kI k) := by
  apply v_X10_wrongState_0
  exact ⟨bb_01, bbj (fun x => absurd x h) (fun _ => hk)⟩
theorem o_toss {n w} {a : Int32} (hi : Inv n w) : OP n w 90 179 [vI a] := by
  have hi0 := hi
  obtain ⟨R, cr, se, c, RL, PL, MK, A, M, WT, TP, v, rf, hv', ic, im, io⟩ := hi
  have rf0 : ∀ z, (∀ w1, IC w1 R cr se c RL PL MK A M WT TP v (rf + 1) → IM w1 R cr se c RL PL MK A M WT TP v rf → Cl 179 [vO 0 90, vI a] w1 (kI fun y w2 => y = z ∧ Inv (n + 1) w2)) → kI (fun z w1 => Cl 179 (vO 0 90 :: [vI a]) w1 (kI fun y w2 => y = z ∧ Inv (n + 1) w2)) (.inl z) (sI w (0, 0) 10 (gI w (0, 0) 10 + 1)) :=
    fun z h => h _ (ic_ref ic) (IM_FC (FC_s (by omega)) im)
  apply v_X9_toss_0
  refine ⟨bb_01, bbj (fun g1 => ?_) (fun g1 => ?_)⟩
  · obtain ⟨d, hd, rfl⟩ := i_d g1
    have i6 : vp_in (nI d) 6 := in_nI hd (by omega)
    obtain ⟨t1, t2, t3⟩ := ic.2.2.2.2.2.2.1 d hd
    obtain ⟨p1, p2, p3⟩ := io.2.2.2.2 d hd
    have dv : ∀ q, q ≤ 5 → ((nI (tS (TP d)) = nI q) ↔ tS (TP d) = q) := fun q hq => nI_inj (by omega) (by omega)
    have ih : ∀ d : Nat, d < 6 → (19675 : Int32) * nI d + 289 = nI (19675 * d + 289) := fun d _ => by rw [show (19675 : Int32) = nI 19675 from rfl, nI_ml, show (289 : Int32) = nI 289 from rfl, nI_ad]
    rw [cl_nI (by omega), t1]
    refine ⟨i6, fun g2 => ?_, fun g2 => ⟨fun g3 => ?_, fun g3 => ?_⟩⟩
    · have e5 := (dv 5 (by omega)).mp g2
      obtain ⟨b1, b2, b3⟩ := t3 e5
      obtain ⟨q1, q2, q3⟩ := p3 e5
      rw [b2]
      refine ⟨fun g3 => rf0 _ (fun w1 ic1 im1 => ?_), fun g3 => ?_⟩
      · have um := ((im1.2.2.2.2.2.1 d hd).2.2 e5).2.1
        have z0 : aM (tA (TP d)) = 0 := by rw [ti_le, tl0] at g3; rw [ti_eq, tl0]; omega
        apply v_X10_toss_0
        refine m_wrongState hd im1 p1 ⟨fun _ => ?_, fun x => absurd x (by omega), fun _ x => absurd e5 x⟩
        rw [ih d hd, cl_nI (by omega), um]
        exact ⟨fun _ => ⟨in_nI (by omega) (by omega), fun x => absurd z0 x, fun _ => ⟨rfl, inv_ref hv' ic1 im1 io⟩⟩, fun x => absurd rfl x⟩
      · show Cl 179 [vO 0 90, vI (nI d)] w _
        have um := ((im.2.2.2.2.2.1 d hd).2.2 e5).2.1
        have iv : vp_in (nI (19675 * d + 289)) 118050 := in_nI (by omega) (by omega)
        apply v_X10_toss_0
        refine m_wrongState hd im p1 ⟨fun _ => ?_, fun x => absurd x (by omega), fun _ x => absurd e5 x⟩
        rw [ih d hd, cl_nI (by omega), um]
        exact ⟨fun _ => ⟨iv, fun _ => ⟨iv, rfl, hi0.up (by omega)⟩, fun x => absurd g3 (by rw [x]; decide)⟩, fun x => absurd rfl x⟩
    · refine rf0 _ (fun w1 ic1 im1 => ?_)
      apply v_X10_toss_0
      refine m_wrongState hd im1 p1 ⟨fun x => absurd ((dv 5 (by omega)).mpr x) g2, fun x => absurd ((dv 0 (by omega)).mpr x) g3, fun _ _ => ?_⟩
      exact ⟨fun x => absurd x (by decide), fun _ => ⟨rfl, inv_ref hv' ic1 im1 io⟩⟩
    · refine rf0 _ (fun w1 ic1 im1 => ?_)
      apply v_X10_toss_0
      refine m_wrongState hd im1 p1 ⟨fun x => absurd ((dv 5 (by omega)).mpr x) g2, fun _ => ?_, fun x _ => absurd ((dv 0 (by omega)).mp g3) x⟩
      exact ⟨fun x => absurd x (by decide), fun _ => ⟨rfl, inv_ref hv' ic1 im1 io⟩⟩
  · show Cl 179 [vO 0 90, vI a] w _
    apply v_X10_toss_0
    refine m_wrongNo g1 ?_
    exact ⟨fun x => absurd x (by decide), fun _ => ⟨rfl, hi0.up (by omega)⟩⟩
