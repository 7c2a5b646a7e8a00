/-! THE LIVE BOOK KEPT, AND GONE BACK TO */ -/
theorem KM_rng {m m' : Nat → Int32} {R M A} (E : ∀ z, z < 19675 → m' z = m z) (h24 : R ≤ 24) (b1 : M.length ≤ 40) (b2 : (aW A).length ≤ 40) (b3 : (aK A).length ≤ 24) (k : KM m R M A) : KM m' R M A := by
  obtain ⟨k1, k2, k3, k4, k5, k6, k7, k8, k9, k10⟩ := k
  refine ⟨fun i hi => ?_, (E _ (by omega)).trans k2, (E _ (by omega)).trans k3, (E _ (by omega)).trans k4, (E _ (by omega)).trans k5, ⟨(E _ (by omega)).trans k6.1, fun z x hx => ?_⟩, ⟨(E _ (by omega)).trans k7.1, fun z x hx => ?_⟩, fun r hr => (E _ (by omega)).trans (k8 r hr), ⟨(E _ (by omega)).trans k9.1, ?_, fun i h' hi hh' => ?_⟩, k10⟩
  · have e : ∀ f, f < 12 → m' (12 * i + f) = m (12 * i + f) := fun f hf => E _ (by omega)
    have := k1 i hi
    simp only [e 0 (by omega), e 1 (by omega), e 2 (by omega), e 3 (by omega), e 4 (by omega), e 5 (by omega), e 6 (by omega), e 7 (by omega), e 8 (by omega), e 9 (by omega), e 10 (by omega), e 11 (by omega)]
    exact this
  · have hz : z < (aW A).length := (List.getElem?_eq_some_iff.mp hx).1
    have := k6.2 z x hx
    exact ⟨(E _ (by omega)).trans this.1, (E _ (by omega)).trans this.2⟩
  · have hz : z < (aK A).length := (List.getElem?_eq_some_iff.mp hx).1
    have := k7.2 z x hx
    exact ⟨(E _ (by omega)).trans this.1, (E _ (by omega)).trans this.2.1, (E _ (by omega)).trans this.2.2⟩
  · have ml : ∀ l : List M4, l.length ≤ 40 → ML m l → ML m' l := by
      intro l
      induction l with
      | nil => intro _ _; exact trivial
      | cons x l ih =>
        intro hl hm'
        rw [List.length_cons] at hl
        obtain ⟨u1, u2, u3, u4, u5⟩ := hm'
        exact ⟨(E _ (by omega)).trans u1, (E _ (by omega)).trans u2, (E _ (by omega)).trans u3, (E _ (by omega)).trans u4, ih (by omega) u5⟩
    exact ml _ b1 k9.2.1
  · have := k9.2.2 i h' hi hh'
    rw [E (10146 + 397 * i + h') (by omega), E (618 + 397 * i + h') (by omega)]; exact this
theorem BkF.ft {d : Nat} {w w' : PW} (h : BkF (3 + d) w w') : FT d w w' := ⟨fun g j hh => h.2 g j (by omega), fun g j _ => by unfold gL; rw [h.1]⟩
theorem SN.ft {d : Nat} {w w' : PW} (h : SN (3 + d) w w') : FT d w w' := ⟨fun g j hh => h.2 g j (by unfold wg tg; omega), fun g j _ => by unfold gL; rw [h.1]⟩
theorem bl_of (b : Nat) : ∃ n, len b 63 = n ∧ len b 64 = n ∧ len b 65 = n ∧ (n = 9528 ∨ n = 7224) ∧ (b = 1 → n = 9528) := by
  by_cases h : b = 1
  · exact ⟨9528, if_pos h, if_pos h, if_pos h, Or.inl rfl, fun _ => rfl⟩
  · exact ⟨7224, if_neg h, if_neg h, if_neg h, Or.inr rfl, fun e => absurd e h⟩
/-- the whole of one book and its book-keeping taken over -/
theorem c_takeAll {w g a k R A M} (hg : g ≤ 8) (ha : a ≤ 8) (hne : ¬ a = g) (hb : ¬ bg a = bg g) (hlv : LV1 w a R A M) (h24 : R ≤ 24) (h1 : M.length ≤ 40) (h2 : (aW A).length ≤ 40) (h3 : (aK A).length ≤ 24) (h300 : aH A ≤ 300)
    (h : ∀ w1 w2, SN g w w1 → BkF (bg g) w1 w2 → LV1 w2 g R A M → k w2) : Cl 27 [vO g 40, vO a 40] w (kV k) := by
  apply v_X5_takeAllFrom_0
  refine c_copySt hg ha hne hlv.1 h2 (by rw [List.filter_nil, List.append_nil]; omega) ?_
  intro w1 q1 q2
  have hbk : BK w1 (bg a) R (aH A) (aR A) (aF A) M := BK_fr (fun j _ _ => q2.2 _ _ (by unfold wg tg; omega)) hlv.2
  have h40 : gI w1 (a, 40) 0 = nI (aH A) := by
    rw [q2.2 a 40 (by unfold wg tg; omega)]; exact hlv.1.2.1
  rw [h40]
  obtain ⟨nb, l3, l4, l5, ln, _⟩ := bl_of (bg g)
  obtain ⟨na, m3, m4, m5, mn, _⟩ := bl_of (bg a)
  refine c_copyBk hb hbk h1 h24 (by omega) l3 l4 l5 m3 m4 m5 (by omega) (by omega) (by omega) (by omega) ?_
  intro w2 p1 p2
  exact h w1 w2 q2 p2 ⟨KC_fr (fun j _ _ => p2.2 _ _ (by omega)) (fun j _ _ => p2.2 _ _ (by omega)) (fun j _ _ => p2.2 _ _ (by omega)) q1, p1⟩
theorem ix_196 {d q : Nat} : (19675 : Int32) * nI d + nI q = nI (19675 * d + q) := by rw [show (19675 : Int32) = nI 19675 from rfl, nI_ml, nI_ad]
theorem o_keep {n w} {a : Int32} (hi : Inv n w) : OP n w 88 176 [vI a] := by
  have hi0 := hi
  obtain ⟨R, cr, se, c, RL, PL, MK, A, M, WT, TP, v, rf, hv', ic, im, io⟩ := hi
  have hck : CK c se R := CK.c ic.2.1.symm ic.1.2.2.2.2.1
  have h24 : R ≤ 24 := hck.2.1
  have ro := io.2.2.1
  have h300 := ro.2.2.1
  have fin : ∀ z, kI (fun y w2 => y = z ∧ Inv (n + 1) w2) (.inl z) w := fun z => ⟨rfl, hi0.up (by omega)⟩
  apply v_X9_keep_0
  refine ⟨bb_01, bbj (fun g1 => ?_) (fun g1 => ?_)⟩
  · obtain ⟨d, hd, rfl⟩ := i_d g1
    have i6 : vp_in (nI d) 6 := in_nI hd (by omega)
    rw [cl_nI (by omega)]
    refine ⟨i6, ?_⟩
    have f0 : FT d w (sI (sI w (d, 70) 0 5) (d, 70) 2 (gI w (0, 0) 9)) := FT_s.tr FT_s
    have e0 : gI (sI (sI w (d, 70) 0 5) (d, 70) 2 (gI w (0, 0) 9)) (d, 70) 0 = nI 5 := by rw [gI_s, gI_s]; rfl
    have e2 : gI (sI (sI w (d, 70) 0 5) (d, 70) 2 (gI w (0, 0) 9)) (d, 70) 2 = nI v := by rw [gI_sat]; exact ic.2.2.2.2.2.2.2.1
    generalize sI (sI w (d, 70) 0 5) (d, 70) 2 (gI w (0, 0) 9) = w0 at f0 e0 e2
    have lv0 : LV1 w0 1 R A M := LV1_fr (fun j a b => f0.1 _ _ (by omega)) (fun j a b => f0.1 _ _ (by unfold wg; omega)) (fun j a b => f0.1 _ _ (by unfold tg; omega)) (fun j a b => f0.1 _ _ (by rw [bg1]; omega)) ic.2.2.2.2.1
    refine c_takeAll (g := 3 + d) (a := 1) (by omega) (by omega) (by omega) (by rw [bg3, bg1]; omega) lv0 h24 ro.2.1.1 ro.1.2.2.2.1 ro.1.2.2.2.2.1 h300 ?_
    intro w1 w2 q1 q2 q3
    rw [bg3] at q2
    have f1 : FT d w0 w2 := q1.ft.tr q2.ft
    have f2 : FT d w w2 := f0.tr f1
    have e40 : ∀ q, gI w2 (d, 70) q = gI w0 (d, 70) q := fun q => by
      rw [q2.2 d 70 (by omega), q1.2 d 70 (by unfold wg tg; omega)]
    have ic1 : IC w2 R cr se c RL PL MK A M WT (upT TP d (5, 0, tE (TP d), v, A, M)) v rf :=
      IC_tp hd f2 ⟨(e40 0).trans e0, fun x => absurd x.2 (by show ¬ 5 ≤ 4; omega), fun _ => ⟨(e40 2).trans e2, q3.1.2.2.1, fun _ => q3⟩⟩ ic
    have im1 := IM_FC f2.fc im
    have eh : gI w2 (1, 40) 0 = nI (aH A) := by rw [f2.1 1 40 (by omega)]; exact ic.2.2.2.2.1.1.2.1
    rw [eh]
    show Cl 176 [vO 0 90, vI (nI d)] w2 _
    apply v_X10_keep_0
    refine ⟨bb_01, bbj (fun _ => ⟨i6, i6, i6, ?_⟩) (fun e => absurd g1 e)⟩
    rw [cl_nI (by omega)]
    have f3 : FTm d w2 (sI (sI (sI w2 (0, 118) d 5) (0, 119) d 0) (0, 117) d (gI w2 (0, 90) 37)) := ((FTm_s (by omega)).tr (FTm_s (by omega))).tr (FTm_s (by omega))
    have e3 : gI (sI (sI (sI w2 (0, 118) d 5) (0, 119) d 0) (0, 117) d (gI w2 (0, 90) 37)) (0, 118) d = nI 5 := by rw [gI_so rfl, gI_so rfl, gI_sat]; rfl
    have e4 : gI (sI (sI (sI w2 (0, 118) d 5) (0, 119) d 0) (0, 117) d (gI w2 (0, 90) 37)) (0, 117) d = nI v := by rw [gI_sat]; exact im1.2.2.2.2.2.2.1
    generalize sI (sI (sI w2 (0, 118) d 5) (0, 119) d 0) (0, 117) d (gI w2 (0, 90) 37) = w3 at f3 e3 e4
    have kw : gI w3 (1, 114) = gI w (1, 114) := by rw [f3.1 1 114 (by omega), (f2.fc 1 114 (by omega)).1]
    refine cntI (L := fun x => [some (.inr (.inr (0, 90))), some (.inl (nI d)), some (.inl x)]) 19675 (fun i w' => w' = aI w3 (0, 116) (va_cpy (gI w3 (1, 114)) (gI w3 (0, 116)) 0 (19675 * d) i)) rfl (by rw [va_cpy_0, aI_self]) ?_ ?_
    · rintro w' rfl
      apply v_X10_keep_35
      rw [show (19675 : Int32) = nI 19675 from rfl]
      refine ⟨fun _ => ⟨in_nI (j := 288) (by omega) (by omega), ?_⟩, fun e => absurd e (by rw [lt_nI (by omega) (by omega)]; omega)⟩
      have f4 : FTm d w2 (aI w3 (0, 116) (va_cpy (gI w3 (1, 114)) (gI w3 (0, 116)) 0 (19675 * d) 19675)) := f3.tr ⟨fun g j hh => aI_ne (by omega), fun j q a b c => by rw [aI_ne (by omega)], fun q hq => by rw [gI_aI, va_cpy_out (by omega)], fun _ _ _ => rfl, fun _ _ => rfl⟩
      have ek : ∀ z, z < 19675 → gI (aI w3 (0, 116) (va_cpy (gI w3 (1, 114)) (gI w3 (0, 116)) 0 (19675 * d) 19675)) (0, 116) (19675 * d + z) = gI w (1, 114) z := fun z hz => by
        rw [gI_aI, va_cpy_in (by omega) (by omega), kw]; congr 1; omega
      refine ⟨?_, Inv.mk (by omega) (IC_FN f4.fm ic1) (IM_tp hd f4 (TPo_n io).1 (TPo_n io).2 h24 ⟨?_, fun x => absurd x.2 (by show ¬ 5 ≤ 4; omega), fun _ => ⟨?_, ?_, fun _ => ?_⟩⟩ im1) (IO_tp ⟨by show 5 ≤ 5; omega, fun x => absurd x.2 (by show ¬ 5 ≤ 4; omega), fun _ => ⟨Nat.le_refl _, ?_, fun _ => ro⟩⟩ io)⟩
      · rw [aI_ne (by omega), kw]; exact im.2.2.2.1.2.1
      · rw [aI_ne (by omega)]; exact e3
      · rw [aI_ne (by omega)]; exact e4
      · rw [ek 289 (by omega)]; exact im.2.2.2.1.2.2.1
      · exact KM_rng ek h24 ro.2.1.1 ro.1.2.2.2.1 ro.1.2.2.2.2.1 im.2.2.2.1
      · exact ro.1.2.2.1.1
    · rintro i w' hi' rfl hx
      apply v_X10_keep_35
      rw [ix_196, cl_nI (by omega), cl_nI (by omega), aI_ne (g := 1) (j := 114) (by omega), show (19675 : Int32) = nI 19675 from rfl]
      refine ⟨fun e => absurd e (by rw [le_nI (by omega) (by omega)]; omega), fun _ => ⟨in_nI (by omega) (by omega), in_nI (by omega) (by omega), ?_⟩⟩
      rw [nI_s1]
      refine hx _ ?_
      rw [sI_aI, ← va_cpy_ub, Nat.zero_add]
  · show Cl 176 [vO 0 90, vI a] w _
    apply v_X10_keep_0
    exact ⟨bb_01, bbj (fun e => absurd e g1) (fun _ => fin _)⟩
theorem o_back {n w} {a : Int32} (hi : Inv n w) (hn : n ≤ 100000) : OP n w 89 178 [vI a] := by
  have hi0 := hi
  obtain ⟨R, cr, se, c, RL, PL, MK, A, M, WT, TP, v, rf, hv', ic, im, io⟩ := hi
  have hck : CK c se R := CK.c ic.2.1.symm ic.1.2.2.2.2.1
  have h24 : R ≤ 24 := hck.2.1
  have fin : ∀ z, kI (fun y w2 => y = z ∧ Inv (n + 1) w2) (.inl z) w := fun z => ⟨rfl, hi0.up (by omega)⟩
  have rf0 : ∀ z, (∀ w1, IC w1 R cr se c RL PL MK A M WT TP v (rf + 1) → IM w1 R cr se c RL PL MK A M WT TP v rf → Cl 178 [vO 0 90, vI a] w1 (kI fun y w2 => y = z ∧ Inv (n + 1) w2)) → kI (fun z w1 => Cl 178 (vO 0 90 :: [vI a]) w1 (kI fun y w2 => y = z ∧ Inv (n + 1) w2)) (.inl z) (sI w (0, 0) 10 (gI w (0, 0) 10 + 1)) :=
    fun z h => h _ (ic_ref ic) (IM_FC (FC_s (by omega)) im)
  apply v_X9_back_0
  refine ⟨bb_01, bbj (fun g1 => ?_) (fun g1 => ?_)⟩
  · obtain ⟨d, hd, rfl⟩ := i_d g1
    have i6 : vp_in (nI d) 6 := in_nI hd (by omega)
    obtain ⟨t1, t2, t3⟩ := ic.2.2.2.2.2.2.1 d hd
    obtain ⟨p1, p2, p3⟩ := io.2.2.2.2 d hd
    have dv : ∀ q, q ≤ 5 → ((nI (tS (TP d)) = nI q) ↔ tS (TP d) = q) := fun q hq => nI_inj (by omega) (by omega)
    have h9 := ic.2.2.2.2.2.2.2.1
    rw [cl_nI (by omega), t1, h9]
    refine ⟨i6, fun g2 => ?_, fun g2 => ⟨fun g3 => ?_, fun g3 => ?_⟩⟩
    · have e5 := (dv 5 (by omega)).mp g2
      obtain ⟨b1, b2, b3⟩ := t3 e5
      obtain ⟨q1, q2, q3⟩ := p3 e5
      rw [b1]
      have vi : (nI (tYv (TP d)) = nI v) ↔ tYv (TP d) = v := nI_inj (by omega) (by omega)
      refine ⟨fun g3 => ?_, fun g3 => ?_⟩
      · have ev := vi.mp g3
        have lv := b3 ev
        have ro := q3 ev
        have h300 := ro.2.2.1
        refine c_takeAll (g := 1) (a := 3 + d) (by omega) (by omega) (by omega) (by rw [bg3, bg1]; omega) lv h24 ro.2.1.1 ro.1.2.2.2.1 ro.1.2.2.2.2.1 h300 ?_
        intro w1 w2 s1 s2 s3
        have fk : ∀ g j, ¬ ((g = 1 ∧ ((40 ≤ j ∧ j ≤ 53) ∨ (62 ≤ j ∧ j ≤ 68))) ∨ ((g = 102 ∨ g = 103) ∧ 54 ≤ j ∧ j ≤ 57) ∨ (g = 0 ∧ (j = 30 ∨ j = 31))) → gI w2 (g, j) = gI w (g, j) := fun g j hh => by
          rw [s2.2 g j (by rw [bg1]; omega), s1.2 g j (by unfold wg tg; omega)]
        have fl : w2.2 = w.2 := s2.1.trans s1.1
        have fc : FC w w2 := fun g j hj => ⟨fk g j (by omega), by unfold gL; rw [fl]⟩
        have ic1 : IC w2 R cr se c RL PL MK (tA (TP d)) (tM (TP d)) WT TP v rf := IC_live (fun g j hj => fk g j (by unfold inK at hj; omega)) (fun q => by unfold gL; rw [fl]) s3 ic
        have im1 := IM_FC fc im
        have io1 := IO_live io ro
        rw [s3.1.2.1]
        obtain ⟨u1, u2, u3⟩ := im1.2.2.2.2.2.1 d hd
        show Cl 178 [vO 0 90, vI (nI d)] w2 _
        apply v_X10_back_0
        refine m_wrongState hd im1 p1 ⟨fun _ => ?_, fun x => absurd x (by omega), fun _ x => absurd e5 x⟩
        rw [cl_nI (by omega), (u3 e5).1, im1.2.2.2.2.2.2.1]
        refine ⟨fun _ => ⟨i6, fun _ => ?_, fun x => absurd g3 x⟩, fun x => absurd rfl x⟩
        have km := (u3 e5).2.2 ev
        refine cntI (L := fun x => [some (.inr (.inr (0, 90))), some (.inl (nI d)), none, some (.inl x)]) 19675 (fun i w' => w' = aI w2 (1, 114) (va_cpy (gI w2 (0, 116)) (gI w2 (1, 114)) (19675 * d) 0 i)) rfl (by rw [va_cpy_0, aI_self]) ?_ ?_
        · rintro w' rfl
          apply v_X10_back_30
          rw [show (19675 : Int32) = nI 19675 from rfl]
          refine ⟨fun _ => ⟨in_nI (j := 288) (by omega) (by omega), ?_⟩, fun e => absurd e (by rw [lt_nI (by omega) (by omega)]; omega)⟩
          have ek : ∀ z, z < 19675 → gI (aI w2 (1, 114) (va_cpy (gI w2 (0, 116)) (gI w2 (1, 114)) (19675 * d) 0 19675)) (1, 114) z = gI w2 (0, 116) (19675 * d + z) := fun z hz => by
            rw [gI_aI, va_cpy_in (by omega) (by omega)]; congr 1
          refine ⟨?_, Inv.mk (by omega) (IC_FN (FN_a (by omega)) ic1) (IM_live (fun g j hj => aI_ne (by omega)) (fun q _ _ => by rw [aI_ne (by omega)]) rfl (KM_rng ek h24 ro.2.1.1 ro.1.2.2.2.1 ro.1.2.2.2.2.1 km) im1) io1⟩
          rw [ek 288 (by omega)]; exact km.2.1
        · rintro i w' hi' rfl hx
          apply v_X10_back_30
          rw [ix_196, cl_nI (by omega), cl_nI (by omega), aI_ne (g := 0) (j := 116) (by omega), show (19675 : Int32) = nI 19675 from rfl]
          refine ⟨fun e => absurd e (by rw [le_nI (by omega) (by omega)]; omega), fun _ => ⟨in_nI (by omega) (by omega), in_nI (by omega) (by omega), ?_⟩⟩
          rw [nI_s1]
          refine hx _ ?_
          rw [sI_aI, ← va_cpy_ub, Nat.zero_add]
      · show Cl 178 [vO 0 90, vI (nI d)] w _
        obtain ⟨u1, u2, u3⟩ := im.2.2.2.2.2.1 d hd
        apply v_X10_back_0
        refine m_wrongState hd im p1 ⟨fun _ => ?_, fun x => absurd x (by omega), fun _ x => absurd e5 x⟩
        rw [cl_nI (by omega), (u3 e5).1, im.2.2.2.2.2.2.1]
        exact ⟨fun _ => ⟨i6, fun x => absurd x g3, fun _ => fin _⟩, fun x => absurd rfl x⟩
    · refine rf0 _ (fun w1 ic1 im1 => ?_)
      apply v_X10_back_0
      refine m_wrongState hd im1 p1 ⟨fun x => absurd ((dv 5 (by omega)).mpr x) g2, fun x => absurd ((dv 0 (by omega)).mpr x) g3, fun _ _ => ?_⟩
      exact ⟨fun x => absurd x (by decide), fun _ => ⟨rfl, inv_ref hv' ic1 im1 io⟩⟩
    · refine rf0 _ (fun w1 ic1 im1 => ?_)
      apply v_X10_back_0
      refine m_wrongState hd im1 p1 ⟨fun x => absurd ((dv 5 (by omega)).mpr x) g2, fun _ => ?_, fun x _ => absurd ((dv 0 (by omega)).mp g3) x⟩
      exact ⟨fun x => absurd x (by decide), fun _ => ⟨rfl, inv_ref hv' ic1 im1 io⟩⟩
  · show Cl 178 [vO 0 90, vI a] w _
    apply v_X10_back_0
    refine m_wrongNo g1 ?_
    exact ⟨fun x => absurd x (by decide), fun _ => fin _⟩
