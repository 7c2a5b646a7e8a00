/-! THE WEATHER */ -/
theorem t32 {x : Int64} (h : -1000000 ≤ x.toInt ∧ x.toInt ≤ 1000000) : x.toInt32.toInt = x.toInt := by
  rw [Int64.toInt_toInt32, Int.bmod_eq_emod]
  split <;> omega
def wn (a b : Int) (x : Int64) : Prop := a ≤ x.toInt ∧ x.toInt ≤ b
theorem lg_l {x : Int64} {a : Int32} : (lg_cmp x a.toInt64 < 0) ↔ x.toInt < a.toInt := by rw [lg_cmp_lt, Int64.lt_iff_toInt_lt, Int32.toInt_toInt64]
theorem lg_g {x : Int64} {a : Int32} : (0 < lg_cmp x a.toInt64) ↔ a.toInt < x.toInt := by rw [lg_cmp_gt, Int64.lt_iff_toInt_lt, Int32.toInt_toInt64]
theorem lg_ge {x : Int64} {a : Int32} : (0 ≤ lg_cmp x a.toInt64) ↔ a.toInt ≤ x.toInt := by rw [lg_cmp_ge, Int64.le_iff_toInt_le, Int32.toInt_toInt64]
theorem lg_le {x : Int64} {a : Int32} : (lg_cmp x a.toInt64 ≤ 0) ↔ x.toInt ≤ a.toInt := by rw [lg_cmp_le, Int64.le_iff_toInt_le, Int32.toInt_toInt64]
theorem c_within {w k} {g N : Nat} {lo hi : Int32} (hN : N ≤ 100) (h1 : (∀ q, q < N → wn lo.toInt hi.toInt (gL w (g, 71) q)) → k 1 w) (h0 : ¬ (∀ q, q < N → wn lo.toInt hi.toInt (gL w (g, 71) q)) → k 0 w) : Cl 52 [vO g 70, vI (nI N), vI lo, vI hi] w (kI k) := by
  apply v_X7_isAllWithin_0
  have main : ∀ z i, i + z = N → (∀ q, q < i → wn lo.toInt hi.toInt (gL w (g, 71) q)) → Wp 52 3 [some (.inr (.inr (g, 70))), some (.inl (nI N)), some (.inl lo), some (.inl hi), some (.inl (nI i))] [] w (kI k) := by
    intro z
    induction z with
    | zero =>
      intro i hi' hq
      obtain rfl : i = N := by omega
      apply v_X7_isAllWithin_3
      exact ⟨fun _ => ⟨b01_1, h1 hq⟩, fun e => absurd e (by rw [lt_nI (by omega) (by omega)]; omega)⟩
    | succ z ih =>
      intro i hi' hq
      apply v_X7_isAllWithin_3
      rw [cl_nI (by omega), lg_l, lg_ge, lg_le, lg_g]
      have iv : vp_in (nI i) 100 := in_nI (by omega) (by omega)
      refine ⟨fun e => absurd e (by rw [le_nI (by omega) (by omega)]; omega), fun _ => ⟨iv, fun e => ⟨b01_0, h0 (fun x => by have := (x i (by omega)).1; omega)⟩, fun e => ⟨iv, fun e2 => ?_, fun e2 => ⟨b01_0, h0 (fun x => by have := (x i (by omega)).2; omega)⟩⟩⟩⟩
      rw [nI_s1]
      refine ih (i + 1) (by omega) (fun q hq' => ?_)
      by_cases x : q = i
      · rw [x]; exact ⟨e, e2⟩
      · exact hq q (by omega)
  exact main N 0 (Nat.zero_add _) (fun q hq => by omega)
def WT9 (t : Nat → Int64) (N : Nat) (lo hi : Int) : Prop := ∀ q, q < N → wn lo hi (t q)
theorem m_within {w k} {a b c N : Nat} (hb : b < 6) (hc : c < 6) (hN : N ≤ 64)
    (h1 : WT9 (fun q => gL w (0, 120) (100 * b + q)) N 0 9999 → WT9 (fun q => gL w (0, 120) (100 * c + q)) N (-30) 30 → Wp 127 213 [some (.inr (.inr (0, 90))), some (.inl (nI a)), some (.inl (nI b)), some (.inl (nI c)), some (.inl (nI N)), some (.inl 0)] [] w (kI k))
    (h0 : ¬ (WT9 (fun q => gL w (0, 120) (100 * b + q)) N 0 9999 ∧ WT9 (fun q => gL w (0, 120) (100 * c + q)) N (-30) 30) → k (-4) w) :
    Wp 127 120 [some (.inr (.inr (0, 90))), some (.inl (nI a)), some (.inl (nI b)), some (.inl (nI c)), some (.inl (nI N)), some (.inl 0)] [] w (kI k) := by
  have main : ∀ z i, i + z = N → WT9 (fun q => gL w (0, 120) (100 * b + q)) i 0 9999 → WT9 (fun q => gL w (0, 120) (100 * c + q)) i (-30) 30 → Wp 127 120 [some (.inr (.inr (0, 90))), some (.inl (nI a)), some (.inl (nI b)), some (.inl (nI c)), some (.inl (nI N)), some (.inl (nI i))] [] w (kI k) := by
    intro z
    induction z with
    | zero =>
      intro i hi' p1 p2
      obtain rfl : i = N := by omega
      apply v_X10_weather_120
      exact ⟨fun _ => h1 p1 p2, fun e => absurd e (by rw [lt_nI (by omega) (by omega)]; omega)⟩
    | succ z ih =>
      intro i hi' p1 p2
      apply v_X10_weather_120
      rw [ix_100, ix_100, cl_nI (by omega), cl_nI (by omega), lg_l, lg_ge, lg_g, lg_le, lg_l, lg_ge, lg_g, lg_le]
      have ib : vp_in (nI (100 * b + i)) 600 := in_nI (by omega) (by omega)
      have ic : vp_in (nI (100 * c + i)) 600 := in_nI (by omega) (by omega)
      have z0 : (0 : Int32).toInt = 0 := rfl
      have z1 : (9999 : Int32).toInt = 9999 := rfl
      have z2 : (-30 : Int32).toInt = -30 := rfl
      have z3 : (30 : Int32).toInt = 30 := rfl
      rw [z0, z1, z2, z3]
      refine ⟨fun e => absurd e (by rw [le_nI (by omega) (by omega)]; omega), fun _ => ⟨ib, fun e => h0 (fun x => ?_), fun e1 => ⟨ib, fun e => h0 (fun x => ?_), fun e2 => ⟨ic, fun e => h0 (fun x => ?_), fun e3 => ⟨ic, fun e4 => ?_, fun e => h0 (fun x => ?_)⟩⟩⟩⟩⟩
      · have := (x.1 i (by omega)).1; dsimp only at this; omega
      · have := (x.1 i (by omega)).2; dsimp only at this; omega
      · have := (x.2 i (by omega)).1; dsimp only at this; omega
      · rw [nI_s1]
        refine ih (i + 1) (by omega) (fun q hq' => ?_) (fun q hq' => ?_)
        · by_cases x : q = i
          · rw [x]; exact ⟨e1, e2⟩
          · exact p1 q (by omega)
        · by_cases x : q = i
          · rw [x]; exact ⟨e3, e4⟩
          · exact p2 q (by omega)
      · have := (x.2 i (by omega)).2; dsimp only at this; omega
  exact main N 0 (Nat.zero_add _) (fun q hq => by omega) (fun q hq => by omega)
def upW (WT : Nat → WW) (a : Nat) (x : WW) : Nat → WW := fun q => if q = a then x else WT q
def FW (a : Nat) (w w' : PW) : Prop := (∀ g j, ¬ (g = a ∧ 80 ≤ j ∧ j ≤ 82) → gI w' (g, j) = gI w (g, j)) ∧ w'.2 = w.2
theorem FW.fc {a w w'} (h : FW a w w') : FC w w' := fun g j hj => ⟨h.1 g j (by omega), by unfold gL; rw [h.2]⟩
theorem FW_s {a j i : Nat} {w : PW} {v : Int32} (h : 80 ≤ j ∧ j ≤ 82) : FW a w (sI w (a, j) i v) := ⟨fun g j' hh => sI_ne (by omega), rfl⟩
theorem FW.tr {a w w' w''} (h : FW a w w') (h' : FW a w' w'') : FW a w w'' := ⟨fun g j hh => (h'.1 g j hh).trans (h.1 g j hh), h'.2.trans h.2⟩
theorem IC_wt {w w' R cr se c RL PL MK A M WT TP v rf a x} (ha : a < 4) (hf : FW a w w') (ht : WTc w' a x.1 x.2.1 x.2.2) (h : IC w R cr se c RL PL MK A M WT TP v rf) : IC w' R cr se c RL PL MK A M (upW WT a x) TP v rf := by
  obtain ⟨h1, h2, h3, h4, h5, h6, h7, h8, h9⟩ := h
  have f := hf.1
  refine ⟨EC_of (fun j hj => f _ _ (by omega)) h1, h2.tr (fun q hq => f 0 (2 + q) (by omega)), PLc_fr (fun j a b => f _ _ (by omega)) h3, MKc_fr (fun j a b => f _ _ (by omega)) h4, LV1_fr (fun j a b => f _ _ (by omega)) (fun j a b => f _ _ (by omega)) (fun j a b => f _ _ (by omega)) (fun j a b => f _ _ (by omega)) h5,
    fun b hb => ?_, fun q hq => TPc_fr (f _ _ (by omega)) (by unfold gL; rw [hf.2]) (fun j x y => f _ _ (by omega)) (fun j x y => f _ _ (by omega)) (fun j x y => f _ _ (by omega)) (fun j x y => f _ _ (by omega)) (h7 q hq), by rw [f _ _ (by omega)]; exact h8, by rw [f _ _ (by omega)]; exact h9⟩
  unfold upW
  by_cases e : b = a
  · rw [if_pos e, e]; exact ht
  · rw [if_neg e]
    exact WTc_fr (fun j x y => f _ _ (by omega)) (h6 b hb)
def FWm (a : Nat) (w w' : PW) : Prop := (∀ g j, ¬ (g = 0 ∧ 102 ≤ j ∧ j ≤ 104) → gI w' (g, j) = gI w (g, j)) ∧ (∀ q, ¬ q = a → gI w' (0, 104) q = gI w (0, 104) q) ∧ (∀ j q, 102 ≤ j → j ≤ 103 → ¬ (64 * a ≤ q ∧ q < 64 * a + 64) → gI w' (0, j) q = gI w (0, j) q) ∧ w'.2 = w.2
theorem FWm.fm {a w w'} (h : FWm a w w') : FN w w' := fun g j hj => ⟨h.1 g j (by omega), by unfold gL; rw [h.2.2.2]⟩
theorem FWm.refl {a w} : FWm a w w := ⟨fun _ _ _ => rfl, fun _ _ => rfl, fun _ _ _ _ _ => rfl, rfl⟩
theorem FWm.tr {a w w' w''} (h : FWm a w w') (h' : FWm a w' w'') : FWm a w w'' := ⟨fun g j hh => (h'.1 g j hh).trans (h.1 g j hh), fun q hh => (h'.2.1 q hh).trans (h.2.1 q hh), fun j q x y hh => (h'.2.2.1 j q x y hh).trans (h.2.2.1 j q x y hh), h'.2.2.2.trans h.2.2.2⟩
theorem FWm_s {a j i : Nat} {w : PW} {v : Int32} (h : (j = 104 ∧ i = a) ∨ ((j = 102 ∨ j = 103) ∧ 64 * a ≤ i ∧ i < 64 * a + 64)) : FWm a w (sI w (0, j) i v) :=
  ⟨fun g j' hh => sI_ne (by omega), fun q hq => by
    by_cases e : 104 = j
    · subst e; rw [gI_sN (beq_f (by omega))]
    · rw [sI_ne (by omega)], fun j' q x y hq => by
    by_cases e : j' = j
    · subst e; rw [gI_sN (beq_f (by omega))]
    · rw [sI_ne (by omega)], rfl⟩
theorem IM_wt {w w' R cr se c RL PL MK A M WT TP v rf a x} (ha : a < 4) (hf : FWm a w w') (hwo : ∀ b, b < 4 → WTo (WT b).1 (WT b).2.1 (WT b).2.2) (ht : WTm w' a x.1 x.2.1 x.2.2) (h : IM w R cr se c RL PL MK A M WT TP v rf) : IM w' R cr se c RL PL MK A M (upW WT a x) TP v rf := by
  obtain ⟨m1, m2, m3, m4, m5, m6, m7, m8⟩ := h
  have f := hf.1
  refine ⟨EM_fr2 (fun j hj => f _ _ (by omega)) (fun q _ _ => by rw [f _ _ (by omega)]) m1, CE_fr (fun j hj => f _ _ (by omega)) m2, MKm_fr (by rw [f _ _ (by omega)]) (fun j a b => f _ _ (by omega)) m3, by rw [f _ _ (by omega)]; exact m4, fun b hb => ?_, fun q hq => TPm_fr (fun j x y => f _ _ (by omega)) (by unfold gL; rw [hf.2.2.2]) (m6 q hq), by rw [f _ _ (by omega)]; exact m7, by rw [f _ _ (by omega)]; exact m8⟩
  unfold upW
  by_cases e : b = a
  · rw [if_pos e, e]; exact ht
  · rw [if_neg e]
    obtain ⟨u1, u2⟩ := m5 b hb
    have := (hwo b hb).2.1
    refine ⟨(hf.2.1 b e).trans u1, fun q hq => ?_⟩
    rw [hf.2.2.1 102 _ (by omega) (by omega) (by omega), hf.2.2.1 103 _ (by omega) (by omega) (by omega)]
    exact u2 q hq
theorem c_become {w k} {a b c N : Nat} (hN : N ≤ 64)
    (hk : ∀ w', FW a w w' → WTc w' a N (fun q => (gL w (b, 71) q).toInt32) (fun q => (gL w (c, 71) q).toInt32) → k w') : Cl 56 [vO a 80, vO b 70, vO c 70, vI (nI N)] w (kV k) := by
  apply v_X8_become_0
  refine cntI (L := fun x => [some (.inr (.inr (a, 80))), some (.inr (.inr (b, 70))), some (.inr (.inr (c, 70))), some (.inl (nI N)), some (.inl x)]) N (fun i w' => FW a w w' ∧ gI w' (a, 80) 2 = nI N ∧ ∀ q, q < i → gI w' (a, 81) q = (gL w (b, 71) q).toInt32 ∧ gI w' (a, 82) q = (gL w (c, 71) q).toInt32) rfl ⟨FW_s (by omega), gI_sat, fun q hq => by omega⟩ ?_ ?_
  · rintro w' ⟨q1, q2, q3⟩
    apply v_X8_become_8
    exact ⟨fun _ => hk w' q1 ⟨q2, q3⟩, fun e => absurd e (by rw [lt_nI (by omega) (by omega)]; omega)⟩
  · rintro i w' hi' ⟨q1, q2, q3⟩ hx
    apply v_X8_become_8
    have i1 : vp_in (nI i) 100 := in_nI (by omega) (by omega)
    have i2 : vp_in (nI i) 64 := in_nI (by omega) (by omega)
    rw [cl_nI (by omega), nI_s1]
    refine ⟨fun e => absurd e (by rw [le_nI (by omega) (by omega)]; omega), fun _ => ⟨i1, i2, i1, i2, hx _ ⟨q1.tr ((FW_s (by omega)).tr (FW_s (by omega))), by rw [gI_so rfl, gI_so rfl]; exact q2, fun q hq => ?_⟩⟩⟩
    rw [gI_so rfl, gI_s, gI_s, gI_so (j := 82) rfl, ub_eq, ub_eq]
    have l1 : gL w' (b, 71) i = gL w (b, 71) i := by unfold gL; rw [q1.2]
    have l2 : gL (sI w' (a, 81) i (gL w' (b, 71) i).toInt32) (c, 71) i = gL w (c, 71) i := by show gL w' (c, 71) i = _; unfold gL; rw [q1.2]
    by_cases x : q = i
    · subst x; rw [if_pos rfl, if_pos rfl, l1]; exact ⟨rfl, by show (gL w' (c, 71) q).toInt32 = _; unfold gL; rw [q1.2]⟩
    · rw [if_neg x, if_neg x]; exact q3 q (by omega)
theorem m_become {w k} {a b c N : Nat} (ha : a < 4) (hb : b < 6) (hc : c < 6) (hN : N ≤ 64)
    (hk : ∀ w', FWm a w w' → WTm w' a N (fun q => (gL w (0, 120) (100 * b + q)).toInt32) (fun q => (gL w (0, 120) (100 * c + q)).toInt32) → k (nI N) w') :
    Wp 127 213 [some (.inr (.inr (0, 90))), some (.inl (nI a)), some (.inl (nI b)), some (.inl (nI c)), some (.inl (nI N)), some (.inl 0)] [] w (kI k) := by
  have ix6 : ∀ a i : Nat, (64 : Int32) * nI a + nI i = nI (64 * a + i) := fun a i => by rw [show (64 : Int32) = nI 64 from rfl, nI_ml, nI_ad]
  refine cntI (L := fun x => [some (.inr (.inr (0, 90))), some (.inl (nI a)), some (.inl (nI b)), some (.inl (nI c)), some (.inl (nI N)), some (.inl x)]) N (fun i w' => FWm a w w' ∧ ∀ q, q < i → gI w' (0, 102) (64 * a + q) = (gL w (0, 120) (100 * b + q)).toInt32 ∧ gI w' (0, 103) (64 * a + q) = (gL w (0, 120) (100 * c + q)).toInt32) rfl ⟨FWm.refl, fun q hq => by omega⟩ ?_ ?_
  · rintro w' ⟨q1, q3⟩
    apply v_X10_weather_213
    rw [cl_nI (by omega)]
    exact ⟨fun _ => ⟨in_nI ha (by omega), hk _ (q1.tr (FWm_s (by omega))) ⟨gI_sat, fun q hq => by rw [gI_so rfl, gI_so rfl]; exact q3 q hq⟩⟩, fun e => absurd e (by rw [lt_nI (by omega) (by omega)]; omega)⟩
  · rintro i w' hi' ⟨q1, q3⟩ hx
    apply v_X10_weather_213
    rw [ix_100, ix_100, ix6, cl_nI (by omega), cl_nI (by omega), cl_nI (by omega), cl_nI (by omega), nI_s1]
    have i1 : vp_in (nI (100 * b + i)) 600 := in_nI (by omega) (by omega)
    have i2 : vp_in (nI (100 * c + i)) 600 := in_nI (by omega) (by omega)
    have i3 : vp_in (nI (64 * a + i)) 256 := in_nI (by omega) (by omega)
    refine ⟨fun e => absurd e (by rw [le_nI (by omega) (by omega)]; omega), fun _ => ⟨i1, i3, i2, i3, hx _ ⟨q1.tr ((FWm_s (by omega)).tr (FWm_s (by omega))), fun q hq => ?_⟩⟩⟩
    have l : ∀ z, gL w' (0, 120) z = gL w (0, 120) z := fun z => by unfold gL; rw [q1.2.2.2]
    rw [gI_so rfl, gI_s, gI_s, gI_so (j := 103) rfl, ub_eq, ub_eq, l, l]
    by_cases x : q = i
    · subst x; rw [if_pos rfl, if_pos rfl]; exact ⟨rfl, rfl⟩
    · rw [if_neg (by omega), if_neg (by omega)]; exact q3 q (by omega)
theorem m_weather {w k R cr se c RL PL MK A M WT TP v rf} {a b d N : Nat} (ha : a < 4) (hb : b < 6) (hd : d < 6) (h1 : 1 ≤ N) (hN : N ≤ 64) (im : IM w R cr se c RL PL MK A M WT TP v rf) (io : IO R c PL MK A M WT TP v)
    (k11 : (tS (TP b) = 0 ∨ tS (TP d) = 0) → k (-11) (sI w (0, 90) 36 (gI w (0, 90) 36 + 1)))
    (k12 : ¬ tS (TP b) = 0 → ¬ tS (TP d) = 0 → (¬ tS (TP b) = 3 ∨ ¬ tS (TP d) = 1) → k (-12) (sI w (0, 90) 36 (gI w (0, 90) 36 + 1)))
    (k13 : tS (TP b) = 3 → tS (TP d) = 1 → (tN (TP b) < N ∨ tN (TP d) < N) → k (-13) (sI w (0, 90) 36 (gI w (0, 90) 36 + 1)))
    (hk : tS (TP b) = 3 → tS (TP d) = 1 → N ≤ tN (TP b) → N ≤ tN (TP d) → Wp 127 120 [some (.inr (.inr (0, 90))), some (.inl (nI a)), some (.inl (nI b)), some (.inl (nI d)), some (.inl (nI N)), some (.inl 0)] [] w (kI k)) :
    Cl 127 [vO 0 90, vI (nI a), vI (nI b), vI (nI d), vI (nI N)] w (kI k) := by
  obtain ⟨t1, t2, t3⟩ := im.2.2.2.2.2.1 b hb
  obtain ⟨s1, s2, s3⟩ := im.2.2.2.2.2.1 d hd
  obtain ⟨p1, p2, p3⟩ := io.2.2.2.2 b hb
  obtain ⟨r1, r2, r3⟩ := io.2.2.2.2 d hd
  have gt : ∀ i n : Nat, i ≤ n → n ≤ 100 → 0 ≤ nI i ∧ nI i ≤ nI n := fun i n h h' => ⟨by rw [show (0 : Int32) = nI 0 from rfl, le_nI (by omega) (by omega)]; omega, by rw [le_nI (by omega) (by omega)]; exact h⟩
  have bv : ∀ q, q ≤ 5 → ((nI (tS (TP b)) = nI q) ↔ tS (TP b) = q) := fun q hq => nI_inj (by omega) (by omega)
  have dv : ∀ q, q ≤ 5 → ((nI (tS (TP d)) = nI q) ↔ tS (TP d) = q) := fun q hq => nI_inj (by omega) (by omega)
  have b6 : vp_in (nI b) 6 := in_nI hb (by omega)
  have d6 : vp_in (nI d) 6 := in_nI hd (by omega)
  apply v_X10_weather_0
  rw [cl_nI (by omega), cl_nI (by omega), t1, s1]
  refine bbi (fun _ => ⟨bb_01, bbi (fun _ => ⟨bb_01, bbi (fun _ => bbj (fun _ => ?_) (fun e => absurd ⟨by rw [show (1 : Int32) = nI 1 from rfl, le_nI (by omega) (by omega)]; exact h1, (gt N 64 hN (by omega)).2⟩ e)) (fun e => absurd (gt d 5 (by omega) (by omega)) e)⟩) (fun e => absurd (gt b 5 (by omega) (by omega)) e)⟩) (fun e => absurd (gt a 3 (by omega) (by omega)) e)
  refine ⟨b6, fun e => k11 (Or.inl ((bv 0 (by omega)).mp e)), fun e1 => ⟨d6, fun e2 => ⟨b6, fun e3 => k12 (fun x => e1 ((bv 0 (by omega)).mpr x)) (fun x => e2 ((dv 0 (by omega)).mpr x)) (Or.inl (fun x => e3 ((bv 3 (by omega)).mpr x))), fun e3 => ⟨d6, fun e4 => ?_, fun e4 => k12 (fun x => e1 ((bv 0 (by omega)).mpr x)) (fun x => e2 ((dv 0 (by omega)).mpr x)) (Or.inr (fun x => e4 ((dv 1 (by omega)).mpr x)))⟩⟩, fun e => k11 (Or.inr ((dv 0 (by omega)).mp e))⟩⟩
  have x3 := (bv 3 (by omega)).mp e3
  have x1 := (dv 1 (by omega)).mp e4
  have n1 := (p2 (by omega)).1
  have n2 := (r2 (by omega)).1
  rw [(t2 (by omega)).1, (s2 (by omega)).1, lt_nI (by omega) (by omega), le_nI (by omega) (by omega), lt_nI (by omega) (by omega), le_nI (by omega) (by omega)]
  exact ⟨b6, fun e => k13 x3 x1 (Or.inl e), fun e => ⟨d6, fun e' => hk x3 x1 e e', fun e' => k13 x3 x1 (Or.inr e')⟩⟩
theorem o_weather {n w} {a b d e : Int32} (hi : Inv n w) : OP n w 64 127 [vI a, vI b, vI d, vI e] := by
  have hi0 := hi
  obtain ⟨R, cr, se, c, RL, PL, MK, A, M, WT, TP, v, rf, hv', ic, im, io⟩ := hi
  have rf0 : ∀ z, (∀ w1, IC w1 R cr se c RL PL MK A M WT TP v (rf + 1) → IM w1 R cr se c RL PL MK A M WT TP v rf → Cl 127 [vO 0 90, vI a, vI b, vI d, vI e] w1 (kI fun y w2 => y = z ∧ Inv (n + 1) w2)) → kI (fun z w1 => Cl 127 (vO 0 90 :: [vI a, vI b, vI d, vI e]) w1 (kI fun y w2 => y = z ∧ Inv (n + 1) w2)) (.inl z) (sI w (0, 0) 10 (gI w (0, 0) 10 + 1)) :=
    fun z h => h _ (ic_ref ic) (IM_FC (FC_s (by omega)) im)
  have fin : ∀ z, kI (fun y w2 => y = z ∧ Inv (n + 1) w2) (.inl z) w := fun z => ⟨rfl, hi0.up (by omega)⟩
  have no : ¬ ((0 ≤ a ∧ a ≤ 3) ∧ (0 ≤ b ∧ b ≤ 5) ∧ (0 ≤ d ∧ d ≤ 5) ∧ (1 ≤ e ∧ e ≤ 64)) → kI (fun z w1 => Cl 127 (vO 0 90 :: [vI a, vI b, vI d, vI e]) w1 (kI fun y w2 => y = z ∧ Inv (n + 1) w2)) (.inl (-1)) w := by
    intro hn
    show Cl 127 [vO 0 90, vI a, vI b, vI d, vI e] w _
    apply v_X10_weather_0
    exact bbi (fun g1 => ⟨bb_01, bbi (fun g2 => ⟨bb_01, bbi (fun g3 => bbj (fun g4 => absurd ⟨g1, g2, g3, g4⟩ hn) (fun _ => fin _)) (fun _ => fin _)⟩) (fun _ => fin _)⟩) (fun _ => fin _)
  apply v_X9_weather_0
  refine ⟨bb_01, bbi (fun g1 => ⟨bb_01, bbi (fun g2 => ⟨bb_01, bbi (fun g3 => bbj (fun g4 => ?_) (fun g => no (fun x => g x.2.2.2))) (fun g => no (fun x => g x.2.2.1))⟩) (fun g => no (fun x => g x.2.1))⟩) (fun g => no (fun x => g x.1))⟩
  obtain ⟨b, hb, rfl⟩ := i_d g2
  obtain ⟨d, hd, rfl⟩ := i_d g3
  obtain ⟨a, ha, rfl⟩ : ∃ q : Nat, q < 4 ∧ a = nI q := by
    rw [ti_le, ti_le, tl0, show (3 : Int32).toInt = 3 from rfl] at g1
    exact ⟨a.toInt.toNat, by omega, by rw [ti_eq, ti_nI (by omega)]; omega⟩
  obtain ⟨N, h1, hN, rfl⟩ : ∃ q : Nat, 1 ≤ q ∧ q ≤ 64 ∧ e = nI q := by
    rw [ti_le, ti_le, show (1 : Int32).toInt = 1 from rfl, show (64 : Int32).toInt = 64 from rfl] at g4
    exact ⟨e.toInt.toNat, by omega, by omega, by rw [ti_eq, ti_nI (by omega)]; omega⟩
  have b6 : vp_in (nI b) 6 := in_nI hb (by omega)
  have d6 : vp_in (nI d) 6 := in_nI hd (by omega)
  obtain ⟨t1, t2, t3⟩ := ic.2.2.2.2.2.2.1 b hb
  obtain ⟨s1, s2, s3⟩ := ic.2.2.2.2.2.2.1 d hd
  obtain ⟨p1, p2, p3⟩ := io.2.2.2.2 b hb
  obtain ⟨r1, r2, r3⟩ := io.2.2.2.2 d hd
  have bv : ∀ q, q ≤ 5 → ((nI (tS (TP b)) = nI q) ↔ tS (TP b) = q) := fun q hq => nI_inj (by omega) (by omega)
  have dv : ∀ q, q ≤ 5 → ((nI (tS (TP d)) = nI q) ↔ tS (TP d) = q) := fun q hq => nI_inj (by omega) (by omega)
  rw [cl_nI (by omega), cl_nI (by omega), cl_nI (by omega), t1, s1]
  have M11 : (tS (TP b) = 0 ∨ tS (TP d) = 0) → ∀ w1, IC w1 R cr se c RL PL MK A M WT TP v (rf + 1) → IM w1 R cr se c RL PL MK A M WT TP v rf → Cl 127 [vO 0 90, vI (nI a), vI (nI b), vI (nI d), vI (nI N)] w1 (kI fun y w2 => y = -11 ∧ Inv (n + 1) w2) :=
    fun h w1 ic1 im1 => m_weather ha hb hd h1 hN im1 io (fun _ => ⟨rfl, inv_ref hv' ic1 im1 io⟩) (fun x y _ => absurd h (fun o => o.elim x y)) (fun x y _ => absurd h (by omega)) (fun x y _ _ => absurd h (by omega))
  have M12 : ¬ tS (TP b) = 0 → ¬ tS (TP d) = 0 → (¬ tS (TP b) = 3 ∨ ¬ tS (TP d) = 1) → ∀ w1, IC w1 R cr se c RL PL MK A M WT TP v (rf + 1) → IM w1 R cr se c RL PL MK A M WT TP v rf → Cl 127 [vO 0 90, vI (nI a), vI (nI b), vI (nI d), vI (nI N)] w1 (kI fun y w2 => y = -12 ∧ Inv (n + 1) w2) :=
    fun x y h w1 ic1 im1 => m_weather ha hb hd h1 hN im1 io (fun o => absurd o (fun o => o.elim x y)) (fun _ _ _ => ⟨rfl, inv_ref hv' ic1 im1 io⟩) (fun x y _ => absurd h (by omega)) (fun x y _ _ => absurd h (by omega))
  have M13 : tS (TP b) = 3 → tS (TP d) = 1 → (tN (TP b) < N ∨ tN (TP d) < N) → ∀ w1, IC w1 R cr se c RL PL MK A M WT TP v (rf + 1) → IM w1 R cr se c RL PL MK A M WT TP v rf → Cl 127 [vO 0 90, vI (nI a), vI (nI b), vI (nI d), vI (nI N)] w1 (kI fun y w2 => y = -13 ∧ Inv (n + 1) w2) :=
    fun x y h w1 ic1 im1 => m_weather ha hb hd h1 hN im1 io (fun o => absurd o (by omega)) (fun _ _ o => absurd o (by omega)) (fun _ _ _ => ⟨rfl, inv_ref hv' ic1 im1 io⟩) (fun x y _ _ => absurd h (by omega))
  refine ⟨b6, d6, fun e => rf0 _ (M11 (Or.inl ((bv 0 (by omega)).mp e))), fun e1 => ⟨fun e2 => ⟨fun e3 => rf0 _ (M12 (fun x => e1 ((bv 0 (by omega)).mpr x)) (fun x => e2 ((dv 0 (by omega)).mpr x)) (Or.inl (fun x => e3 ((bv 3 (by omega)).mpr x)))), fun e3 => ⟨fun e4 => ?_, fun e4 => rf0 _ (M12 (fun x => e1 ((bv 0 (by omega)).mpr x)) (fun x => e2 ((dv 0 (by omega)).mpr x)) (Or.inr (fun x => e4 ((dv 1 (by omega)).mpr x))))⟩⟩, fun e => rf0 _ (M11 (Or.inr ((dv 0 (by omega)).mp e)))⟩⟩
  have x3 := (bv 3 (by omega)).mp e3
  have x1 := (dv 1 (by omega)).mp e4
  obtain ⟨t4, t5⟩ := t2 (by omega)
  obtain ⟨s4, s5⟩ := s2 (by omega)
  have n1 := (p2 (by omega)).1
  have n2 := (r2 (by omega)).1
  rw [t4, s4]
  have sp : ∀ m : Nat, m ≤ 100 → (((0 : Int32) ≤ 0 ∧ (0 : Int32) ≤ nI N ∧ (0 : Int32) ≤ nI m - nI N) ↔ N ≤ m) := fun m hm => by
    have z : (0 : Int32) ≤ nI N := nI_ge0 (by omega)
    have := spn (x := 0) (y := nI N) (N := m) (Int32.le_refl 0) z hm
    rw [tl0, ti_nI (by omega)] at this
    exact ⟨fun x => by have := this.mp x.2.2; omega, fun x => ⟨Int32.le_refl 0, z, this.mpr (by omega)⟩⟩
  refine bbi (fun g5 => bbj (fun g6 => ?_) (fun g => rf0 _ (M13 x3 x1 (Or.inr (Nat.not_le.mp (fun x => g ((sp _ n2).mpr x))))))) (fun g => rf0 _ (M13 x3 x1 (Or.inl (Nat.not_le.mp (fun x => g ((sp _ n1).mpr x))))))
  have l1 := (sp _ n1).mp g5
  have l2 := (sp _ n2).mp g6
  have mdl : ∀ w1 (k : Int32 → PW → Prop), IM w1 R cr se c RL PL MK A M WT TP v rf → (WT9 (tE (TP b)) N 0 9999 → WT9 (tE (TP d)) N (-30) 30 → Wp 127 213 [some (.inr (.inr (0, 90))), some (.inl (nI a)), some (.inl (nI b)), some (.inl (nI d)), some (.inl (nI N)), some (.inl 0)] [] w1 (kI k)) → (¬ (WT9 (tE (TP b)) N 0 9999 ∧ WT9 (tE (TP d)) N (-30) 30) → k (-4) w1) → Cl 127 [vO 0 90, vI (nI a), vI (nI b), vI (nI d), vI (nI N)] w1 (kI k) := by
    intro w1 k im1 k1 k2
    refine m_weather ha hb hd h1 hN im1 io (fun o => absurd o (by omega)) (fun _ _ o => absurd o (by omega)) (fun _ _ o => absurd o (by omega)) (fun _ _ _ _ => ?_)
    have y5 := ((im1.2.2.2.2.2.1 b hb).2.1 (by omega)).2
    have z5 := ((im1.2.2.2.2.2.1 d hd).2.1 (by omega)).2
    have ey : WT9 (fun q => gL w1 (0, 120) (100 * b + q)) N 0 9999 ↔ WT9 (tE (TP b)) N 0 9999 := ⟨fun x q hq => by rw [← y5 q (by omega)]; exact x q hq, fun x q hq => by dsimp only; rw [y5 q (by omega)]; exact x q hq⟩
    have ez : WT9 (fun q => gL w1 (0, 120) (100 * d + q)) N (-30) 30 ↔ WT9 (tE (TP d)) N (-30) 30 := ⟨fun x q hq => by rw [← z5 q (by omega)]; exact x q hq, fun x q hq => by dsimp only; rw [z5 q (by omega)]; exact x q hq⟩
    refine m_within hb hd hN (fun x y => k1 (ey.mp x) (ez.mp y)) (fun x => k2 (fun y => x ⟨ey.mpr y.1, ez.mpr y.2⟩))
  have cy : (∀ q, q < N → wn (0 : Int32).toInt (9999 : Int32).toInt (gL w (b, 71) q)) ↔ WT9 (tE (TP b)) N 0 9999 := ⟨fun x q hq => by rw [← t5 q (by omega)]; exact x q hq, fun x q hq => by rw [t5 q (by omega)]; exact x q hq⟩
  have cz : (∀ q, q < N → wn (-30 : Int32).toInt (30 : Int32).toInt (gL w (d, 71) q)) ↔ WT9 (tE (TP d)) N (-30) 30 := ⟨fun x q hq => by rw [← s5 q (by omega)]; exact x q hq, fun x q hq => by rw [s5 q (by omega)]; exact x q hq⟩
  have bad : ¬ (WT9 (tE (TP b)) N 0 9999 ∧ WT9 (tE (TP d)) N (-30) 30) → kI (fun z w1 => Cl 127 (vO 0 90 :: [vI (nI a), vI (nI b), vI (nI d), vI (nI N)]) w1 (kI fun y w2 => y = z ∧ Inv (n + 1) w2)) (.inl (-4)) w :=
    fun h => mdl w _ im (fun x y => absurd ⟨x, y⟩ h) (fun _ => ⟨rfl, hi0.up (by omega)⟩)
  refine c_within (by omega) (fun k1 => ⟨fun x => absurd x (by decide), fun _ => ?_⟩) (fun k1 => ⟨fun _ => bad (fun x => k1 (cy.mpr x.1)), fun x => absurd rfl x⟩)
  refine c_within (by omega) (fun k2 => ⟨fun _ => ⟨in_nI ha (by omega), ?_⟩, fun x => absurd x (by decide)⟩) (fun k2 => ⟨fun x => absurd rfl x, fun _ => bad (fun x => k2 (cz.mpr x.2))⟩)
  have oy := cy.mp k1
  have oz := cz.mp k2
  refine c_become hN ?_
  intro w1 q1 q2
  have wto : WTo N (fun q => (tE (TP b) q).toInt32) (fun q => (tE (TP d) q).toInt32) := ⟨h1, hN, fun q hq => by
    have a1 := oy q hq
    have a2 := oz q hq
    unfold wn at a1 a2
    dsimp only
    rw [t32 (by omega), t32 (by omega)]; exact ⟨a1, a2⟩⟩
  have ic1 : IC w1 R cr se c RL PL MK A M (upW WT a (N, (fun q => (tE (TP b) q).toInt32), (fun q => (tE (TP d) q).toInt32))) TP v rf := by
    refine IC_wt ha q1 ⟨q2.1, fun q hq => ?_⟩ ic
    have := q2.2 q hq
    dsimp only at this
    rw [t5 q (by have : q < N := hq; omega), s5 q (by have : q < N := hq; omega)] at this
    exact this
  have im1 := IM_FC q1.fc im
  refine mdl w1 _ im1 (fun _ _ => ?_) (fun x => absurd ⟨oy, oz⟩ x)
  refine m_become ha hb hd hN ?_
  intro w2 r1 r2'
  refine ⟨rfl, Inv.mk (by omega) (IC_FN r1.fm ic1) (IM_wt ha r1 io.2.2.2.1 ⟨r2'.1, fun q hq => ?_⟩ im1) ⟨io.1, io.2.1, io.2.2.1, fun q hq => ?_, io.2.2.2.2⟩⟩
  · have := r2'.2 q hq
    have y5 := ((im1.2.2.2.2.2.1 b hb).2.1 (by omega)).2 q (by have : q < N := hq; omega)
    have z5 := ((im1.2.2.2.2.2.1 d hd).2.1 (by omega)).2 q (by have : q < N := hq; omega)
    dsimp only at this
    rw [y5, z5] at this
    exact this
  · unfold upW
    by_cases x : q = a
    · rw [if_pos x]; exact wto
    · rw [if_neg x]; exact io.2.2.2.1 q hq
