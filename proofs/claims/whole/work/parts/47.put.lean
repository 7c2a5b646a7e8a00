/-! put, copy, toss */ -/
theorem nar_b (v : Int64) : -128 ≤ (nar (nI 1) v).toInt ∧ (nar (nI 1) v).toInt ≤ 127 := by
  have e : nar (nI 1) v = v.toInt32.toInt8.toInt32.toInt64 := if_pos rfl
  rw [e, Int32.toInt_toInt64, Int8.toInt_toInt32]
  have h1 := Int8.le_toInt v.toInt32.toInt8
  have h2 := Int8.toInt_lt v.toInt32.toInt8
  omega
theorem le_prd {b : Int32} {N : Nat} (hN : N ≤ 100000) : (b ≤ nI N - 1) ↔ b < nI N := by
  rw [ti_le, ti_lt, ti_sub (by rw [ti_nI (by omega), tl1]; omega) (by rw [ti_nI (by omega), tl1]; omega), ti_nI (by omega), tl1]
  omega
theorem o_put {n w} {a b : Int32} {x : Int64} (hi : Inv n w) : OP n w 92 182 [vI a, vI b, vL x] := by
  have hi0 := hi
  obtain ⟨R, cr, se, c, RL, PL, MK, A, M, WT, TP, v, rf, hv', ic, im, io⟩ := hi
  have hck : CK c se R := CK.c ic.2.1.symm ic.1.2.2.2.2.1
  have rf0 : ∀ z, (∀ w1, IC w1 R cr se c RL PL MK A M WT TP v (rf + 1) → IM w1 R cr se c RL PL MK A M WT TP v rf → Cl 182 [vO 0 90, vI a, vI b, vL x] w1 (kI fun y w2 => y = z ∧ Inv (n + 1) w2)) → kI (fun z w1 => Cl 182 (vO 0 90 :: [vI a, vI b, vL x]) w1 (kI fun y w2 => y = z ∧ Inv (n + 1) w2)) (.inl z) (sI w (0, 0) 10 (gI w (0, 0) 10 + 1)) :=
    fun z h => h _ (ic_ref ic) (IM_FC (FC_s (by omega)) im)
  apply v_X9_put_0
  refine ⟨bb_01, bbj (fun g1 => ?_) (fun g1 => ?_)⟩
  · have g1' := g1
    obtain ⟨d, hd, rfl⟩ := i_d g1
    have i6 : vp_in (nI d) 6 := in_nI hd (by omega)
    obtain ⟨t1, t2, t3⟩ := ic.2.2.2.2.2.2.1 d hd
    obtain ⟨p1, p2, p3⟩ := io.2.2.2.2 d hd
    have sv : ∀ w1, IM w1 R cr se c RL PL MK A M WT TP v rf → gI w1 (0, 118) d = nI (tS (TP d)) ∧ (1 ≤ tS (TP d) ∧ tS (TP d) ≤ 4 → gI w1 (0, 119) d = nI (tN (TP d))) := fun w1 h => ⟨(h.2.2.2.2.2.1 d hd).1, fun y => ((h.2.2.2.2.2.1 d hd).2.1 y).1⟩
    have s5 : ∀ q, q ≤ 5 → ((nI (tS (TP d)) = nI q) ↔ tS (TP d) = q) := fun q hq => nI_inj (by omega) (by omega)
    rw [cl_nI (by omega), t1]
    refine ⟨i6, bbj (fun g2 => ?_) (fun g2 => ?_)⟩
    · have hs : 1 ≤ tS (TP d) ∧ tS (TP d) ≤ 4 := by
        have h1 := g2.1; have h2 := g2.2
        rw [show (1 : Int32) = nI 1 from rfl, le_nI (by omega) (by omega)] at h1
        rw [show (4 : Int32) = nI 4 from rfl, le_nI (by omega) (by omega)] at h2
        exact ⟨h1, h2⟩
      obtain ⟨t4, t5⟩ := t2 hs
      obtain ⟨p4, p5⟩ := p2 hs
      rw [t4]
      refine bbj (fun g3 => ?_) (fun g3 => ?_)
      · obtain ⟨i, hi', rfl⟩ : ∃ i : Nat, i < tN (TP d) ∧ b = nI i := by
          obtain ⟨i, _, h1, h2⟩ := i_rng (x := b) (lo := 0) (hi := 100) ⟨g3.1, by have := g3.2; rw [ti_lt, ti_nI (by omega)] at this; rw [ti_le, ti_nI (by omega)]; omega⟩ (by omega) (by omega)
          refine ⟨i, ?_, h2⟩
          have := g3.2; rw [h2, lt_nI (by omega) (by omega)] at this; exact this
        have ia : vp_in (nI i) 100 := in_nI (by omega) (by omega)
        rw [cl_nI (by omega)]
        have ic1 : IC (sL w (d, 71) i (nar (nI (tS (TP d))) x)) R cr se c RL PL MK A M WT (upT TP d (tS (TP d), tN (TP d), ub (tE (TP d)) i (nar (nI (tS (TP d))) x), 0, tA (TP d), tM (TP d))) v rf := by
          refine IC_tp hd FT_l ⟨t1, fun _ => ⟨t4, fun q hq => ?_⟩, fun y => absurd y (by show ¬ tS (TP d) = 5; omega)⟩ ic
          rw [gL_sat, ub_eq]
          show _ = ub (tE (TP d)) i (nar (nI (tS (TP d))) x) q
          rw [ub_eq]
          by_cases e : q = i
          · rw [if_pos e, if_pos e]
          · rw [if_neg e, if_neg e]; exact t5 q hq
        have im1 := IM_FC (FC_l (w := w) (g := d) (j := 71) (f := ub (gL w (d, 71)) i (nar (nI (tS (TP d))) x)) (by omega)) im
        refine ⟨ia, ?_⟩
        show kI _ _ (aL w (d, 71) (ub (gL w (d, 71)) i (nar (nI (tS (TP d))) x)))
        have ic1' : IC (aL w (d, 71) (ub (gL w (d, 71)) i (nar (nI (tS (TP d))) x))) R cr se c RL PL MK A M WT (upT TP d (tS (TP d), tN (TP d), ub (tE (TP d)) i (nar (nI (tS (TP d))) x), 0, tA (TP d), tM (TP d))) v rf := ic1
        generalize aL w (d, 71) (ub (gL w (d, 71)) i (nar (nI (tS (TP d))) x)) = w1 at ic1' im1
        clear ic1
        obtain ⟨u1, u2, u3⟩ := im1.2.2.2.2.2.1 d hd
        obtain ⟨u4, u5⟩ := u2 hs
        show Cl 182 [vO 0 90, vI (nI d), vI (nI i), vL x] w1 _
        apply v_X10_put_0
        rw [cl_nI (by omega), u1, u4, ix_100, cl_nI (by omega)]
        have fm : FTm d w1 (sL w1 (0, 120) (100 * d + i) (nar (nI (tS (TP d))) x)) := FTm_l (by omega)
        refine ⟨bb_01, bbj (fun _ => ⟨i6, fun _ => ⟨i6, fun _ => ⟨i6, bbj (fun _ => ⟨i6, in_nI (by omega) (by omega), rfl, ?_⟩) (fun y => absurd ⟨g3.1, (le_prd (by omega)).mpr g3.2⟩ y)⟩, fun y => absurd ((s5 5 (by omega)).mp y) (by omega)⟩, fun y => absurd ((s5 0 (by omega)).mp y) (by omega)⟩) (fun y => absurd g1' y)⟩
        refine Inv.mk (by omega) (IC_FN fm.fm ic1') (IM_tp hd fm (TPo_n io).1 (TPo_n io).2 hck.2.1 ⟨u1, fun _ => ⟨u4, fun q hq => ?_⟩, fun y => absurd y (by show ¬ tS (TP d) = 5; omega)⟩ im1) (IO_tp ⟨p1, fun _ => ⟨p4, fun h1 q hq => ?_⟩, fun y => absurd y (by show ¬ tS (TP d) = 5; omega)⟩ io)
        · rw [gL_sat, ub_eq]
          show _ = ub (tE (TP d)) i (nar (nI (tS (TP d))) x) q
          rw [ub_eq]
          by_cases e : q = i
          · rw [if_pos (by omega), if_pos e]
          · rw [if_neg (by omega), if_neg e]; exact u5 q hq
        · show -128 ≤ (ub (tE (TP d)) i (nar (nI (tS (TP d))) x) q).toInt ∧ (ub (tE (TP d)) i (nar (nI (tS (TP d))) x) q).toInt ≤ 127
          have h1' : tS (TP d) = 1 := h1
          rw [ub_eq]
          by_cases e : q = i
          · rw [if_pos e, h1']; exact nar_b x
          · rw [if_neg e]; exact p5 h1' q hq
      · refine rf0 _ (fun w1 ic1 im1 => ?_)
        obtain ⟨u1, u2⟩ := sv w1 im1
        apply v_X10_put_0
        rw [cl_nI (by omega), u1, u2 hs]
        exact ⟨bb_01, bbj (fun _ => ⟨i6, fun _ => ⟨i6, fun _ => ⟨i6, bbj (fun y => absurd ⟨y.1, (le_prd (by omega)).mp y.2⟩ g3) (fun _ => ⟨rfl, inv_ref hv' ic1 im1 io⟩)⟩, fun y => absurd ((s5 5 (by omega)).mp y) (by omega)⟩, fun y => absurd ((s5 0 (by omega)).mp y) (by omega)⟩) (fun y => absurd g1' y)⟩
    · have hs : tS (TP d) = 0 ∨ tS (TP d) = 5 := by
        by_cases h0 : 1 ≤ tS (TP d)
        · by_cases h4 : tS (TP d) ≤ 4
          · exact absurd ⟨by rw [show (1 : Int32) = nI 1 from rfl, le_nI (by omega) (by omega)]; exact h0, by rw [show (4 : Int32) = nI 4 from rfl, le_nI (by omega) (by omega)]; exact h4⟩ g2
          · omega
        · omega
      refine ⟨fun g3 => ?_, fun g3 => ?_⟩
      · refine rf0 _ (fun w1 ic1 im1 => ?_)
        obtain ⟨u1, u2⟩ := sv w1 im1
        have e5 : tS (TP d) = 5 := hs.resolve_left (fun y => g3 ((s5 0 (by omega)).mpr y))
        apply v_X10_put_0
        rw [cl_nI (by omega), u1]
        exact ⟨bb_01, bbj (fun _ => ⟨i6, fun _ => ⟨i6, fun y => absurd ((s5 5 (by omega)).mpr e5) y, fun _ => ⟨rfl, inv_ref hv' ic1 im1 io⟩⟩, fun y => absurd y g3⟩) (fun y => absurd g1' y)⟩
      · refine rf0 _ (fun w1 ic1 im1 => ?_)
        obtain ⟨u1, u2⟩ := sv w1 im1
        apply v_X10_put_0
        rw [cl_nI (by omega), u1]
        exact ⟨bb_01, bbj (fun _ => ⟨i6, fun y => absurd g3 y, fun _ => ⟨rfl, inv_ref hv' ic1 im1 io⟩⟩) (fun y => absurd g1' y)⟩
  · show Cl 182 [vO 0 90, vI a, vI b, vL x] w _
    apply v_X10_put_0
    exact ⟨bb_01, bbj (fun y => absurd y g1) (fun _ => ⟨rfl, hi0.up (by omega)⟩)⟩
/-! copy */ -/
theorem cpy_up {α : Type} {m : Nat → α} {s d j : Nat} (h : d < s) : ub (va_cpy m m s d j) (d + j) (va_cpy m m s d j (s + j)) = va_cpy m m s d (j + 1) := by
  rw [show va_cpy m m s d j (s + j) = m (s + j) from va_cpy_out (by omega)]
  exact va_cpy_ub
def cpd {α : Type} (m : Nat → α) (s d n j : Nat) (q : Nat) : α := if d + (n - j) ≤ q ∧ q < d + n then m (s + (q - d)) else m q
theorem cpd_dn {α : Type} {m : Nat → α} {s d n j : Nat} (h : s ≤ d ∨ s + n ≤ d ∨ d + n ≤ s) (hj : j < n) : ub (cpd m s d n j) (d + (n - 1 - j)) (cpd m s d n j (s + (n - 1 - j))) = cpd m s d n (j + 1) := by
  have e : cpd m s d n j (s + (n - 1 - j)) = m (s + (n - 1 - j)) := if_neg (by omega)
  rw [e]
  funext q
  rw [ub_eq]
  unfold cpd
  by_cases h1 : q = d + (n - 1 - j)
  · rw [if_pos h1, if_pos (by omega), h1]; congr 1; omega
  · rw [if_neg h1]
    by_cases h2 : d + (n - j) ≤ q ∧ q < d + n
    · rw [if_pos h2, if_pos (by omega)]
    · rw [if_neg h2, if_neg (by omega)]
theorem cpd_0 {α : Type} {m : Nat → α} {s d n : Nat} : cpd m s d n 0 = m := by funext q; exact if_neg (by omega)
theorem cpu_up {α : Type} {m : Nat → α} {s d j n : Nat} (h : d < s ∨ s + n ≤ d ∨ d + n ≤ s) (hj : j < n) : ub (va_cpy m m s d j) (d + j) (va_cpy m m s d j (s + j)) = va_cpy m m s d (j + 1) := by
  rw [show va_cpy m m s d j (s + j) = m (s + j) from va_cpy_out (by omega)]
  exact va_cpy_ub
theorem cpd_n {α : Type} {m : Nat → α} {s d n : Nat} : cpd m s d n n = va_cpy m m s d n := by
  funext q
  unfold cpd
  by_cases h : d ≤ q ∧ q < d + n
  · rw [if_pos (by omega), va_cpy_in h.1 h.2]
  · rw [if_neg (by omega), va_cpy_out h]
theorem sLaL {w : PW} {o : Ob} {f : Nat → Int64} {k : Nat} {v : Int64} : sL (aL w o f) o k v = aL w o (ub f k v) := sL_aL
theorem m_copy_loop {w k} {a e i j n : Nat} (ha : a < 6) (he : e < 6) (hi : i + n ≤ 100) (hj : j + n ≤ 100)
    (hk : k (nI n) (aL w (0, 120) (va_cpy (gL w (0, 120)) (gL w (0, 120)) (100 * a + i) (100 * e + j) n))) :
    Wp 184 124 [some (.inr (.inr (0, 90))), some (.inl (nI a)), some (.inl (nI i)), some (.inl (nI e)), some (.inl (nI j)), some (.inl (nI n)), some (.inl 0), none] [] w (kI k) := by
  have disj : ¬ a = e → (100 * a + i + n ≤ 100 * e + j ∨ 100 * e + j + n ≤ 100 * a + i) := fun h => by omega
  have ixx : ∀ a i q : Nat, (100 : Int32) * nI a + nI i + nI q = nI (100 * a + i + q) := fun a i q => by rw [ix_100, nI_ad]
  by_cases g : i ≤ j
  · refine cntI (L := fun x => [some (.inr (.inr (0, 90))), some (.inl (nI a)), some (.inl (nI i)), some (.inl (nI e)), some (.inl (nI j)), some (.inl (nI n)), some (.inl x), none]) n (fun q w' => w' = aL w (0, 120) (cpd (gL w (0, 120)) (100 * a + i) (100 * e + j) n q)) rfl (by rw [cpd_0, aL_self]) ?_ ?_
    · rintro w' rfl
      apply v_X10_copy_124
      rw [cpd_n]
      exact ⟨fun _ => hk, fun x => absurd x (by rw [lt_nI (by omega) (by omega)]; omega)⟩
    · rintro q w' hq rfl hx
      apply v_X10_copy_124
      have e1 : nI n - 1 - nI q = nI (n - 1 - q) := by rw [show (1 : Int32) = nI 1 from rfl, nI_sb (by omega), nI_sb (by omega)]
      rw [e1, ixx, ixx, cl_nI (by omega), cl_nI (by omega), gL_at, sLaL, cpd_dn (by
        by_cases h : a = e
        · subst h; omega
        · have := disj h; omega) hq, nI_s1]
      refine ⟨fun x => absurd x (by rw [le_nI (by omega) (by omega)]; omega), fun _ => ⟨fun _ => ⟨in_nI (by omega) (by omega), in_nI (by omega) (by omega), hx _ rfl⟩, fun x => absurd x (by rw [lt_nI (by omega) (by omega)]; omega)⟩⟩
  · refine cntI (L := fun x => [some (.inr (.inr (0, 90))), some (.inl (nI a)), some (.inl (nI i)), some (.inl (nI e)), some (.inl (nI j)), some (.inl (nI n)), some (.inl x), none]) n (fun q w' => w' = aL w (0, 120) (va_cpy (gL w (0, 120)) (gL w (0, 120)) (100 * a + i) (100 * e + j) q)) rfl (by rw [va_cpy_0, aL_self]) ?_ ?_
    · rintro w' rfl
      apply v_X10_copy_124
      exact ⟨fun _ => hk, fun x => absurd x (by rw [lt_nI (by omega) (by omega)]; omega)⟩
    · rintro q w' hq rfl hx
      apply v_X10_copy_124
      refine ⟨fun x => absurd x (by rw [le_nI (by omega) (by omega)]; omega), fun _ => ⟨fun x => absurd x (by rw [le_nI (by omega) (by omega)]; omega), fun _ => ?_⟩⟩
      rw [ixx, ixx, cl_nI (by omega), cl_nI (by omega), gL_at, sLaL, cpu_up (n := n) (by
        by_cases h : a = e
        · subst h; omega
        · have := disj h; omega) hq, nI_s1]
      exact ⟨in_nI (by omega) (by omega), in_nI (by omega) (by omega), hx _ rfl⟩
