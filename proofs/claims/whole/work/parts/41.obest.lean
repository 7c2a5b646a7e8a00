theorem vm_nn_lt {f : Nat → Int32} {a : Nat} : ∀ k, (∀ i, i < k → 0 ≤ (f (a + i)).toInt) → 0 ≤ (vm f a k).toInt := by
  intro k
  induction k with
  | zero => intro _; exact Int.le_refl _
  | succ k ih =>
    intro h
    have h1 := ih (fun i hi => h i (by omega))
    have h2 := h k (by omega)
    show 0 ≤ (jmax (vm f a k) (f (a + k))).toInt
    rw [jmax_ti]; split <;> omega
theorem prb_dec (a s t : Nat) : prb a s t ∨ ¬ prb a s t := Classical.em _
theorem C_best {w k A R se cr RL PL M c} {WT : Nat → WW} {N Z : Nat} (he : EC w R cr se RL) (hc : ceq c (cf w)) (hwt : ∀ b, b < 4 → WTc w b (WT b).1 (WT b).2.1 (WT b).2.2) (hwo : ∀ b, b < 4 → WTo (WT b).1 (WT b).2.1 (WT b).2.2) (hp : PLc w PL) (hpl : PLo R PL) (hZ : Z ≤ 4) (hN : N ≤ 96) (hr : RO c R A M) (hlv : LV1 w 1 R A M)
    (hk : ∀ w' b, SB 2 ((aH A + 1) * 24) w w' → b < 2 ^ PL.length → (∀ t, t < 2 ^ PL.length → nI t &&& nI (lmsk (nI N) 0 PL) = 0 → Kb (Vb c se R cr RL PL M A WT N Z) b ≤ Kb (Vb c se R cr RL PL M A WT N Z) t) → k (nI b) w') :
    Wp 82 38 [some (.inr (.inr (0, 0))), some (.inl (nI Z)), some (.inl (nI N)), some (.inl 0), some (.inl 2147483647), some (.inl (nI (lmsk (nI N) 0 PL))), some (.inl 0), none, none] [] w (kI k) := by
  have hck : CK c se R := CK.c hc.symm he.2.2.2.2.1
  have hro := he.2.2.2.2.2.2
  have h24 := hck.2.1
  have p8 := hpl.1
  obtain ⟨t1, t256⟩ := pw_le p8
  have sh := shl_e p8
  generalize hm : lmsk (nI N) 0 PL = m at *
  generalize hV : Vb c se R cr RL PL M A WT N Z = V at *
  have hVn : ∀ t, 0 ≤ (V t).toInt := by
    intro t; rw [← hV]
    refine vm_nn_lt Z fun i hi => ?_
    exact (hv_b (cr := cr) (set := nI t) hck hro (hwo (0 + i) (by omega)) hpl hr hN).2.1
  have hVb : ∀ t, (V t).toInt ≤ 100000000 := by
    intro t; rw [← hV]; exact vm_100 hck hro hwo hpl hr hN hZ
  have fr99 : ∀ w', SB 2 ((aH A + 1) * 24) w w' → gI w' (99, 54) 3 = nI PL.length := fun w' h => by rw [h.2.1 99 54 (by rw [bg2]; unfold wg tg; omega)]; exact hp.1
  have main : ∀ y a w' b l, a + y = PL.length + 1 → SB 2 ((aH A + 1) * 24) w w' → bInv V (fun t => nI t &&& nI m = 0) (2 ^ PL.length) a 0 b l →
      Wp 82 38 [some (.inr (.inr (0, 0))), some (.inl (nI Z)), some (.inl (nI N)), some (.inl (nI b)), some (.inl l), some (.inl (nI m)), some (.inl (nI a)), none, none] [] w' (kI k) := by
    intro y
    induction y with
    | zero =>
      intro a w' b l ha hw hb
      apply v_X9_best_38
      rw [fr99 w' hw]
      refine ⟨fun _ => hk w' b hw hb.1 (fun t ht hel => ?_), fun e => absurd e (by rw [le_nI (by omega) (by omega)]; omega)⟩
      have pr : ∀ t, t < 2 ^ PL.length → prb a 0 t := by
        intro t ht
        have c1 := cnb_p p8 ht
        have c2 := cnb_le (s := t) PL.length 0
        unfold prb; omega
      rcases hb.2 with ⟨a1, a2, a3⟩ | ⟨a1, a2, a3, a4⟩
      · exact absurd (pr 0 (by omega)) (a3 0 (by omega) (show nI 0 &&& nI m = 0 by rw [and_e, Nat.zero_and]; rfl))
      · exact a4 t ht hel (pr t ht)
    | succ y ih =>
      intro a w' b l ha hw hb
      apply v_X9_best_38
      rw [fr99 w' hw]
      refine ⟨fun e => absurd e (by rw [lt_nI (by omega) (by omega)]; omega), fun _ => ?_⟩
      have inner : ∀ z s w' b l, s + z = 2 ^ PL.length → SB 2 ((aH A + 1) * 24) w w' → bInv V (fun t => nI t &&& nI m = 0) (2 ^ PL.length) a s b l →
          Wp 82 53 [some (.inr (.inr (0, 0))), some (.inl (nI Z)), some (.inl (nI N)), some (.inl (nI b)), some (.inl l), some (.inl (nI m)), some (.inl (nI a)), some (.inl (nI s)), none] [] w' (kI k) := by
        intro z
        induction z with
        | zero =>
          intro s w' b l hs hw hb
          obtain rfl : s = 2 ^ PL.length := by omega
          apply v_X9_best_53
          rw [fr99 w' hw, sh, nI_s1]
          exact ⟨fun _ => ih (a + 1) w' b l (by omega) hw (bInv_row hb), fun e => absurd e (by rw [lt_nI (by omega) (by omega)]; omega)⟩
        | succ z ih2 =>
          intro s w' b l hs hw hb
          have hsl : s < 2 ^ PL.length := by omega
          apply v_X9_best_53
          rw [fr99 w' hw, sh, nI_s1, nI_s1, jbc_e (by omega), nI_inj (by have := cnb_le (s := s) 8 0; omega) (by omega)]
          refine ⟨fun e => absurd e (by rw [le_nI (by omega) (by omega)]; omega), fun _ => ⟨fun g => ih (a + 1) w' b l (by omega) hw (bInv_zero hb t256 hVn g), fun g => ⟨fun g2 => ?_, fun g2 => ⟨fun g3 => ?_, fun g3 => ?_⟩⟩⟩⟩
          · exact ih2 (s + 1) w' b l (by omega) hw (bInv_skip hb (fun x => g2 x.2))
          · exact ih2 (s + 1) w' b l (by omega) hw (bInv_skip hb (fun x => g3 x.1))
          · have cm' := C_mostHarm (w := w') (a := 0) (Z := Z) (N := N) (set := nI s) (e5 := l) (k := fun x1 w2 => (l ≤ x1 → Wp 82 53 [some (.inr (.inr (0, 0))), some (.inl (nI Z)), some (.inl (nI N)), some (.inl (nI b)), some (.inl l), some (.inl (nI m)), some (.inl (nI a)), some (.inl (nI (s + 1))), none] [] w2 (kI k)) ∧ (x1 < l → Wp 82 53 [some (.inr (.inr (0, 0))), some (.inl (nI Z)), some (.inl (nI N)), some (.inl (nI s)), some (.inl x1), some (.inl (nI m)), some (.inl (nI a)), some (.inl (nI (s + 1))), none] [] w2 (kI k)))
              (PL := PL) (WT := WT) (A := A) (M := M) (c := c)
              (EC_of (fun j hj => hw.2.1 0 j (by rw [bg2]; unfold wg tg; omega)) he) (hc.tr hw.ceq) (fun b hb' => WTc_fr (fun j x y => hw.2.1 _ j (by rw [bg2]; unfold wg tg; omega)) (hwt b hb')) hwo (PLc_fr (fun j x y => hw.2.1 99 j (by rw [bg2]; unfold wg tg; omega)) hp) hpl (by omega) hN hr (TFl hw (Nat.le_refl _) h24 hlv)
            rw [Nat.zero_add] at cm'
            refine cm' ?_
            intro w2 x q1 q2
            have q2' : Spd l x (V s) := by rw [← hV]; exact q2
            refine ⟨fun g4 => ih2 (s + 1) w2 b l (by omega) (hw.tr q1) (bInv_keep hb t256 hsl hVn (hVb s) ?_ g2), fun g4 => ?_⟩
            · rw [ti_le]
              rw [ti_le] at g4
              by_cases e : V s < l
              · have e2 := q2'.1 e
                rw [e2] at g4; exact g4
              · rw [ti_lt] at e; omega
            · have e : V s < l := by
                refine Classical.byContradiction fun h => ?_
                have := q2'.2 (Int32.not_lt.mp h)
                rw [ti_le] at this; rw [ti_lt] at g4; omega
              have e2 := q2'.1 e
              rw [e2]
              exact ih2 (s + 1) w2 s (V s) (by omega) (hw.tr q1) (bInv_new hb t256 hsl e g2 g3)
      exact inner (2 ^ PL.length) 0 w' b l (by omega) hw hb
  refine main (PL.length + 1) 0 w 0 2147483647 (by omega) SB.refl ⟨by omega, Or.inl ⟨rfl, rfl, fun t _ _ h => ?_⟩⟩
  unfold prb at h; omega
theorem M_best {w k A R se cr RL PL M c} {WT : Nat → WW} {N Z : Nat} (he : EM w R cr se RL PL) (hck : CK c se R) (hce : CE R c (cm w)) (hwt : ∀ b, b < 4 → WTm w b (WT b).1 (WT b).2.1 (WT b).2.2) (hwo : ∀ b, b < 4 → WTo (WT b).1 (WT b).2.1 (WT b).2.2) (hpl : PLo R PL) (hZ : Z ≤ 4) (hN : N ≤ 96) (hr : RO c R A M) (hkm : KM (gI w (1, 114)) R M A)
    (hk : ∀ w' b, MB 2 w w' → b < 2 ^ PL.length → (∀ t, t < 2 ^ PL.length → Kb (Vb c se R cr RL PL M A WT N Z) b ≤ Kb (Vb c se R cr RL PL M A WT N Z) t) → k (nI b) w') :
    Wp 170 35 [some (.inr (.inr (0, 90))), some (.inl (nI Z)), some (.inl (nI N)), some (.inl 0), some (.inl (Vb c se R cr RL PL M A WT N Z 0)), some (.inl 1), none] [] w (kI k) := by
  have p8 := hpl.1
  obtain ⟨t1, t256⟩ := pw_le p8
  have sh := shl_e p8
  have main : ∀ z i w' b, i + z = 2 ^ PL.length → b < i → MB 2 w w' → (∀ t, t < i → Kb (Vb c se R cr RL PL M A WT N Z) b ≤ Kb (Vb c se R cr RL PL M A WT N Z) t) →
      Wp 170 35 [some (.inr (.inr (0, 90))), some (.inl (nI Z)), some (.inl (nI N)), some (.inl (nI b)), some (.inl (Vb c se R cr RL PL M A WT N Z b)), some (.inl (nI i)), none] [] w' (kI k) := by
    intro z
    induction z with
    | zero =>
      intro i w' b hi hb hw hm
      obtain rfl : i = 2 ^ PL.length := by omega
      apply v_X10_best_35
      rw [hw.2.2 34 (by omega), he.2.2.2.2.2.2.1.1, sh]
      exact ⟨fun _ => hk w' b hw hb hm, fun e => absurd e (by rw [lt_nI (by omega) (by omega)]; omega)⟩
    | succ z ih =>
      intro i w' b hi hb hw hm
      apply v_X10_best_35
      rw [hw.2.2 34 (by omega), he.2.2.2.2.2.2.1.1, sh, nI_s1]
      refine ⟨fun e => absurd e (by rw [le_nI (by omega) (by omega)]; omega), fun _ => ?_⟩
      refine M_worstOf (WT := WT) (A := A) (M := M) (c := c) (EM_mb hw he) hck (CE_fr (fun j hj => hw.2.1 0 j (by omega)) hce) (fun b hb' => WTm_fr (fun j hj => hw.2.1 0 j (by omega)) (hwt b hb')) hwo hpl hZ hN hr (by rw [hw.2.1 1 114 (by omega)]; exact hkm) ?_
      intro w2 q1
      show (Vb c se R cr RL PL M A WT N Z b < Vb c se R cr RL PL M A WT N Z i → _) ∧ (Vb c se R cr RL PL M A WT N Z i ≤ Vb c se R cr RL PL M A WT N Z b → (¬ Vb c se R cr RL PL M A WT N Z i = Vb c se R cr RL PL M A WT N Z b → Wp 170 35 [_, _, _, _, some (.inl (Vb c se R cr RL PL M A WT N Z i)), _, _] _ _ _) ∧ (Vb c se R cr RL PL M A WT N Z i = Vb c se R cr RL PL M A WT N Z b → _))
      have ci := cnb_le (s := i) 8 0
      have cb := cnb_le (s := b) 8 0
      have old : Kb (Vb c se R cr RL PL M A WT N Z) b ≤ Kb (Vb c se R cr RL PL M A WT N Z) i → Wp 170 35 [some (.inr (.inr (0, 90))), some (.inl (nI Z)), some (.inl (nI N)), some (.inl (nI b)), some (.inl (Vb c se R cr RL PL M A WT N Z b)), some (.inl (nI (i + 1))), none] [] w2 (kI k) := fun hle =>
        ih (i + 1) w2 b (by omega) (by omega) (hw.tr q1) (fun t ht => by
          by_cases e : t = i
          · subst e; exact hle
          · exact hm t (by omega))
      have new : Kb (Vb c se R cr RL PL M A WT N Z) i ≤ Kb (Vb c se R cr RL PL M A WT N Z) b → Wp 170 35 [some (.inr (.inr (0, 90))), some (.inl (nI Z)), some (.inl (nI N)), some (.inl (nI i)), some (.inl (Vb c se R cr RL PL M A WT N Z i)), some (.inl (nI (i + 1))), none] [] w2 (kI k) := fun hle =>
        ih (i + 1) w2 i (by omega) (by omega) (hw.tr q1) (fun t ht => by
          by_cases e : t = i
          · subst e; exact Int.le_refl _
          · exact Int.le_trans hle (hm t (by omega)))
      refine ⟨fun g => old ?_, fun g => ⟨fun g2 => new ?_, fun g2 => ?_⟩⟩
      · rw [ti_lt] at g; unfold Kb; omega
      · rw [ti_le] at g; rw [ti_eq] at g2; unfold Kb; omega
      · refine m_bits (by omega) ?_
        refine m_bits (by omega) ?_
        rw [lt_nI (by omega) (by omega), le_nI (by omega) (by omega)]
        rw [ti_eq] at g2
        refine ⟨fun g3 => new ?_, fun g3 => old ?_⟩
        · unfold Kb; omega
        · unfold Kb; omega
  refine main (2 ^ PL.length - 1) 1 w 0 (by omega) (by omega) MB.refl (fun t ht => ?_)
  obtain rfl : t = 0 := by omega
  exact Int.le_refl _
theorem o_best {n w} {a b : Int32} (hi : Inv n w) : OP n w 82 170 [vI a, vI b] := by
  have hi0 := hi
  obtain ⟨R, cr, se, c, RL, PL, MK, A, M, WT, TP, v, rf, hv', ic, im, io⟩ := hi
  have ic0 := ic
  have im0 := im
  obtain ⟨c1, c2, c3, c4, c5, c6, c7, c8, c9⟩ := ic
  obtain ⟨m1, m2, m3, m4, m5, m6, m7, m8⟩ := im
  obtain ⟨o1, o2, o3, o4, o5⟩ := io
  have hck : CK c se R := CK.c c2.symm c1.2.2.2.2.1
  have no : ¬ ((1 ≤ a ∧ a ≤ 4) ∧ (1 ≤ b ∧ b ≤ 96)) → kI (fun x w1 => Cl 170 (vO 0 90 :: [vI a, vI b]) w1 (kI fun y w2 => y = x ∧ Inv (n + 1) w2)) (.inl (-1)) w := by
    intro hn
    show Cl 170 [vO 0 90, vI a, vI b] w _
    have fin : kI (fun y w2 => y = -1 ∧ Inv (n + 1) w2) (.inl (-1)) w := ⟨rfl, hi0.up (by omega)⟩
    apply v_X10_best_0
    exact bbi (fun g1 => bbj (fun g2 => absurd ⟨g1, g2⟩ hn) (fun _ => fin)) (fun _ => fin)
  apply v_X9_best_0
  refine bbi (fun g1 => ⟨bb_01, bbj (fun g2 => ?_) (fun g => no (fun x => g x.2))⟩) (fun g => no (fun x => g x.1))
  obtain ⟨Z, hZ1, hZ, rfl⟩ := i_rng (lo := 1) (hi := 4) g1 (by omega) (by omega)
  obtain ⟨N, _, hN, rfl⟩ := i_rng (lo := 1) (hi := 96) g2 (by omega) (by omega)
  refine c_mask c3 o1.1 ?_
  refine C_best c1 c2 c6 o4 c3 o1 hZ hN o3 c5 ?_
  intro w1 bc q1 qb q2
  have im1 := IM_FC q1.fc im0
  have ic1 := IC_SB2 q1 hck.2.1 ic0
  obtain ⟨m1, m2, m3, m4, m5, m6, m7, m8⟩ := im1
  have im1 := IM_FC q1.fc im0
  show Cl 170 [vO 0 90, vI (nI Z), vI (nI N)] w1 _
  apply v_X10_best_0
  refine bbi (fun _ => bbj (fun _ => ?_) (fun e => absurd g2 e)) (fun e => absurd g1 e)
  refine M_worstOf (set := nI 0) m1 hck m2 m5 o4 o1 hZ hN o3 m4 ?_
  intro w2 p1
  refine M_best (A := A) (M := M) (c := c) (WT := WT) (EM_mb p1 m1) hck (CE_fr (fun j hj => p1.2.1 0 j (by omega)) m2) (fun b hb' => WTm_fr (fun j hj => p1.2.1 0 j (by omega)) (m5 b hb')) o4 o1 hZ hN o3 (by rw [p1.2.1 1 114 (by omega)]; exact m4) ?_
  intro w3 bm s1 sb s2
  obtain ⟨t1, t256⟩ := pw_le o1.1
  refine ⟨?_, Inv.mk (by omega) (IC_FN (p1.tr s1).fm ic1) (IM_MB2 (p1.tr s1) im1) ⟨o1, o2, o3, o4, o5⟩⟩
  have k1 : Kb (Vb c se R cr RL PL M A WT N Z) bc ≤ Kb (Vb c se R cr RL PL M A WT N Z) bm := by
    by_cases hel : nI bm &&& nI (lmsk (nI N) 0 PL) = 0
    · exact q2 bm sb hel
    · obtain ⟨t, x1, x2, x3, x4⟩ := late_le (c := c) (se := se) (cr := cr) (RL := RL) (WT := WT) (Z := Z) o1 o3 hN (Nat.le_refl _) o1.1 sb hel
      have := q2 t x1 x2
      have cb := cnb_le (s := bm) 8 0
      unfold Kb at *
      rw [x3] at this
      omega
  have k2 := s2 bc qb
  have cb := cnb_le (s := bm) 8 0
  have cc := cnb_le (s := bc) 8 0
  have : bm = bc := by unfold Kb at *; omega
  rw [this]
