/-! reads: now, crest, reading, came, holds, count, planless, ruleless */ -/
theorem Rel.e {R σ μ i} (h : Rel R σ μ) (hi : i < R) : μ 0 i = σ 0 i ∧ μ 1 i = σ 1 i ∧ μ 2 i = (if σ 1 i = 0 then -2 else σ 2 i) ∧ μ 3 i = σ 3 i ∧ μ 4 i = σ 4 i ∧ μ 5 i = σ 6 i ∧ μ 6 i = σ 7 i ∧ μ 7 i = σ 8 i ∧ μ 8 i = σ 9 i ∧ μ 9 i = σ 5 i ∧
  (σ 11 i = 0 → σ 10 i = -1) ∧ (¬ σ 11 i = 0 → μ 10 i = σ 10 i) ∧ μ 11 i = σ 11 i := h i hi
theorem o_now {n w} {a b : Int32} (hi : Inv n w) : OP n w 73 156 [vI a, vI b] := by
  have hi0 := hi
  obtain ⟨R, cr, se, c, RL, PL, MK, A, M, WT, TP, v, rf, hv', ic, im, io⟩ := hi
  obtain ⟨c1, c2, c3, c4, c5, c6, c7, c8, c9⟩ := ic
  obtain ⟨m1, m2, m3, m4, m5, m6, m7, m8⟩ := im
  have hck : CK c se R := CK.c c2.symm c1.2.2.2.2.1
  have h24 := hck.2.1
  have cs := c5.1.1
  apply v_X9_now_0
  rw [c1.1]
  refine ⟨bb_01, bbj (fun g1 => ?_) (fun g1 => ?_)⟩
  · have g1' := g1
    obtain ⟨i, hi', rfl⟩ := i_cell g1 hck.1 h24
    have in24 : vp_in (nI i) 24 := in_nI (by omega) (by omega)
    have rel := m4.1 i hi'
    dsimp only at rel
    obtain ⟨h0, h1, h2, h3, h4, h5, h6, h7, h8, h9, h10, h11, h12⟩ := rel
    have s0 : gI w (1, 41) i = aS A 0 i := congrFun (cs 0 (by omega)) i
    have s1 : gI w (1, 42) i = aS A 1 i := congrFun (cs 1 (by omega)) i
    have s2 : gI w (1, 43) i = aS A 2 i := congrFun (cs 2 (by omega)) i
    have s3 : gI w (1, 44) i = aS A 3 i := congrFun (cs 3 (by omega)) i
    have s4 : gI w (1, 45) i = aS A 4 i := congrFun (cs 4 (by omega)) i
    have s5 : gI w (1, 46) i = aS A 5 i := congrFun (cs 5 (by omega)) i
    have s6 : gI w (1, 47) i = aS A 6 i := congrFun (cs 6 (by omega)) i
    have s7 : gI w (1, 48) i = aS A 7 i := congrFun (cs 7 (by omega)) i
    have s8 : gI w (1, 49) i = aS A 8 i := congrFun (cs 8 (by omega)) i
    have s9 : gI w (1, 50) i = aS A 9 i := congrFun (cs 9 (by omega)) i
    have k1 : gI w (0, 3) i = c 1 i := congrFun (c2 1 (by omega)) i
    have k2 : gI w (0, 4) i = c 2 i := congrFun (c2 2 (by omega)) i
    have d1 : gI w (0, 92) i = c 1 i := m2 1 i (by omega) hi'
    have d2 : gI w (0, 93) i = c 2 i := m2 2 i (by omega) hi'
    have ok := (io.2.2.1.1.1.1 i hi')
    have z : ¬ c 2 i = 0 := fun e => by have := (hck.2.2.2 i hi').2.2.1; rw [e, tl0] at this; omega
    have inj : ∀ f, f < 12 → vp_in (nI (12 * i + f)) 19675 := fun f hf => in_nI (by omega) (by omega)
    have M : ∀ x, ((b = 0 → x = c 1 i + aS A 0 i / c 2 i) ∧ (b = 1 → x = aS A 0 i) ∧ (b = 2 → x = aS A 1 i) ∧ (b = 3 → x = aS A 3 i) ∧ (b = 4 → x = aS A 4 i) ∧ (b = 5 → x = aS A 6 i) ∧ (b = 6 → x = aS A 7 i) ∧ (b = 7 → x = aS A 8 i) ∧ (b = 8 → x = aS A 9 i) ∧ (b = 9 → x = if aS A 1 i = 0 then -2 else aS A 2 i) ∧ (b = 10 → x = aS A 5 i) ∧
        (¬ b = 0 → ¬ b = 1 → ¬ b = 2 → ¬ b = 3 → ¬ b = 4 → ¬ b = 5 → ¬ b = 6 → ¬ b = 7 → ¬ b = 8 → ¬ b = 9 → ¬ b = 10 → x = -1)) →
        kI (fun x w1 => Cl 156 (vO 0 90 :: [vI (nI i), vI b]) w1 (kI fun y w2 => y = x ∧ Inv (n + 1) w2)) (.inl x) w := by
      rintro x ⟨y0, y1, y2, y3, y4, y5, y6, y7, y8, y9, y10, y11⟩
      show Cl 156 [vO 0 90, vI (nI i), vI b] w _
      have fin : ∀ y, y = x → kI (fun y w2 => y = x ∧ Inv (n + 1) w2) (.inl y) w := fun y hy => ⟨hy, hi0.up (by omega)⟩
      apply v_X10_now_0
      rw [m1.1, ix_0, ix_1, ix_2, ix_3, ix_4, ix_5, ix_6, ix_7, ix_8, ix_9, cl_nI (by omega), cl_nI (by omega), cl_nI (by omega), cl_nI (by omega), cl_nI (by omega), cl_nI (by omega), cl_nI (by omega), cl_nI (by omega), cl_nI (by omega), cl_nI (by omega), cl_nI (by omega), h0, h1, h2, h3, h4, h5, h6, h7, h8, h9, d1, d2]
      refine ⟨bb_01, bbj (fun _ => ⟨fun e => ⟨in24, inj 0 (by omega), in24, z, fin _ (y0 e).symm⟩, fun n0 => ⟨fun e => ⟨inj 0 (by omega), fin _ (y1 e).symm⟩, fun n1 => ⟨fun e => ⟨inj 1 (by omega), fin _ (y2 e).symm⟩, fun n2 => ⟨fun e => ⟨inj 3 (by omega), fin _ (y3 e).symm⟩, fun n3 => ⟨fun e => ⟨inj 4 (by omega), fin _ (y4 e).symm⟩, fun n4 => ⟨fun e => ⟨inj 5 (by omega), fin _ (y5 e).symm⟩, fun n5 => ⟨fun e => ⟨inj 6 (by omega), fin _ (y6 e).symm⟩, fun n6 => ⟨fun e => ⟨inj 7 (by omega), fin _ (y7 e).symm⟩, fun n7 => ⟨fun e => ⟨inj 8 (by omega), fin _ (y8 e).symm⟩, fun n8 => ⟨fun e => ⟨inj 2 (by omega), fin _ (y9 e).symm⟩, fun n9 => ⟨fun e => ⟨inj 9 (by omega), fin _ (y10 e).symm⟩, fun n10 => fin _ (y11 n0 n1 n2 n3 n4 n5 n6 n7 n8 n9 n10).symm⟩⟩⟩⟩⟩⟩⟩⟩⟩⟩⟩) (fun e => absurd g1' e)⟩
    have Mb : ∀ q : Nat, q ≤ 10 → ∀ x, b = nI q → x = (match q with | 0 => c 1 i + aS A 0 i / c 2 i | 1 => aS A 0 i | 2 => aS A 1 i | 3 => aS A 3 i | 4 => aS A 4 i | 5 => aS A 6 i | 6 => aS A 7 i | 7 => aS A 8 i | 8 => aS A 9 i | 9 => if aS A 1 i = 0 then -2 else aS A 2 i | _ => aS A 5 i) →
        kI (fun x w1 => Cl 156 (vO 0 90 :: [vI (nI i), vI b]) w1 (kI fun y w2 => y = x ∧ Inv (n + 1) w2)) (.inl x) w := by
      intro q hq x hb hx
      have ne : ∀ q', q' ≤ 10 → ¬ q = q' → ∀ {P : Prop}, b = nI q' → P := fun q' h' hne P e => by
        rw [hb, nI_inj (by omega) (by omega)] at e; exact absurd e hne
      have nx : ∀ {P : Prop}, ¬ b = nI q → P := fun {P} e => absurd hb e
      refine M x ?_
      rcases (show q = 0 ∨ q = 1 ∨ q = 2 ∨ q = 3 ∨ q = 4 ∨ q = 5 ∨ q = 6 ∨ q = 7 ∨ q = 8 ∨ q = 9 ∨ q = 10 by omega) with rfl | rfl | rfl | rfl | rfl | rfl | rfl | rfl | rfl | rfl | rfl
      all_goals
        refine ⟨?_, ?_, ?_, ?_, ?_, ?_, ?_, ?_, ?_, ?_, ?_, ?_⟩
        all_goals first
          | exact fun _ => hx
          | exact ne 0 (by omega) (by omega)
          | exact ne 1 (by omega) (by omega)
          | exact ne 2 (by omega) (by omega)
          | exact ne 3 (by omega) (by omega)
          | exact ne 4 (by omega) (by omega)
          | exact ne 5 (by omega) (by omega)
          | exact ne 6 (by omega) (by omega)
          | exact ne 7 (by omega) (by omega)
          | exact ne 8 (by omega) (by omega)
          | exact ne 9 (by omega) (by omega)
          | exact ne 10 (by omega) (by omega)
          | exact fun _ _ _ _ _ _ _ _ _ _ e => nx e
          | exact fun _ _ _ _ _ _ _ _ _ e _ => nx e
          | exact fun _ _ _ _ _ _ _ _ e _ _ => nx e
          | exact fun _ _ _ _ _ _ _ e _ _ _ => nx e
          | exact fun _ _ _ _ _ _ e _ _ _ _ => nx e
          | exact fun _ _ _ _ _ e _ _ _ _ _ => nx e
          | exact fun _ _ _ _ e _ _ _ _ _ _ => nx e
          | exact fun _ _ _ e _ _ _ _ _ _ _ => nx e
          | exact fun _ _ e _ _ _ _ _ _ _ _ => nx e
          | exact fun _ e _ _ _ _ _ _ _ _ _ => nx e
          | exact fun e _ _ _ _ _ _ _ _ _ _ => nx e
    rw [cl_nI (by omega), s0, s1, s2, s3, s4, s5, s6, s7, s8, s9, k1, k2]
    refine ⟨fun e => ⟨in24, in24, in24, z, Mb 0 (by omega) _ e rfl⟩, fun n0 => ⟨fun e => ⟨in24, Mb 1 (by omega) _ e rfl⟩, fun n1 => ⟨fun e => ⟨in24, Mb 2 (by omega) _ e rfl⟩, fun n2 => ⟨fun e => ⟨in24, Mb 3 (by omega) _ e rfl⟩, fun n3 => ⟨fun e => ⟨in24, Mb 4 (by omega) _ e rfl⟩, fun n4 => ⟨fun e => ⟨in24, Mb 5 (by omega) _ e rfl⟩, fun n5 => ⟨fun e => ⟨in24, Mb 6 (by omega) _ e rfl⟩, fun n6 => ⟨fun e => ⟨in24, Mb 7 (by omega) _ e rfl⟩, fun n7 => ⟨fun e => ⟨in24, Mb 8 (by omega) _ e rfl⟩, fun n8 => ⟨fun e => ⟨in24, fun g => ?_, fun g => ⟨in24, ?_⟩⟩, fun n9 => ⟨fun e => ⟨in24, Mb 10 (by omega) _ e rfl⟩, fun n10 => ?_⟩⟩⟩⟩⟩⟩⟩⟩⟩⟩⟩
    · refine Mb 9 (by omega) _ e ?_
      have : aS A 1 i = 0 := by have := ok.2.1; rw [ti_le, tl0] at g; rw [ti_eq, tl0]; omega
      show _ = if aS A 1 i = 0 then -2 else aS A 2 i
      rw [if_pos this]
    · refine Mb 9 (by omega) _ e ?_
      have : ¬ aS A 1 i = 0 := fun h => by rw [h] at g; exact absurd g (by decide)
      show _ = if aS A 1 i = 0 then -2 else aS A 2 i
      rw [if_neg this]
    · exact M _ ⟨fun e => absurd e n0, fun e => absurd e n1, fun e => absurd e n2, fun e => absurd e n3, fun e => absurd e n4, fun e => absurd e n5, fun e => absurd e n6, fun e => absurd e n7, fun e => absurd e n8, fun e => absurd e n9, fun e => absurd e n10, fun _ _ _ _ _ _ _ _ _ _ _ => rfl⟩
  · show Cl 156 [vO 0 90, vI a, vI b] w _
    apply v_X10_now_0
    rw [m1.1]
    exact ⟨bb_01, bbj (fun e => absurd e g1) (fun _ => ⟨rfl, hi0.up (by omega)⟩)⟩
theorem o_crest {n w} {a b : Int32} (hi : Inv n w) : OP n w 74 157 [vI a, vI b] := by
  have hi0 := hi
  obtain ⟨R, cr, se, c, RL, PL, MK, A, M, WT, TP, v, rf, hv', ic, im, io⟩ := hi
  obtain ⟨c1, c2, c3, c4, c5, c6, c7, c8, c9⟩ := ic
  obtain ⟨m1, m2, m3, m4, m5, m6, m7, m8⟩ := im
  have hck : CK c se R := CK.c c2.symm c1.2.2.2.2.1
  have h24 := hck.2.1
  have h300 := io.2.2.1.2.2.1
  have cs := c5.1.1
  have hch : gI w (1, 40) 0 = nI (aH A) := c5.1.2.1
  have hmh : gI w (1, 114) 288 = nI (aH A) := m4.2.1
  have in8 : vp_in 288 19675 := in_nI (j := 288) (by omega) (by omega)
  have no : ¬ ((0 ≤ a ∧ a ≤ nI R - 1) ∧ (0 ≤ b ∧ b ≤ 1) ∧ ¬ nI (aH A) = 0) → kI (fun x w1 => Cl 157 (vO 0 90 :: [vI a, vI b]) w1 (kI fun y w2 => y = x ∧ Inv (n + 1) w2)) (.inl (-1)) w := by
    intro hn
    show Cl 157 [vO 0 90, vI a, vI b] w _
    have fin : kI (fun y w2 => y = -1 ∧ Inv (n + 1) w2) (.inl (-1)) w := ⟨rfl, hi0.up (by omega)⟩
    apply v_X10_crest_0
    rw [m1.1, hmh]
    refine ⟨bb_01, bbi (fun g1 => bbi (fun g2 => ⟨in8, fun g3 => ⟨b01_0, fun e => absurd rfl e, fun _ => fin⟩, fun g3 => absurd ⟨g1, g2, fun e => ?_⟩ hn⟩) (fun _ => fin)) (fun _ => fin)⟩
    rw [e] at g3; exact absurd g3 (by decide)
  apply v_X9_crest_0
  rw [c1.1, hch]
  refine ⟨bb_01, bbi (fun g1 => bbi (fun g2 => ⟨fun g3 => ?_, fun g3 => no (fun x => x.2.2 g3)⟩) (fun g => no (fun x => g x.2.1))) (fun g => no (fun x => g x.1))⟩
  have g1' := g1
  obtain ⟨i, hi', rfl⟩ := i_cell g1 hck.1 h24
  have in24 : vp_in (nI i) 24 := in_nI (by omega) (by omega)
  have hp : 0 < aH A := Nat.pos_of_ne_zero fun e => g3 (by rw [e]; rfl)
  have rel := m4.1 i hi'
  dsimp only at rel
  obtain ⟨h0, h1, h2, h3, h4, h5, h6, h7, h8, h9, h10, h11, h12⟩ := rel
  have hc := m4.2.2.2.2.2.2.2.2.2 hp i hi'
  have s10 : gI w (1, 51) i = aS A 10 i := congrFun (cs 10 (by omega)) i
  have s11 : gI w (1, 52) i = aS A 11 i := congrFun (cs 11 (by omega)) i
  rw [cl_nI (by omega), s10, s11]
  have main : ∀ q : Nat, q ≤ 1 → b = nI q → ∀ x, gI w (1, 114) (12 * i + (10 + q)) = x → kI (fun x w1 => Cl 157 (vO 0 90 :: [vI (nI i), vI b]) w1 (kI fun y w2 => y = x ∧ Inv (n + 1) w2)) (.inl x) w := by
    rintro q hq rfl x rfl
    show Cl 157 [vO 0 90, vI (nI i), vI (nI q)] w _
    apply v_X10_crest_0
    have e : (12 : Int32) * nI i + (10 + nI q) = nI (12 * i + (10 + q)) := by rw [show (12 : Int32) = nI 12 from rfl, nI_ml, show (10 : Int32) = nI 10 from rfl, nI_ad, nI_ad]
    rw [m1.1, hmh, e, cl_nI (by omega)]
    refine ⟨bb_01, bbi (fun _ => bbi (fun _ => ⟨in8, fun e => ?_, fun _ => ⟨b01_1, fun _ => ⟨in_nI (by omega) (by omega), rfl, hi0.up (by omega)⟩, fun e => absurd e (by decide)⟩⟩) (fun e => absurd g2 e)) (fun e => absurd g1' e)⟩
    rw [i_le0 (by omega)] at e; omega
  refine ⟨fun g4 => ⟨in24, ?_⟩, fun g4 => ⟨in24, main 0 (by omega) g4 _ (h11 hc)⟩⟩
  obtain ⟨q, _, hq, e⟩ := i_rng (lo := 0) (hi := 1) g2 (by omega) (by omega)
  have : q = 1 := by
    rcases (show q = 0 ∨ q = 1 by omega) with h | h
    · exact absurd (by rw [e, h]; rfl) g4
    · exact h
  exact main 1 (by omega) (by rw [e, this]) _ h12
theorem kn_none {R hr rl rf M i h} {a : Int} (hb : BO R hr rl rf M) (hi : i < R) (hh : hr < h) : kn rl rf a M i h = -1 := by
  have base : ∀ l : List M4, (∀ x, x ∈ l → x ∈ M) → kn rl rf a l i h = -1 := by
    intro l
    induction l with
    | nil =>
      intro _
      refine if_neg (fun x => ?_)
      have := hb.2.2 i h hi x.1; omega
    | cons x l ih =>
      intro hl
      have hx := hb.2.1 x (hl x (List.mem_cons_self ..))
      unfold kn
      rw [if_neg (fun y => by have := y.1.2; omega)]
      exact ih (fun y hy => hl y (List.mem_cons_of_mem _ hy))
  exact base M (fun _ h => h)
theorem o_reading {n w} {a b d : Int32} (hi : Inv n w) : OP n w 75 158 [vI a, vI b, vI d] := by
  have hi0 := hi
  obtain ⟨R, cr, se, c, RL, PL, MK, A, M, WT, TP, v, rf, hv', ic, im, io⟩ := hi
  obtain ⟨c1, c2, c3, c4, c5, c6, c7, c8, c9⟩ := ic
  obtain ⟨m1, m2, m3, m4, m5, m6, m7, m8⟩ := im
  have hck : CK c se R := CK.c c2.symm c1.2.2.2.2.1
  have h24 := hck.2.1
  have h300 := io.2.2.1.2.2.1
  have hb := io.2.2.1.2.1
  have hch : gI w (1, 40) 0 = nI (aH A) := c5.1.2.1
  have bkm := m4.2.2.2.2.2.2.2.2.1
  have fin : kI (fun y w2 => y = -1 ∧ Inv (n + 1) w2) (.inl (-1)) w := ⟨rfl, hi0.up (by omega)⟩
  have no : ¬ ((0 ≤ a ∧ a ≤ nI R - 1) ∧ (1 ≤ b ∧ b ≤ nI (aH A))) → kI (fun x w1 => Cl 158 (vO 0 90 :: [vI a, vI b, vI d]) w1 (kI fun y w2 => y = x ∧ Inv (n + 1) w2)) (.inl (-1)) w := by
    intro hn
    show Cl 158 [vO 0 90, vI a, vI b, vI d] w _
    apply v_X10_reading_0
    rw [m1.1]
    refine ⟨bb_01, bbi (fun g1 => bbj (fun g2 => ?_) (fun _ => fin)) (fun _ => fin)⟩
    obtain ⟨h, h1, h2, rfl⟩ := i_rng (lo := 1) (hi := 300) g2 (by omega) (by omega)
    have hgt : aH A < h := by
      refine Nat.lt_of_not_le fun hle => hn ⟨g1, g2.1, ?_⟩
      rw [le_nI (by omega) (by omega)]; exact hle
    obtain ⟨i, hi', rfl⟩ := i_cell g1 hck.1 h24
    refine gm_known bkm hb hi' h24 (by omega) (by omega) ?_
    rw [kn_none hb hi' hgt]; exact fin
  apply v_X9_reading_0
  rw [c1.1, hch]
  refine ⟨bb_01, bbi (fun g1 => bbj (fun g2 => ?_) (fun g => no (fun x => g x.2))) (fun g => no (fun x => g x.1))⟩
  have g1' := g1
  obtain ⟨i, hi', rfl⟩ := i_cell g1 hck.1 h24
  obtain ⟨h, h1, h2, rfl⟩ := i_rng (lo := 1) (hi := aH A) g2 (by omega) (by omega)
  refine c_levelKnown c5.2 (BL1 (by omega)) hb hi' h24 h1 h2 (by omega) ?_
  show Cl 158 [vO 0 90, vI (nI i), vI (nI h), vI d] w _
  apply v_X10_reading_0
  rw [m1.1]
  refine ⟨bb_01, bbi (fun _ => bbj (fun _ => ?_) (fun e => absurd ⟨g2.1, ?_⟩ e)) (fun e => absurd g1' e)⟩
  · exact gm_known bkm hb hi' h24 (by omega) (by omega) ⟨rfl, hi0.up (by omega)⟩
  · rw [show (300 : Int32) = nI 300 from rfl, le_nI (by omega) (by omega)]; omega
theorem i_rule {a : Int32} {N : Nat} (h : 0 ≤ a ∧ a ≤ nI N - 1) (hN : N ≤ 12) : ∃ i : Nat, i < N ∧ a = nI i := by
  by_cases h0 : N = 0
  · subst h0
    have h1 := h.1
    have h2 := h.2
    rw [ti_le, tl0] at h1
    rw [ti_le, show (nI 0 - 1 : Int32).toInt = -1 by decide] at h2
    omega
  · exact of_rng h.1 h.2 (by omega) (by omega)
theorem o_came {n w} {a : Int32} (hi : Inv n w) : OP n w 78 162 [vI a] := by
  have hi0 := hi
  obtain ⟨R, cr, se, c, RL, PL, MK, A, M, WT, TP, v, rf, hv', ic, im, io⟩ := hi
  obtain ⟨c1, c2, c3, c4, c5, c6, c7, c8, c9⟩ := ic
  obtain ⟨m1, m2, m3, m4, m5, m6, m7, m8⟩ := im
  have r12 := c1.2.2.2.2.2.2.1
  apply v_X9_came_0
  rw [c1.2.2.2.2.2.1.1]
  refine ⟨bb_01, bbi (fun g1 => ?_) (fun g1 => ?_)⟩
  · have g1' := g1
    obtain ⟨r, hr, rfl⟩ := i_rule g1 r12
    rw [c5.1.2.2.2.2.2.2.2, cl_nI (by omega)]
    refine ⟨in_nI (by omega) (by omega), ?_⟩
    show Cl 162 [vO 0 90, vI (nI r)] w _
    apply v_X10_came_0
    rw [m1.2.2.2.2.1.1, ix_c, cl_nI (by omega), m4.2.2.2.2.2.2.2.1 r (by omega)]
    exact ⟨bb_01, bbi (fun _ => ⟨in_nI (by omega) (by omega), rfl, hi0.up (by omega)⟩) (fun e => absurd g1' e)⟩
  · show Cl 162 [vO 0 90, vI a] w _
    apply v_X10_came_0
    rw [m1.2.2.2.2.1.1]
    exact ⟨bb_01, bbi (fun e => absurd e g1) (fun _ => ⟨rfl, hi0.up (by omega)⟩)⟩
theorem o_holds {n w} {a : Int32} (hi : Inv n w) : OP n w 77 161 [vI a] := by
  have hi0 := hi
  obtain ⟨R, cr, se, c, RL, PL, MK, A, M, WT, TP, v, rf, hv', ic, im, io⟩ := hi
  have ic0 := ic
  have im0 := im
  obtain ⟨c1, c2, c3, c4, c5, c6, c7, c8, c9⟩ := ic
  obtain ⟨m1, m2, m3, m4, m5, m6, m7, m8⟩ := im
  have hck : CK c se R := CK.c c2.symm c1.2.2.2.2.1
  have h24 := hck.2.1
  have h300 := io.2.2.1.2.2.1
  have hb := io.2.2.1.2.1
  have r12 := c1.2.2.2.2.2.2.1
  apply v_X9_holds_0
  rw [c1.2.2.2.2.2.1.1]
  refine ⟨bb_01, bbj (fun g1 => ?_) (fun g1 => ?_)⟩
  · have g1' := g1
    obtain ⟨r, hr, rfl⟩ := i_rule g1 r12
    have hca : gI w (1, 53) = aC A := c5.1.2.2.2.2.2.2.2
    rw [hca, cl_nI (by omega)]
    obtain ⟨x, hx1, hx2, hx3⟩ := rg_len hr
    obtain ⟨u1, u2, u3, u4⟩ := c1.2.2.2.2.2.1.2 r x hx1
    obtain ⟨o1, o2, o3⟩ := c1.2.2.2.2.2.2.2 x hx2
    refine ⟨in_nI (by omega) (by omega), fun g2 => ?_, fun g2 => ?_⟩
    · show Cl 161 [vO 0 90, vI (nI r)] w _
      apply v_X10_holds_0
      rw [m1.2.2.2.2.1.1, ix_c, cl_nI (by omega), m4.2.2.2.2.2.2.2.1 r (by omega)]
      exact ⟨bb_01, bbj (fun _ => ⟨in_nI (by omega) (by omega), fun e => absurd e g2, fun _ => ⟨rfl, hi0.up (by omega)⟩⟩) (fun e => absurd g1' e)⟩
    · have hoe : OEc w 1 R (aH A) (aT A) (c 10) (aS A 4) (aR A) (aF A) M := ⟨c5.2, BL1 (by omega), hb, h24, by omega, c5.1.2.1, c5.1.2.2.2.2.1, c2 10 (by omega), c5.1.1 4 (by omega)⟩
      refine c_wordsHold hoe (l := x.2.2) (by omega) u3 o2 u4 o3 ?_
      intro f
      have ic1 := IC_fr (w' := aI w (0, 31) f) (fun g j hj => aI_ne (by unfold inC at hj; omega)) (fun _ => rfl) (fun h => BK_fr (fun j _ _ => aI_ne (by omega)) h) ic0
      have im1 := IM_FC (FC_a (w := w) (g := 0) (j := 31) (f := f) (by omega)) im0
      generalize aI w (0, 31) f = w1 at ic1 im1
      have im2 := im1
      obtain ⟨m1, m2, m3, m4, m5, m6, m7, m8⟩ := im1
      have main : ∀ z, z = ib (evs (Bx (c 10) (aS A 4) (aH A) (aT A) (aR A) (aF A) M) x.2.2 []) → kI (fun x w1 => Cl 161 (vO 0 90 :: [vI (nI r)]) w1 (kI fun y w2 => y = x ∧ Inv (n + 1) w2)) (.inl z) w1 := by
        intro z hz
        show Cl 161 [vO 0 90, vI (nI r)] w1 _
        apply v_X10_holds_0
        rw [m1.2.2.2.2.1.1, ix_c, cl_nI (by omega), m4.2.2.2.2.2.2.2.1 r (by omega), m4.2.1, m4.2.2.2.2.1, nI_s1]
        refine ⟨bb_01, bbj (fun _ => ⟨in_nI (by omega) (by omega), fun _ => ⟨in_nI (j := 288) (by omega) (by omega), in_nI (j := 19674) (by omega) (by omega), ?_⟩, fun e => absurd g2 e⟩) (fun e => absurd g1' e)⟩
        have hom : OEm w1 1 R (aH A) (c 10) (aS A 4) (aR A) (aF A) M := ⟨m4.2.2.2.2.2.2.2.2.1, hb, h24, by omega, fun p hp => m2 10 p (by omega) hp, fun p hp => (m4.1 p hp).2.2.2.2.1⟩
        refine m_holdsAt hom (l := x.2.2) (by omega) (m1.2.2.2.2.1.2 r x hx1).2.2 o3 ?_
        intro f2
        have inv : Inv (n + 1) (aI w1 (0, 122) f2) := Inv.mk (by omega) (IC_FN (FN_a (by omega)) ic1) (IM_fr (fun g j hj => aI_ne (by omega)) (fun q _ _ => by rw [aI_ne (by omega)]) rfl im2) io
        refine ⟨fun e => ⟨?_, inv⟩, fun e => ⟨?_, inv⟩⟩
        · rw [hz]; exact e.symm
        · rw [hz, ib_t e]; rfl
      refine ⟨fun e => main 0 e.symm, fun e => main 1 (by rw [ib_t e]; rfl)⟩
  · show Cl 161 [vO 0 90, vI a] w _
    apply v_X10_holds_0
    rw [m1.2.2.2.2.1.1]
    exact ⟨bb_01, bbj (fun e => absurd e g1) (fun _ => ⟨rfl, hi0.up (by omega)⟩)⟩
