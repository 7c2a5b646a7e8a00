/-! RULES on the model's side -/
theorem gm_known {w s R hr rl rf M k} {i h : Nat} {a : Int32} (hbm : BKM (gI w (s, 114)) R rl rf M) (hb : BO R hr rl rf M) (hi : i < R) (h24 : R ≤ 24) (hh : h < 397) (h4 : hr ≤ 396)
    (hk : k (kn rl rf a.toInt M i h) w) : Cl 138 [vO 0 90, vO s 114, vI (nI i), vI (nI h), vI a] w (kI k) := by
  have e := @eW_self w s
  have q := @m_known w s (fun f i => gI w (s, 114) (12 * i + f)) (gI w (s, 114)) (gI w (0, 124)) (gI w (0, 125)) R hr rl rf M k i h a hbm hb hi h24 hh h4 (by rw [e]; exact hk)
  rw [e] at q; exact q
theorem gm_newest {w s R hr rl rf M k} {i h : Nat} {a : Nat} (hbm : BKM (gI w (s, 114)) R rl rf M) (hb : BO R hr rl rf M) (hi : i < R) (h24 : R ≤ 24) (h4 : hr ≤ 396) (ha2 : a < 1000) (hh : h < 397)
    (hk : k (if 0 < ne rl rf a M i h then nI (ne rl rf a M i h) else -1) w) : Cl 139 [vO 0 90, vO s 114, vI (nI i), vI (nI (h + 1)), vI (nI a)] w (kI k) := by
  have e := @eW_self w s
  have q := @m_newest w s (fun f i => gI w (s, 114) (12 * i + f)) (gI w (s, 114)) (gI w (0, 124)) (gI w (0, 125)) R hr rl rf M k i h a hbm hb hi h24 h4 ha2 hh (by rw [e]; exact hk)
  rw [e] at q; exact q
def OEm (w : PW) (s R hr : Nat) (ey jm : Nat → Int32) (rl : Nat → Nat → Int32) (rf : Nat → Nat → Nat) (M : List M4) : Prop :=
  BKM (gI w (s, 114)) R rl rf M ∧ BO R hr rl rf M ∧ R ≤ 24 ∧ hr ≤ 396 ∧ (∀ p, p < R → gI w (0, 101) p = ey p) ∧ ∀ p, p < R → gI w (s, 114) (12 * p + 4) = jm p
theorem OEm_fr {w : PW} {s R hr ey jm rl rf M} {f : Nat → Int32} (h : OEm w s R hr ey jm rl rf M) : OEm (aI w (0, 122) f) s R hr ey jm rl rf M := by
  unfold OEm at *
  rw [gI_ao (j := 114) rfl, gI_ao (j := 101) rfl]
  exact h
theorem m_words_loop {w s R hr wm ey jm rl rf M k} (he : OEm w s R hr ey jm rl rf M) :
    ∀ (l : List O3) (kk : Nat) (st : List Bool) (f : Nat → Int32), OM (gI w (0, 107)) kk l → OS R st.length l → SK f st → st.length ≤ 8 →
    (∀ f, k (ib (evs (Bx ey jm hr wm rl rf M) l st)) (aI w (0, 122) f)) →
    Wp 140 9 [some (.inr (.inr (0, 90))), some (.inr (.inr (s, 114))), none, some (.inl (nI (hr + 1))), some (.inl wm), some (.inl (nI st.length)), some (.inl (nI kk)), none, none, none] [] (aI w (0, 122) f) (kI k) := by
  have he' := he
  obtain ⟨hbm, hb, h24, h4, hey, hjm⟩ := he'
  intro l
  induction l with
  | nil =>
    intro kk st f hom hos hsk hst hk
    have hos' : st.length = 1 := hos
    obtain ⟨a, rfl⟩ : ∃ a, st = [a] := by
      match st, hos' with
      | [a], _ => exact ⟨a, rfl⟩
    obtain ⟨w0, wl⟩ := hom
    apply v_X10_holdsAt_9
    simp (disch := first | decide | omega) only [cl_nI, in_T, le_nI, lt_nI, nI_s1, true_and, and_true, true_implies, false_implies, implies_true, Nat.le_refl, Nat.lt_irrefl, not_false_eq_true, not_true_eq_false, eq_self, i10, i_ten, i_fv, i_fr, gI_ao, gI_aI, wl, w0]
    have f0 : f 0 = ib a := hsk.1
    rw [f0]
    exact ⟨in_nI (j := 0) (by omega) (by omega), ib_b01, hk f⟩
  | cons x l ih =>
    intro kk st f hom hos hsk hst hk
    obtain ⟨w0, w1, w2, w3, w4⟩ := hom
    obtain ⟨⟨o1, o2, o3⟩, s8, s6, s5⟩ := hos
    have lt := OM_lt l _ w4
    have ol : 1 ≤ oln x.1 ∧ (x.1 ≤ 5 → 2 ≤ oln x.1) ∧ (x.1 ≤ 2 → 3 ≤ oln x.1) := by unfold oln; split <;> first | omega | (split <;> omega)
    have nx : ∀ st' f' z, OS R st'.length l → SK f' st' → st'.length ≤ 8 → z = kk + oln x.1 → stp (Bx ey jm hr wm rl rf M) x st = st' →
        Wp 140 449 [some (.inr (.inr (0, 90))), some (.inr (.inr (s, 114))), none, some (.inl (nI (hr + 1))), some (.inl wm), some (.inl (nI st'.length)), some (.inl (nI z)), none, none, none] [] (aI w (0, 122) f') (kI k) := by
      intro st' f' z q1 q2 q3 q5 q4
      apply v_X10_holdsAt_449
      subst q5
      refine ih _ st' f' w4 q1 q2 q3 ?_
      intro f2
      have := hk f2
      rw [show evs (Bx ey jm hr wm rl rf M) (x :: l) st = evs (Bx ey jm hr wm rl rf M) l (stp (Bx ey jm hr wm rl rf M) x st) from rfl, q4] at this
      exact this
    have pu : ∀ v z, x.1 ≤ 5 → v = ib (Bx ey jm hr wm rl rf M x) → z = kk + oln x.1 → b01 v ∧ vp_in (nI st.length) 9 ∧
        Wp 140 449 [some (.inr (.inr (0, 90))), some (.inr (.inr (s, 114))), none, some (.inl (nI (hr + 1))), some (.inl wm), some (.inl (nI st.length + 1)), some (.inl (nI z)), none, none, none] [] (sI (aI w (0, 122) f) (0, 122) (nI st.length).toNatClampNeg v) (kI k) := by
      rintro v z l5 rfl hz
      obtain ⟨d8, q1⟩ := s5 l5
      refine ⟨ib_b01, in_nI (by omega) (by omega), ?_⟩
      rw [sI_aI, cl_nI (by omega), nI_s1]
      exact nx (Bx ey jm hr wm rl rf M x :: st) _ z q1 (SK_top rfl hsk) d8 hz (by unfold stp; rw [if_neg (by omega), if_neg (by omega), if_neg (by omega)])
    have bl : x.1 ≤ 3 → x.2.1 < R := o3
    have fr114 : ∀ f, gI (aI w (0, 122) f) (s, 114) = gI w (s, 114) := fun f => gI_ao rfl
    apply v_X10_holdsAt_9
    have in1 : vp_in (nI kk) 1200 := in_nI (by omega) (by omega)
    have in2 : vp_in (nI (kk + 1)) 1200 := in_nI (by omega) (by omega)
    simp only [gI_ao (show Nat.beq 107 122 = false from rfl), gI_ao (show Nat.beq 101 122 = false from rfl), gI_ao (show Nat.beq 114 122 = false from rfl), gI_aI, cl_nI (show kk < 2147483648 by omega), cl_nI (show kk + 1 < 2147483648 by omega), nI_s1, w0]
    refine ⟨in1, fun e => absurd e (nI_o (b := 0) (by omega) (by omega) (by omega)), fun _ => ⟨in2, in1, fun e1 => ?_, fun n1 => ⟨fun e2 => ?_, fun n2 => ⟨fun e3 => ?_, fun n3 => ⟨fun e4 => ?_, fun n4 => ⟨fun e5 => ?_, fun n5 => ⟨fun e6 => ?_, fun n6 => ⟨fun e7 => ?_, fun n7 => ?_⟩⟩⟩⟩⟩⟩⟩⟩
    · have e : x.1 = 1 := (nI_inj (b := 1) (by omega) (by omega)).mp e1
      have hp := bl (by omega)
      have in3 : vp_in (nI (kk + 2)) 1200 := in_nI (by have := ol.2.2 (by omega); omega) (by omega)
      have ov : oln x.1 = 3 := by rw [e]; rfl
      have eB : Bx ey jm hr wm rl rf M x = decide (0 < ne rl rf ((hr + 1 : Nat) : Int) M x.2.1 hr ∧ 10 * x.2.2 ≤ kn rl rf ((hr + 1 : Nat) : Int) M x.2.1 (ne rl rf ((hr + 1 : Nat) : Int) M x.2.1 hr)) := by
        unfold Bx; rw [if_neg (by omega), if_neg (by omega), if_neg (by omega), if_pos e]
      have fi : ∀ b, b = Bx ey jm hr wm rl rf M x → Wp 140 132 [some (.inr (.inr (0, 90))), some (.inr (.inr (s, 114))), none, some (.inl (nI (hr + 1))), some (.inl wm), some (.inl (nI st.length)), some (.inl (nI kk)), none, none, none] [.inl (ib b), .inl (nI st.length), .inr (.inr (0, 122))] (aI w (0, 122) f) (kI k) := by
        intro b hb'
        apply v_X10_holdsAt_132
        rw [nI_p3]
        exact pu _ _ (by omega) (by rw [hb']) (by rw [ov])
      rw [eB] at fi
      rw [w1 (by omega)]
      refine gm_newest (by rw [fr114]; exact hbm) hb hp h24 h4 (by omega) (by omega) ?_
      have nl := ne_le (rl := rl) (rf := rf) (M := M) (i := x.2.1) (at' := ((hr + 1 : Nat) : Int)) hr
      generalize ne rl rf ((hr + 1 : Nat) : Int) M x.2.1 hr = n at *
      by_cases g : 0 < n
      · simp only [if_pos g]
        rw [i_le0 (by omega), i_0lt (by omega)]
        refine ⟨fun e => by omega, fun _ => ?_⟩
        refine gm_known (by rw [fr114]; exact hbm) hb hp h24 (by omega) h4 ?_
        rw [ti_nI (by omega), nI_p2]
        simp only [gI_ao (show Nat.beq 107 122 = false from rfl), cl_nI (show kk + 2 < 2147483648 by omega), w2 (by omega)]
        refine ⟨in3, fun g1 => ?_, fun g1 => ?_⟩
        · apply v_X10_holdsAt_131
          exact fi false (decide_eq_false fun y => Int32.not_le.mpr g1 y.2).symm
        · exact fi true (decide_eq_true ⟨g, g1⟩).symm
      · simp only [if_neg g]
        refine ⟨fun _ => ?_, fun e => absurd e (by decide)⟩
        apply v_X10_holdsAt_131
        exact fi false (decide_eq_false fun y => g y.1).symm
    · have e : x.1 = 2 := (nI_inj (b := 2) (by omega) (by omega)).mp e2
      have hp := bl (by omega)
      have in3 : vp_in (nI (kk + 2)) 1200 := in_nI (by have := ol.2.2 (by omega); omega) (by omega)
      have ov : oln x.1 = 3 := by rw [e]; rfl
      have eB : Bx ey jm hr wm rl rf M x = decide (0 < ne rl rf ((hr + 1 : Nat) : Int) M x.2.1 (ne rl rf ((hr + 1 : Nat) : Int) M x.2.1 hr - 1) ∧ x.2.2 ≤ kn rl rf ((hr + 1 : Nat) : Int) M x.2.1 (ne rl rf ((hr + 1 : Nat) : Int) M x.2.1 hr) - kn rl rf ((hr + 1 : Nat) : Int) M x.2.1 (ne rl rf ((hr + 1 : Nat) : Int) M x.2.1 (ne rl rf ((hr + 1 : Nat) : Int) M x.2.1 hr - 1))) := by
        unfold Bx; rw [if_neg (by omega), if_neg (by omega), if_neg (by omega), if_neg (by omega)]
      have fi : ∀ b, b = Bx ey jm hr wm rl rf M x → Wp 140 223 [some (.inr (.inr (0, 90))), some (.inr (.inr (s, 114))), none, some (.inl (nI (hr + 1))), some (.inl wm), some (.inl (nI st.length)), some (.inl (nI kk)), none, none, none] [.inl (ib b), .inl (nI st.length), .inr (.inr (0, 122))] (aI w (0, 122) f) (kI k) := by
        intro b hb'
        apply v_X10_holdsAt_223
        rw [nI_p3]
        exact pu _ _ (by omega) (by rw [hb']) (by rw [ov])
      rw [eB] at fi
      rw [w1 (by omega)]
      refine gm_newest (by rw [fr114]; exact hbm) hb hp h24 h4 (by omega) (by omega) ?_
      have nl := ne_le (rl := rl) (rf := rf) (M := M) (i := x.2.1) (at' := ((hr + 1 : Nat) : Int)) hr
      generalize ne rl rf ((hr + 1 : Nat) : Int) M x.2.1 hr = n at *
      by_cases g : 0 < n
      · obtain ⟨y, rfl⟩ : ∃ y, n = y + 1 := ⟨n - 1, by omega⟩
        rw [show y + 1 - 1 = y from rfl] at fi
        simp only [if_pos g]
        rw [i_le0 (by omega), i_0lt (by omega)]
        refine ⟨fun e => by omega, fun _ => ?_⟩
        refine gm_newest (by rw [fr114]; exact hbm) hb hp h24 h4 (by omega) (by omega) ?_
        have ml := ne_le (rl := rl) (rf := rf) (M := M) (i := x.2.1) (at' := ((hr + 1 : Nat) : Int)) y
        generalize ne rl rf ((hr + 1 : Nat) : Int) M x.2.1 y = m at *
        apply v_X10_holdsAt_172
        by_cases g2 : 0 < m
        · simp only [if_pos g2]
          rw [i_le0 (by omega), i_0lt (by omega)]
          refine ⟨fun e => by omega, fun _ => ?_⟩
          refine gm_known (by rw [fr114]; exact hbm) hb hp h24 (by omega) h4 ?_
          refine gm_known (by rw [fr114]; exact hbm) hb hp h24 (by omega) h4 ?_
          rw [ti_nI (by omega), nI_p2]
          simp only [gI_ao (show Nat.beq 107 122 = false from rfl), cl_nI (show kk + 2 < 2147483648 by omega), w2 (by omega)]
          refine ⟨in3, fun g1 => ?_, fun g1 => ?_⟩
          · apply v_X10_holdsAt_222
            exact fi false (decide_eq_false fun y => Int32.not_le.mpr g1 y.2).symm
          · exact fi true (decide_eq_true ⟨g2, g1⟩).symm
        · simp only [if_neg g2]
          refine ⟨fun _ => ?_, fun e => absurd e (by decide)⟩
          apply v_X10_holdsAt_222
          exact fi false (decide_eq_false fun y => g2 y.1).symm
      · obtain rfl : n = 0 := by omega
        simp only [if_neg g]
        refine ⟨fun _ => ?_, fun e => absurd e (by decide)⟩
        apply v_X10_holdsAt_172
        refine ⟨fun _ => ?_, fun e => absurd e (by decide)⟩
        apply v_X10_holdsAt_222
        exact fi false (decide_eq_false fun y => absurd y.1 (Nat.lt_irrefl _)).symm
    · have e : x.1 = 3 := (nI_inj (b := 3) (by omega) (by omega)).mp e3
      have hp := bl (by omega)
      have ov : oln x.1 = 2 := by rw [e]; rfl
      have eB : Bx ey jm hr wm rl rf M x = decide (¬ ey x.2.1 = 0 ∧ 0 < jm x.2.1) := by unfold Bx; rw [if_pos e]
      have fi : ∀ b, b = Bx ey jm hr wm rl rf M x → Wp 140 265 [some (.inr (.inr (0, 90))), some (.inr (.inr (s, 114))), none, some (.inl (nI (hr + 1))), some (.inl wm), some (.inl (nI st.length)), some (.inl (nI kk)), none, none, none] [.inl (ib b), .inl (nI st.length), .inr (.inr (0, 122))] (aI w (0, 122) f) (kI k) := by
        intro b hb'
        apply v_X10_holdsAt_265
        rw [nI_p2]
        exact pu _ _ (by omega) (by rw [hb']) (by rw [ov])
      rw [eB] at fi
      rw [w1 (by omega), ix_4, cl_nI (by omega), cl_nI (by omega), hey _ hp, hjm _ hp]
      refine ⟨in_nI (by omega) (by omega), fun g => ?_, fun g => ⟨in_nI (by omega) (by omega), fun g1 => ?_, fun g1 => ?_⟩⟩
      · apply v_X10_holdsAt_264
        exact fi false (decide_eq_false fun y => y.1 g).symm
      · apply v_X10_holdsAt_264
        exact fi false (decide_eq_false fun y => Int32.not_lt.mpr g1 y.2).symm
      · exact fi true (decide_eq_true ⟨g, g1⟩).symm
    · have e : x.1 = 4 := (nI_inj (b := 4) (by omega) (by omega)).mp e4
      have ov : oln x.1 = 2 := by rw [e]; rfl
      have eB : Bx ey jm hr wm rl rf M x = decide (x.2.2 ≤ nI (hr + 1)) := by unfold Bx; rw [if_neg (by omega), if_pos e]
      have fi : ∀ b, b = Bx ey jm hr wm rl rf M x → Wp 140 292 [some (.inr (.inr (0, 90))), some (.inr (.inr (s, 114))), none, some (.inl (nI (hr + 1))), some (.inl wm), some (.inl (nI st.length)), some (.inl (nI kk)), none, none, none] [.inl (ib b), .inl (nI st.length), .inr (.inr (0, 122))] (aI w (0, 122) f) (kI k) := by
        intro b hb'
        apply v_X10_holdsAt_292
        rw [nI_p2]
        exact pu _ _ (by omega) (by rw [hb']) (by rw [ov])
      rw [eB] at fi
      rw [w3 (Or.inl e)]
      exact ⟨fun g => fi false (decide_eq_false (Int32.not_le.mpr g)).symm, fun g => fi true (decide_eq_true g).symm⟩
    · have e : x.1 = 5 := (nI_inj (b := 5) (by omega) (by omega)).mp e5
      have ov : oln x.1 = 2 := by rw [e]; rfl
      have eB : Bx ey jm hr wm rl rf M x = decide (x.2.2 ≤ wm) := by unfold Bx; rw [if_neg (by omega), if_neg (by omega), if_pos e]
      have fi : ∀ b, b = Bx ey jm hr wm rl rf M x → Wp 140 320 [some (.inr (.inr (0, 90))), some (.inr (.inr (s, 114))), none, some (.inl (nI (hr + 1))), some (.inl wm), some (.inl (nI st.length)), some (.inl (nI kk)), none, none, none] [.inl (ib b), .inl (nI st.length), .inr (.inr (0, 122))] (aI w (0, 122) f) (kI k) := by
        intro b hb'
        apply v_X10_holdsAt_320
        rw [nI_p2]
        exact pu _ _ (by omega) (by rw [hb']) (by rw [ov])
      rw [eB] at fi
      rw [w3 (Or.inr e)]
      exact ⟨fun g => fi false (decide_eq_false (Int32.not_le.mpr g)).symm, fun g => fi true (decide_eq_true g).symm⟩
    · have e : x.1 = 6 := (nI_inj (b := 6) (by omega) (by omega)).mp e6
      have ov : oln x.1 = 1 := by rw [e]; rfl
      obtain ⟨d1, q1⟩ := s6 (Or.inl e)
      obtain ⟨b, a, t, rfl⟩ : ∃ b a t, st = b :: a :: t := by
        match st, d1 with
        | b :: a :: t, _ => exact ⟨b, a, t, rfl⟩
      rw [List.length_cons, List.length_cons] at hst ⊢
      have q2 : SK (ub f t.length (ib (a && b))) ((a && b) :: t) := SK_top rfl hsk.2.2
      have q3 : stp (Bx ey jm hr wm rl rf M) x (b :: a :: t) = (a && b) :: t := by unfold stp; rw [if_neg (by omega), if_pos e]
      have f1 : f (t.length + 1) = ib b := hsk.1
      have f0 : f t.length = ib a := hsk.2.1
      rw [nI_p1, nI_m1, cl_nI (by omega), cl_nI (by omega), f0, f1]
      have fi : ∀ v, v = ib (a && b) → Wp 140 368 [some (.inr (.inr (0, 90))), some (.inr (.inr (s, 114))), none, some (.inl (nI (hr + 1))), some (.inl wm), some (.inl (nI (t.length + 1))), some (.inl (nI kk)), none, none, none] [.inl v, .inl (nI t.length), .inr (.inr (0, 122))] (aI w (0, 122) f) (kI k) := by
        rintro v rfl
        apply v_X10_holdsAt_368
        refine ⟨ib_b01, in_nI (by omega) (by omega), ?_⟩
        rw [sI_aI, cl_nI (by omega), nI_s1]
        exact nx ((a && b) :: t) _ _ q1 q2 (by rw [List.length_cons]; omega) (by rw [ov]) q3
      refine ⟨in_nI (by omega) (by omega), fun ga => ?_, fun ga => ⟨in_nI (by omega) (by omega), fun gb => ?_, fun gb => ?_⟩⟩
      · apply v_X10_holdsAt_367
        exact fi 0 (by rw [ib_f ga]; rfl)
      · apply v_X10_holdsAt_367
        exact fi 0 (by rw [ib_f gb, Bool.and_false]; rfl)
      · exact fi 1 (by rw [ib_t ga, ib_t gb]; rfl)
    · have e : x.1 = 7 := (nI_inj (b := 7) (by omega) (by omega)).mp e7
      have ov : oln x.1 = 1 := by rw [e]; rfl
      obtain ⟨d1, q1⟩ := s6 (Or.inr e)
      obtain ⟨b, a, t, rfl⟩ : ∃ b a t, st = b :: a :: t := by
        match st, d1 with
        | b :: a :: t, _ => exact ⟨b, a, t, rfl⟩
      rw [List.length_cons, List.length_cons] at hst ⊢
      have q2 : SK (ub f t.length (ib (a || b))) ((a || b) :: t) := SK_top rfl hsk.2.2
      have q3 : stp (Bx ey jm hr wm rl rf M) x (b :: a :: t) = (a || b) :: t := by unfold stp; rw [if_neg (by omega), if_neg (by omega), if_pos e]
      have f1 : f (t.length + 1) = ib b := hsk.1
      have f0 : f t.length = ib a := hsk.2.1
      rw [nI_p1, nI_m1, cl_nI (by omega), cl_nI (by omega), f0, f1]
      have fi : ∀ v, v = ib (a || b) → Wp 140 413 [some (.inr (.inr (0, 90))), some (.inr (.inr (s, 114))), none, some (.inl (nI (hr + 1))), some (.inl wm), some (.inl (nI (t.length + 1))), some (.inl (nI kk)), none, none, none] [.inl v, .inl (nI t.length), .inr (.inr (0, 122))] (aI w (0, 122) f) (kI k) := by
        rintro v rfl
        apply v_X10_holdsAt_413
        refine ⟨ib_b01, in_nI (by omega) (by omega), ?_⟩
        rw [sI_aI, cl_nI (by omega), nI_s1]
        exact nx ((a || b) :: t) _ _ q1 q2 (by rw [List.length_cons]; omega) (by rw [ov]) q3
      refine ⟨in_nI (by omega) (by omega), fun ga => ?_, fun ga => ⟨in_nI (by omega) (by omega), fun gb => ?_, fun gb => ?_⟩⟩
      · apply v_X10_holdsAt_408
        exact fi 1 (by rw [ib_t ga]; rfl)
      · exact fi 0 (by rw [ib_f ga, ib_f gb]; rfl)
      · apply v_X10_holdsAt_408
        exact fi 1 (by rw [ib_t gb, Bool.or_true]; rfl)
    · have e : x.1 = 8 := by
        have q : ∀ b : Nat, x.1 = b → nI x.1 = nI b := fun b hb => by rw [hb]
        have m1 : ¬ x.1 = 1 := fun h => n1 (q 1 h)
        have m2 : ¬ x.1 = 2 := fun h => n2 (q 2 h)
        have m3 : ¬ x.1 = 3 := fun h => n3 (q 3 h)
        have m4 : ¬ x.1 = 4 := fun h => n4 (q 4 h)
        have m5 : ¬ x.1 = 5 := fun h => n5 (q 5 h)
        have m6 : ¬ x.1 = 6 := fun h => n6 (q 6 h)
        have m7 : ¬ x.1 = 7 := fun h => n7 (q 7 h)
        omega
      have ov : oln x.1 = 1 := by rw [e]; rfl
      obtain ⟨d1, q1⟩ := s8 e
      obtain ⟨a, t, rfl⟩ : ∃ a t, st = a :: t := by
        match st, d1 with
        | a :: t, _ => exact ⟨a, t, rfl⟩
      rw [List.length_cons] at hst ⊢
      have q2 : SK (ub f t.length (ib (!a))) ((!a) :: t) := SK_top rfl hsk.2
      have q3 : stp (Bx ey jm hr wm rl rf M) x (a :: t) = (!a) :: t := by unfold stp; rw [if_pos e]
      have f0 : f t.length = ib a := hsk.1
      rw [nI_m1, cl_nI (by omega), f0]
      have fi : ∀ v, v = ib (!a) → Wp 140 445 [some (.inr (.inr (0, 90))), some (.inr (.inr (s, 114))), none, some (.inl (nI (hr + 1))), some (.inl wm), some (.inl (nI (t.length + 1))), some (.inl (nI kk)), none, none, none] [.inl v, .inl (nI t.length), .inr (.inr (0, 122))] (aI w (0, 122) f) (kI k) := by
        rintro v rfl
        apply v_X10_holdsAt_445
        refine ⟨ib_b01, in_nI (by omega) (by omega), ?_⟩
        rw [sI_aI, cl_nI (by omega), nI_s1]
        exact nx ((!a) :: t) _ _ q1 q2 hst (by rw [ov]) q3
      refine ⟨in_nI (by omega) (by omega), fun ga => ?_, fun ga => ?_⟩
      · exact fi 0 (by rw [ib_t ga]; rfl)
      · exact fi 1 (by rw [ib_f ga]; rfl)
theorem m_holdsAt {w s R hr wm ey jm rl rf M k} {r : Nat} {l : List O3} (he : OEm w s R hr ey jm rl rf M) (hr12 : r < 12) (hom : OM (gI w (0, 107)) (100 * r) l) (hos : OS R 0 l)
    (hk : ∀ f, k (ib (evs (Bx ey jm hr wm rl rf M) l [])) (aI w (0, 122) f)) :
    Cl 140 [vO 0 90, vO s 114, vI (nI r), vI (nI (hr + 1)), vI wm] w (kI k) := by
  apply v_X10_holdsAt_0
  rw [show (100 : Int32) = nI 100 from rfl, nI_ml]
  have h := m_words_loop (wm := wm) he l (100 * r) [] (gI w (0, 122)) hom hos trivial (Nat.zero_le _) hk
  rw [aI_self] at h
  exact h
