/-! an HOUR on the model's side -/
def mg (c : Nat → Nat → Int32) (se : Int32) (R : Nat) (f t : Int32) (μ : Nat → Nat → Int32) : Nat → Nat → Int32 :=
  lgS c se R t (drM c R (brM c R (frM c R t (flowM c se R (inf f μ)))))
theorem ix_6a {a q : Nat} : (64 : Int32) * nI a + nI q = nI (64 * a + q) := by
  rw [show (64 : Int32) = nI 64 from rfl, nI_ml, nI_ad]
theorem m_inflowAt {w wi n fi ft k} {h : Nat} (hwi : wi < 4) (hw : WTm w wi n fi ft) (hn : 1 ≤ n) (hn2 : n ≤ 64) (h1 : 1 ≤ h) (hh : h < 1000) (hk : k (fi (wix n h)) w) : Cl 128 [vO 0 90, vI (nI wi), vI (nI h)] w (kI k) := by
  apply v_X10_inflowAt_0
  have l := wix_lt (h := h) hn
  have in4 : vp_in (nI wi) 4 := in_nI (by omega) (by omega)
  rw [cl_nI (by omega), hw.1, ix_6a, ix_6a]
  rw [le_nI (by omega) (by omega), lt_nI (by omega) (by omega)]
  refine ⟨in4, fun g => ⟨in4, ?_⟩, fun g => ?_⟩
  · have e : nI (64 * wi + n) - 1 = nI (64 * wi + wix n h) := by
      obtain ⟨y, rfl⟩ : ∃ y, n = y + 1 := ⟨n - 1, by omega⟩
      rw [show 64 * wi + (y + 1) = 64 * wi + y + 1 by omega, nI_m1]; unfold wix; rw [if_neg (by omega)]; rfl
    rw [e, cl_nI (by omega), (hw.2 _ l).1]
    exact ⟨in_nI (by omega) (by omega), hk⟩
  · have e : nI (64 * wi + h) - 1 = nI (64 * wi + wix n h) := by
      obtain ⟨y, rfl⟩ : ∃ y, h = y + 1 := ⟨h - 1, by omega⟩
      rw [show 64 * wi + (y + 1) = 64 * wi + y + 1 by omega, nI_m1]; unfold wix; rw [if_pos g]; rfl
    rw [e, cl_nI (by omega), (hw.2 _ l).1]
    exact ⟨in_nI (by omega) (by omega), hk⟩
theorem m_heatAt {w wi n fi ft k} {h : Nat} (hwi : wi < 4) (hw : WTm w wi n fi ft) (hn : 1 ≤ n) (hn2 : n ≤ 64) (h1 : 1 ≤ h) (hh : h < 1000) (hk : k (ft (wix n h)) w) : Cl 129 [vO 0 90, vI (nI wi), vI (nI h)] w (kI k) := by
  apply v_X10_heatAt_0
  have l := wix_lt (h := h) hn
  have in4 : vp_in (nI wi) 4 := in_nI (by omega) (by omega)
  rw [cl_nI (by omega), hw.1, ix_6a, ix_6a]
  rw [le_nI (by omega) (by omega), lt_nI (by omega) (by omega)]
  rw [show (1 : Int32) = nI 1 from rfl, le_nI (by omega) (by omega), lt_nI (by omega) (by omega)]
  refine ⟨fun _ => ⟨in4, fun g => ⟨in4, ?_⟩, fun g => ?_⟩, fun g => by omega⟩
  · have e : nI (64 * wi + n) - nI 1 = nI (64 * wi + wix n h) := by
      rw [nI_sb (by omega)]; congr 1; unfold wix; rw [if_neg (by omega)]; omega
    rw [e, cl_nI (by omega), (hw.2 _ l).2]
    exact ⟨in_nI (by omega) (by omega), hk⟩
  · have e : nI (64 * wi + h) - nI 1 = nI (64 * wi + wix n h) := by
      rw [nI_sb (by omega)]; congr 1; unfold wix; rw [if_pos g]; omega
    rw [e, cl_nI (by omega), (hw.2 _ l).2]
    exact ⟨in_nI (by omega) (by omega), hk⟩
theorem WTm_eW {w s μ m A B wi n fi ft} (h : WTm w wi n fi ft) : WTm (eW w s μ m A B) wi n fi ft := by
  unfold WTm; rw [ge_off (j := 104) rfl, ge_off (j := 102) rfl, ge_off (j := 103) rfl]; exact h
def MX (m m' : Nat → Int32) : Prop := ∀ q, ¬ (q = 288 ∨ q = 290 ∨ q = 291 ∨ (294 ≤ q ∧ q < 374) ∨ q = 19674) → m' q = m q
theorem cl12 : (12 * 0 + 0 : Int32).toNatClampNeg = 0 := by decide
theorem in12z : vp_in (12 * 0 + 0 : Int32) 19675 = True := eq_true (in_nI (j := 0) (by omega) (by omega))
theorem m_217 {w s k μ m A B W R se cr wi n fi ft hr} (hW : WM m W) (h40 : W.length ≤ 40) (hR : gI w (0, 90) 30 = nI R) (h24 : R ≤ 24) (hse : gI w (0, 90) 31 = se) (hcr : gI w (0, 90) 32 = nI cr) (cr6 : cr ≤ 6) (h4 : hr + 1 ≤ 396)
    (hwi : wi < 4) (hwt : WTm w wi n fi ft) (hwo : WTo n fi ft) (hok : cellsOK W) (ha : ∀ i, i < R → ¬ cm w 2 i = 0)
    (hb : ∀ i, i < R → ¬ brkM (inf (fi (wix n (hr + 1))) ((W.take (mny cr W)).foldl (fun μ x => acM (cm w) x μ) μ)) i = 0)
    (h5 : ∀ i, i < R → ¬ 5 + (W.take (mny cr W)).foldl (fun μ x => acM (cm w) x μ) μ 1 i / 10 = 0)
    (hk : ∀ A' B' m', WM m' (W.drop (mny cr W)) → m' 288 = nI (hr + 1) → m' 291 = m 291 + nI (mny cr W) → m' 19674 = ft (wix n (hr + 1)) → MX m m' →
      k (eW w s (eS (cm w) R (hr + 1) (mg (cm w) se R (fi (wix n (hr + 1))) (ft (wix n (hr + 1))) ((W.take (mny cr W)).foldl (fun μ x => acM (cm w) x μ) μ)))
        (eM (cm w) (hr + 1) (mg (cm w) se R (fi (wix n (hr + 1))) (ft (wix n (hr + 1))) ((W.take (mny cr W)).foldl (fun μ x => acM (cm w) x μ) μ)) R m') A' B')) :
    Wp 147 217 [some (.inr (.inr (0, 90))), some (.inr (.inr (s, 114))), some (.inl (nI wi)), none, none, none, some (.inl (nI (hr + 1))), none, none] [] (eW w s μ m A B) (kV k) := by
  apply v_X10_goes_217
  refine m_does hW h40 hcr cr6 hok ?_
  intro m2 q1 q2 q3
  generalize hμ1 : (W.take (mny cr W)).foldl (fun μ x => acM (cm w) x μ) μ = μ1 at *
  refine ⟨in_nI (j := 288) (by omega) (by omega), ?_⟩
  rw [se_hi (by omega)]
  simp only [cl12, in12z, true_and]
  refine m_inflowAt hwi (WTm_eW hwt) hwo.1 hwo.2.1 (by omega) (by omega) ?_
  generalize hf : fi (wix n (hr + 1)) = f at *
  rw [ge_m, enc_z, se_z]
  refine m_flows (R := R) (se := se) hR h24 hse ha hb ?_
  intro A2
  refine m_heatAt hwi (WTm_eW hwt) hwo.1 hwo.2.1 (by omega) (by omega) ?_
  generalize ht : ft (wix n (hr + 1)) = t at *
  refine ⟨in_nI (j := 19674) (by omega) (by omega), in_nI (j := 19674) (by omega) (by omega), ?_⟩
  rw [se_hi (by omega), ge_m, enc_hi (by omega), ub_same]
  refine m_freezes (R := R) hR h24 ha h5 ?_
  refine m_tail (R := R) (se := se) hR h24 (by omega) hse ha ub_same ?_
  intro A3 B3
  refine hk A3 B3 _ ?_ ?_ ?_ ub_same ?_
  · refine ⟨by rw [ub_ne rfl, ub_ne rfl]; exact q1.1, fun q x hx => ?_⟩
    have hq : q < (W.drop (mny cr W)).length := (List.getElem?_eq_some_iff.mp hx).1
    rw [List.length_drop] at hq
    rw [ub_ne (beq_f (by omega)), ub_ne (beq_f (by omega)), ub_ne (beq_f (by omega)), ub_ne (beq_f (by omega))]; exact q1.2 q x hx
  · rw [ub_ne rfl, ub_same]
  · rw [ub_ne rfl, ub_ne rfl]; exact q2
  · intro q hq
    rw [ub_ne (beq_f (by omega)), ub_ne (beq_f (by omega))]; exact q3 q (by omega)
/-! the PLAN in an HOUR -/
def bit (set : Int32) (k : Nat) : Bool := decide ((set >>> (nI k &&& 31)) &&& 1 = 1)
def selL (set fr : Int32) : Nat → List A3 → List A3
  | _, [] => []
  | k, x :: l => if bit set k = true then (fr + x.1, x.2) :: selL set fr (k + 1) l else selL set fr (k + 1) l
def PLm (w : PW) (PL : List A3) : Prop := gI w (0, 90) 34 = nI PL.length ∧ ∀ q x, PL[q]? = some x → gI w (0, 108) q = x.1 ∧ gI w (0, 109) q = x.2.1 ∧ gI w (0, 110) q = x.2.2
theorem m_plan_loop {w s k μ A B N} {wi set fr br hr : Int32} (hN : gI w (0, 90) 34 = nI N) (hN8 : N ≤ 8) : ∀ (l : List A3) (i : Nat) (w1 : PW) (m1 : Nat → Int32) (W : List A2), i + l.length = N → W.length ≤ 40 → MF w w1 → WM m1 W →
    (∀ q x, l[q]? = some x → gI w (0, 108) (i + q) = x.1 ∧ gI w (0, 109) (i + q) = x.2.1 ∧ gI w (0, 110) (i + q) = x.2.2) →
    (∀ w' m', MF w w' → WM m' (((selL set fr i l).filter (isH hr)).foldl pushH W) → MW m1 m' →
      Wp 147 90 [some (.inr (.inr (0, 90))), some (.inr (.inr (s, 114))), some (.inl wi), none, none, some (.inl br), some (.inl hr), some (.inl (m' 19674)), some (.inl 0)] [] (eW w' s μ m' A B) (kV k)) →
    Wp 147 18 [some (.inr (.inr (0, 90))), some (.inr (.inr (s, 114))), some (.inl wi), some (.inl set), some (.inl fr), some (.inl br), some (.inl hr), some (.inl (nI i)), none] [] (eW w1 s μ m1 A B) (kV k) := by
  intro l
  induction l with
  | nil =>
    intro i w1 m1 W hi hW mf hw hp hk
    rw [List.length_nil] at hi
    apply v_X10_goes_18
    rw [ge_off (j := 90) rfl, mf.2.2 34 (by omega), hN, ge_m, enc_hi (by omega)]
    refine ⟨fun _ => ⟨in_nI (j := 19674) (by omega) (by omega), hk w1 m1 mf hw (fun _ _ => rfl)⟩, fun e => absurd e (by rw [lt_nI (by omega) (by omega)]; omega)⟩
  | cons x l ih =>
    intro i w1 m1 W hi hW mf hw hp hk
    rw [List.length_cons] at hi
    obtain ⟨p1, p2, p3⟩ := hp 0 x rfl
    rw [Nat.add_zero] at p1 p2 p3
    have hp' : ∀ q y, l[q]? = some y → gI w (0, 108) (i + 1 + q) = y.1 ∧ gI w (0, 109) (i + 1 + q) = y.2.1 ∧ gI w (0, 110) (i + 1 + q) = y.2.2 := by
      intro q y hy
      have := hp (q + 1) y hy
      rw [show i + (q + 1) = i + 1 + q by omega] at this; exact this
    have nx : ∀ w2 m2 W2, W2.length ≤ 40 → MF w w2 → WM m2 W2 → MW m1 m2 → ((selL set fr i (x :: l)).filter (isH hr)).foldl pushH W = ((selL set fr (i + 1) l).filter (isH hr)).foldl pushH W2 →
        Wp 147 74 [some (.inr (.inr (0, 90))), some (.inr (.inr (s, 114))), some (.inl wi), some (.inl set), some (.inl fr), some (.inl br), some (.inl hr), some (.inl (nI i)), none] [] (eW w2 s μ m2 A B) (kV k) := by
      intro w2 m2 W2 h1 h2 h3 h4 h5
      apply v_X10_goes_74
      rw [nI_s1]
      refine ih (i + 1) w2 m2 W2 (by omega) h1 h2 h3 hp' ?_
      intro w' m' g1 g2 g3
      rw [← h5] at g2
      exact hk w' m' g1 g2 (fun q hq => (g3 q hq).trans (h4 q hq))
    apply v_X10_goes_18
    rw [ge_off (j := 90) rfl, mf.2.2 34 (by omega), hN, ge_off (j := 108) rfl, ge_off (j := 109) rfl, ge_off (j := 110) rfl, mf.2.1 0 108 (by omega), mf.2.1 0 109 (by omega), mf.2.1 0 110 (by omega), cl_nI (by omega), p1, p2, p3]
    have i8 : vp_in (nI i) 8 := in_nI (by omega) (by omega)
    refine ⟨fun e => absurd e (by rw [le_nI (by omega) (by omega)]; omega), fun _ => ⟨fun g => ?_, fun g => ⟨i8, fun g2 => ?_, fun g2 => ⟨i8, i8, ?_⟩⟩⟩⟩
    · refine nx w1 m1 W hW mf hw (fun _ _ => rfl) ?_
      have : bit set i = false := decide_eq_false g
      show ((if bit set i = true then _ else _ : List A3).filter _).foldl _ _ = _
      rw [this]; rfl
    · refine nx w1 m1 W hW mf hw (fun _ _ => rfl) ?_
      have e1 : bit set i = true := decide_eq_true g
      show ((if bit set i = true then _ else _ : List A3).filter _).foldl _ _ = _
      rw [if_pos e1, List.filter_cons, show isH hr (fr + x.1, x.2) = false from decide_eq_false g2]; rfl
    · refine m_comes hw hW ?_
      intro r m2 r1 r2 q1 q2
      refine ⟨?_, ?_⟩
      · by_cases g3 : W.length < 40
        · rw [r1 g3]; exact b01_1
        · rw [r2 g3]; exact b01_0
      · rw [se_off rfl]
        refine nx _ m2 _ (push_le hW) (mf.tr MF_l) q1 q2 ?_
        have e1 : bit set i = true := decide_eq_true g
        show ((if bit set i = true then _ else _ : List A3).filter _).foldl _ _ = _
        rw [if_pos e1, List.filter_cons, show isH hr (fr + x.1, x.2) = true from decide_eq_true g2]; rfl
