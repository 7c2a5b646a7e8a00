/-! ACTS on the model's side -/
def WM (m : Nat → Int32) (l : List A2) : Prop := m 290 = nI l.length ∧ ∀ q x, l[q]? = some x → m (294 + 2 * q) = x.1 ∧ m (294 + 2 * q + 1) = x.2
def TM (m : Nat → Int32) (l : List A3) : Prop := m 292 = nI l.length ∧ ∀ q x, l[q]? = some x → m (374 + 3 * q) = x.1 ∧ m (374 + 3 * q + 1) = x.2.1 ∧ m (374 + 3 * q + 2) = x.2.2
def MW (m m' : Nat → Int32) : Prop := ∀ k, ¬ (k = 290 ∨ (294 ≤ k ∧ k < 374)) → m' k = m k
def MT (m m' : Nat → Int32) : Prop := ∀ k, ¬ (290 ≤ k ∧ k < 446) ∨ k = 291 ∨ k = 293 → m' k = m k
theorem MW.mt {m m'} (h : MW m m') : MT m m' := fun k hk => h k (by omega)
theorem MT.tr {m m' m''} (h : MT m m') (h' : MT m' m'') : MT m m'' := fun k hk => (h' k hk).trans (h k hk)
theorem ix_w {n : Nat} : (294 : Int32) + 2 * nI n = nI (294 + 2 * n) := by
  rw [show (2 : Int32) = nI 2 from rfl, nI_ml, show (294 : Int32) = nI 294 from rfl, nI_ad]
theorem ix_t {n : Nat} : (374 : Int32) + 3 * nI n = nI (374 + 3 * n) := by
  rw [show (3 : Int32) = nI 3 from rfl, nI_ml, show (374 : Int32) = nI 374 from rfl, nI_ad]
theorem nI_p2 {n : Nat} : nI n + 2 = nI (n + 2) := by rw [show (2 : Int32) = nI 2 from rfl, nI_ad]
theorem m_comes {w s μ m A B k} {W : List A2} {a b : Int32} (hW : WM m W) (h40 : W.length ≤ 40)
    (h : ∀ r m', (W.length < 40 → r = 1) → (¬ W.length < 40 → r = 0) → WM m' (push 40 W (a, b)) → MW m m' → k r (eW w s μ m' A B)) : Cl 141 [vO s 114, vI a, vI b] (eW w s μ m A B) (kI k) := by
  apply v_X10_comes_0
  have h1 := hW.1
  simp (disch := first | decide | omega) only [cl_nI, in_T, le_nI, lt_nI, nI_s1, true_and, and_true, true_implies, false_implies, implies_true, Nat.le_refl, Nat.lt_irrefl, not_false_eq_true, not_true_eq_false, eq_self, i10, i_ten, i_fv, i_fr, cm_eW, cm_s, ge_m, ge_124, ge_125, ge_off, geL, enc_z, ea_0, ea_1, ea_2, ea_3, ea_4, ea_5, ea_6, ea_7, ea_8, ea_9, ea_10, ea_11, se_0, se_1, se_2, se_3, se_4, se_5, se_6, se_7, se_8, se_9, se_10, se_11, ix_0, ix_1, ix_2, ix_3, ix_4, ix_5, ix_6, ix_7, ix_8, ix_9, ix_10, ix_11, se_z, se_124, se_125, se_off, se_hi, enc_hi, ub_same, ub_ne, ub_ub, ub_comm, in_290, h1, ix_w, b01_1, b01_0]
  refine ⟨fun g1 => ?_, fun g1 => ?_⟩
  · have g2 : W.length < 40 := by
      refine Nat.lt_of_le_of_ne h40 fun e => g1 ?_
      rw [e]; rfl
    simp (disch := first | decide | omega) only [cl_nI, in_T, le_nI, lt_nI, nI_s1, true_and, and_true, true_implies, false_implies, implies_true, Nat.le_refl, Nat.lt_irrefl, not_false_eq_true, not_true_eq_false, eq_self, i10, i_ten, i_fv, i_fr, cm_eW, cm_s, ge_m, ge_124, ge_125, ge_off, geL, enc_z, ea_0, ea_1, ea_2, ea_3, ea_4, ea_5, ea_6, ea_7, ea_8, ea_9, ea_10, ea_11, se_0, se_1, se_2, se_3, se_4, se_5, se_6, se_7, se_8, se_9, se_10, se_11, ix_0, ix_1, ix_2, ix_3, ix_4, ix_5, ix_6, ix_7, ix_8, ix_9, ix_10, ix_11, se_z, se_124, se_125, se_off, se_hi, enc_hi, ub_same, ub_ne, ub_ub, ub_comm, h1, ix_w, ub_ne (show Nat.beq 290 (294 + 2 * W.length) = false from beq_f (by omega)), ub_ne (show Nat.beq 290 (294 + 2 * W.length + 1) = false from beq_f (by omega))]
    refine h 1 _ (fun _ => rfl) (fun x => absurd g2 x) ⟨?_, fun q x hx => ?_⟩ ?_
    · unfold push; rw [if_pos g2]
      simp (disch := omega) only [ub_same, List.length_append, List.length_cons, List.length_nil]
    · unfold push at hx; rw [if_pos g2] at hx
      rcases push_at hx with ⟨g3, g4⟩ | ⟨g3, g4⟩
      · have := hW.2 q x g3
        simp only [ub_eq]
        rw [if_neg (by omega), if_neg (by omega), if_neg (by omega), if_neg (by omega), if_neg (by omega), if_neg (by omega)]; exact this
      · subst g3 g4
        simp only [ub_eq]
        rw [if_neg (by omega), if_neg (by omega), if_pos trivial, if_neg (by omega), if_pos trivial]; exact ⟨rfl, rfl⟩
    · intro q hq
      simp only [ub_eq]
      rw [if_neg (by omega), if_neg (by omega), if_neg (by omega)]
  · have g2 : ¬ W.length < 40 := by
      intro x
      have e : (nI W.length).toInt = (40 : Int32).toInt := by rw [g1]
      rw [ti_nI (by omega), tl40] at e; omega
    refine h 0 m (fun x => absurd x g2) (fun _ => rfl) ?_ (fun _ _ => rfl)
    unfold push; rw [if_neg g2]; exact hW
theorem va_cpy_0 {α : Type} {f g : Nat → α} {s d : Nat} : va_cpy f g s d 0 = g := by
  funext k; exact va_cpy_out (by omega)
theorem va_cpy_ub {α : Type} {f g : Nat → α} {s d j : Nat} : ub (va_cpy f g s d j) (d + j) (f (s + j)) = va_cpy f g s d (j + 1) := by
  funext k
  rw [ub_eq]
  by_cases h : k = d + j
  · subst h
    rw [if_pos rfl, va_cpy_in (by omega) (by omega)]; congr 1; omega
  · rw [if_neg h]
    by_cases h1 : d ≤ k ∧ k < d + j
    · rw [va_cpy_in h1.1 h1.2, va_cpy_in h1.1 (by omega)]
    · rw [va_cpy_out h1, va_cpy_out (by omega)]
theorem m_takes_loop {w s μ A B k} {hr : Int32} : ∀ (r d : List A3) (i : Nat) (W : List A2) (m : Nat → Int32), d.length ≤ i → i + r.length ≤ 24 → W.length ≤ 40 →
    m 292 = nI (i + r.length) → (∀ q x, d[q]? = some x → m (374 + 3 * q) = x.1 ∧ m (374 + 3 * q + 1) = x.2.1 ∧ m (374 + 3 * q + 2) = x.2.2) →
    (∀ q x, r[q]? = some x → m (374 + 3 * (i + q)) = x.1 ∧ m (374 + 3 * (i + q) + 1) = x.2.1 ∧ m (374 + 3 * (i + q) + 2) = x.2.2) → WM m W →
    (∀ m', TM m' (d ++ r.filter (fun x => !isH hr x)) → WM m' ((r.filter (isH hr)).foldl pushH W) → MT m m' → k (eW w s μ m' A B)) →
    Wp 143 4 [some (.inr (.inr (s, 114))), some (.inl hr), some (.inl (nI d.length)), some (.inl (nI i)), none, none] [] (eW w s μ m A B) (kV k) := by
  intro r
  induction r with
  | nil =>
    intro d i W m hd hi hW hs h1 h2 hw h
    rw [List.length_nil, Nat.add_zero] at hs hi
    apply v_X10_takes_4
    simp (disch := first | decide | omega) only [cl_nI, in_T, le_nI, lt_nI, nI_s1, true_and, and_true, true_implies, false_implies, implies_true, Nat.le_refl, Nat.lt_irrefl, not_false_eq_true, not_true_eq_false, eq_self, i10, i_ten, i_fv, i_fr, cm_eW, cm_s, ge_m, ge_124, ge_125, ge_off, geL, enc_z, ea_0, ea_1, ea_2, ea_3, ea_4, ea_5, ea_6, ea_7, ea_8, ea_9, ea_10, ea_11, se_0, se_1, se_2, se_3, se_4, se_5, se_6, se_7, se_8, se_9, se_10, se_11, ix_0, ix_1, ix_2, ix_3, ix_4, ix_5, ix_6, ix_7, ix_8, ix_9, ix_10, ix_11, se_z, se_124, se_125, se_off, se_hi, enc_hi, ub_same, ub_ne, ub_ub, ub_comm, in_292, hs]
    refine h _ ?_ ?_ ?_
    · rw [List.filter_nil, List.append_nil]
      refine ⟨ub_same, fun q x hx => ?_⟩
      rw [ub_ne (beq_f (by omega)), ub_ne (beq_f (by omega)), ub_ne (beq_f (by omega))]; exact h1 q x hx
    · refine ⟨by rw [ub_ne rfl]; exact hw.1, fun q x hx => ?_⟩
      have hq : q < W.length := (List.getElem?_eq_some_iff.mp hx).1
      rw [ub_ne (beq_f (by omega)), ub_ne (beq_f (by omega))]; exact hw.2 q x hx
    · intro q hq
      rw [ub_ne (beq_f (by omega))]
  | cons x r ih =>
    intro d i W m hd hi hW hs h1 h2 hw h
    rw [List.length_cons] at hi hs
    have hx := h2 0 x rfl
    rw [Nat.add_zero] at hx
    have h2' : ∀ q y, r[q]? = some y → m (374 + 3 * (i + 1 + q)) = y.1 ∧ m (374 + 3 * (i + 1 + q) + 1) = y.2.1 ∧ m (374 + 3 * (i + 1 + q) + 2) = y.2.2 := by
      intro q y hy
      have := h2 (q + 1) y hy
      rw [show i + (q + 1) = i + 1 + q by omega] at this; exact this
    apply v_X10_takes_4
    simp (disch := first | decide | omega) only [cl_nI, in_T, le_nI, lt_nI, nI_s1, true_and, and_true, true_implies, false_implies, implies_true, Nat.le_refl, Nat.lt_irrefl, not_false_eq_true, not_true_eq_false, eq_self, i10, i_ten, i_fv, i_fr, cm_eW, cm_s, ge_m, ge_124, ge_125, ge_off, geL, enc_z, ea_0, ea_1, ea_2, ea_3, ea_4, ea_5, ea_6, ea_7, ea_8, ea_9, ea_10, ea_11, se_0, se_1, se_2, se_3, se_4, se_5, se_6, se_7, se_8, se_9, se_10, se_11, ix_0, ix_1, ix_2, ix_3, ix_4, ix_5, ix_6, ix_7, ix_8, ix_9, ix_10, ix_11, se_z, se_124, se_125, se_off, se_hi, enc_hi, ub_same, ub_ne, ub_ub, ub_comm, in_292, hs, show i < i + (r.length + 1) by omega, Nat.not_le.mpr (show i < i + (r.length + 1) by omega), ix_t, nI_p2, hx.1, hx.2.1, hx.2.2]
    refine ⟨fun g1 => ?_, fun g1 => ?_⟩
    · have e : isH hr x = false := decide_eq_false g1
      refine cnt (L := fun y => [some (.inr (.inr (s, 114))), some (.inl hr), some (.inl (nI d.length)), some (.inl (nI i)), some (.inl (nI (374 + 3 * i))), some (.inl y)]) 3 (fun j => eW w s μ (va_cpy m m (374 + 3 * i) (374 + 3 * d.length) j) A B) rfl (by rw [va_cpy_0]) ?_ ?_
      · apply v_X10_takes_54
        rw [show (3 : Int32) = nI 3 from rfl]
        simp (disch := first | decide | omega) only [cl_nI, in_T, le_nI, lt_nI, nI_s1, true_and, and_true, true_implies, false_implies, implies_true, Nat.le_refl, Nat.lt_irrefl, not_false_eq_true, not_true_eq_false, eq_self, i10, i_ten, i_fv, i_fr]
        rw [show d.length + 1 = (d ++ [x]).length by rw [List.length_append]; rfl]
        have M : ∀ q, q < 374 + 3 * d.length ∨ 374 + 3 * d.length + 3 ≤ q → va_cpy m m (374 + 3 * i) (374 + 3 * d.length) 3 q = m q := fun q hq => va_cpy_out (by omega)
        have M0 : va_cpy m m (374 + 3 * i) (374 + 3 * d.length) 3 (374 + 3 * d.length) = x.1 := by
          rw [va_cpy_in (by omega) (by omega), show 374 + 3 * i + (374 + 3 * d.length - (374 + 3 * d.length)) = 374 + 3 * i by omega]; exact hx.1
        have M1 : va_cpy m m (374 + 3 * i) (374 + 3 * d.length) 3 (374 + 3 * d.length + 1) = x.2.1 := by
          rw [va_cpy_in (by omega) (by omega), show 374 + 3 * i + (374 + 3 * d.length + 1 - (374 + 3 * d.length)) = 374 + 3 * i + 1 by omega]; exact hx.2.1
        have M2 : va_cpy m m (374 + 3 * i) (374 + 3 * d.length) 3 (374 + 3 * d.length + 2) = x.2.2 := by
          rw [va_cpy_in (by omega) (by omega), show 374 + 3 * i + (374 + 3 * d.length + 2 - (374 + 3 * d.length)) = 374 + 3 * i + 2 by omega]; exact hx.2.2
        have hlt : ∀ q y, d[q]? = some y → q < d.length := fun q y hy => (List.getElem?_eq_some_iff.mp hy).1
        generalize va_cpy m m (374 + 3 * i) (374 + 3 * d.length) 3 = m1 at M M0 M1 M2 ⊢
        refine ih (d ++ [x]) (i + 1) W m1 (by rw [List.length_append]; simp; omega) (by omega) hW (by rw [M 292 (by omega), hs, show i + (r.length + 1) = i + 1 + r.length by omega]) ?_ ?_ ?_ ?_
        · intro q y hy
          rcases push_at hy with ⟨g2, g3⟩ | ⟨g2, g3⟩
          · rw [M _ (by omega), M _ (by omega), M _ (by omega)]; exact h1 q y g2
          · subst g2 g3; exact ⟨M0, M1, M2⟩
        · intro q y hy
          rw [M _ (by omega), M _ (by omega), M _ (by omega)]; exact h2' q y hy
        · refine ⟨by rw [M 290 (by omega)]; exact hw.1, fun q y hy => ?_⟩
          have hq : q < W.length := (List.getElem?_eq_some_iff.mp hy).1
          rw [M _ (by omega), M _ (by omega)]; exact hw.2 q y hy
        · intro m' a1 a2 a3
          refine h m' ?_ ?_ ?_
          · rw [List.filter_cons, e, if_pos (by rfl)]
            rw [List.append_assoc] at a1; exact a1
          · rw [List.filter_cons, e, if_neg (by decide)]; exact a2
          · exact fun q hq => (a3 q hq).trans (M q (by omega))
      · intro j hj hn
        apply v_X10_takes_54
        rw [show (3 : Int32) = nI 3 from rfl, nI_ml, show (374 : Int32) = nI 374 from rfl, nI_ad, nI_ad, nI_ad]
        simp (disch := first | decide | omega) only [cl_nI, in_T, le_nI, lt_nI, nI_s1, true_and, and_true, true_implies, false_implies, implies_true, Nat.le_refl, Nat.lt_irrefl, not_false_eq_true, not_true_eq_false, eq_self, i10, i_ten, i_fv, i_fr, cm_eW, cm_s, ge_m, ge_124, ge_125, ge_off, geL, enc_z, ea_0, ea_1, ea_2, ea_3, ea_4, ea_5, ea_6, ea_7, ea_8, ea_9, ea_10, ea_11, se_0, se_1, se_2, se_3, se_4, se_5, se_6, se_7, se_8, se_9, se_10, se_11, ix_0, ix_1, ix_2, ix_3, ix_4, ix_5, ix_6, ix_7, ix_8, ix_9, ix_10, ix_11, se_z, se_124, se_125, se_off, se_hi, enc_hi, ub_same, ub_ne, ub_ub, ub_comm, hj, Nat.not_le.mpr hj]
        rw [va_cpy_out (show ¬ (374 + 3 * d.length ≤ 374 + 3 * i + j ∧ 374 + 3 * i + j < 374 + 3 * d.length + j) by omega), va_cpy_ub]
        exact hn
    · have e : isH hr x = true := decide_eq_true g1
      refine m_comes hw hW ?_
      intro r1 m1 _ _ a1 a2
      refine ih d (i + 1) (push 40 W (x.2.1, x.2.2)) m1 (by omega) (by omega) (push_le hW) ?_ ?_ ?_ a1 ?_
      · rw [a2 292 (by omega), hs, show i + (r.length + 1) = i + 1 + r.length by omega]
      · intro q y hy
        rw [a2 _ (by omega), a2 _ (by omega), a2 _ (by omega)]; exact h1 q y hy
      · intro q y hy
        rw [a2 _ (by omega), a2 _ (by omega), a2 _ (by omega)]; exact h2' q y hy
      · intro m' b1 b2 b3
        refine h m' ?_ ?_ ((MW.mt a2).tr b3)
        · rw [List.filter_cons, e, if_neg (by decide)]; exact b1
        · rw [List.filter_cons, e, if_pos rfl]; exact b2
theorem m_takes {w s μ m A B k} {hr : Int32} {T : List A3} {W : List A2} (hT : TM m T) (hT2 : T.length ≤ 24) (hw : WM m W) (hW : W.length ≤ 40)
    (h : ∀ m', TM m' (T.filter (fun x => !isH hr x)) → WM m' ((T.filter (isH hr)).foldl pushH W) → MT m m' → k (eW w s μ m' A B)) :
    Cl 143 [vO s 114, vI hr] (eW w s μ m A B) (kV k) := by
  apply v_X10_takes_0
  refine m_takes_loop (d := []) (i := 0) T W m (Nat.le_refl _) (by omega) hW (by rw [hT.1, Nat.zero_add]) (fun q x hx => by cases hx) (fun q x hx => by rw [Nat.zero_add]; exact hT.2 q x hx) hw ?_
  intro m' a1 a2 a3
  exact h m' a1 a2 a3
def acM (c : Nat → Nat → Int32) (x : A2) (μ : Nat → Nat → Int32) : Nat → Nat → Int32 :=
  if x.1 = 0 then (if 15 ≤ μ 1 x.2.toNatClampNeg then ub (ub (ub μ 1 (ub (μ 1) x.2.toNatClampNeg 0)) 2 (ub (μ 2) x.2.toNatClampNeg (-2))) 3 (ub (μ 3) x.2.toNatClampNeg (μ 3 x.2.toNatClampNeg + μ 1 x.2.toNatClampNeg)) else μ)
  else if x.1 = 1 then ub (ub μ 3 (ub (μ 3) x.2.toNatClampNeg (μ 3 x.2.toNatClampNeg + μ 4 x.2.toNatClampNeg))) 4 (ub (μ 4) x.2.toNatClampNeg 0)
  else if x.1 = 2 then (if μ 5 x.2.toNatClampNeg ≤ 90 then ub μ 5 (ub (μ 5) x.2.toNatClampNeg (μ 5 x.2.toNatClampNeg + 10)) else ub μ 5 (ub (μ 5) x.2.toNatClampNeg 100))
  else if x.1 = 3 ∨ x.1 = 4 then (if c 0 x.2.toNatClampNeg = 3 then ub μ 8 (ub (μ 8) x.2.toNatClampNeg (4 - x.1)) else μ)
  else if x.1 = 5 then (if 50 ≤ μ 6 x.2.toNatClampNeg then ub μ 6 (ub (μ 6) x.2.toNatClampNeg (μ 6 x.2.toNatClampNeg - 50)) else ub μ 6 (ub (μ 6) x.2.toNatClampNeg 0))
  else (if μ 0 x.2.toNatClampNeg ≤ μ 7 x.2.toNatClampNeg then ub (ub μ 0 (ub (μ 0) x.2.toNatClampNeg (μ 0 x.2.toNatClampNeg - μ 0 x.2.toNatClampNeg))) 7 (ub (μ 7) x.2.toNatClampNeg (μ 7 x.2.toNatClampNeg - μ 0 x.2.toNatClampNeg))
    else ub (ub μ 0 (ub (μ 0) x.2.toNatClampNeg (μ 0 x.2.toNatClampNeg - μ 7 x.2.toNatClampNeg))) 7 (ub (μ 7) x.2.toNatClampNeg (μ 7 x.2.toNatClampNeg - μ 7 x.2.toNatClampNeg)))
theorem m_acts {w s μ m A B k} {x : A2} (hx : vp_in x.2 24) (h : k (eW w s (acM (cm w) x μ) m A B)) : Cl 145 [vO 0 90, vO s 114, vI x.1, vI x.2] (eW w s μ m A B) (kV k) := by
  obtain ⟨i, hi, e⟩ := of_in hx
  apply v_X10_acts_0
  unfold acM at h
  rw [e] at h ⊢
  rw [cl_nI (by omega)] at h
  simp (disch := first | decide | omega) only [cl_nI, in_T, le_nI, lt_nI, nI_s1, true_and, and_true, true_implies, false_implies, implies_true, Nat.le_refl, Nat.lt_irrefl, not_false_eq_true, not_true_eq_false, eq_self, i10, i_ten, i_fv, i_fr, cm_eW, cm_s, ge_m, ge_124, ge_125, ge_off, geL, enc_z, ea_0, ea_1, ea_2, ea_3, ea_4, ea_5, ea_6, ea_7, ea_8, ea_9, ea_10, ea_11, se_0, se_1, se_2, se_3, se_4, se_5, se_6, se_7, se_8, se_9, se_10, se_11, ix_0, ix_1, ix_2, ix_3, ix_4, ix_5, ix_6, ix_7, ix_8, ix_9, ix_10, ix_11, se_z, se_124, se_125, se_off, se_hi, enc_hi, ub_same, ub_ne, ub_ub, ub_comm, hi, cm_0]
  refine ⟨fun h0 => ?_, fun h0 => ⟨fun h1 => ?_, fun h1 => ⟨fun h2 => ?_, fun h2 => ⟨fun h3 => ?_, fun h3 => ⟨fun h4 => ?_, fun h4 => ⟨fun h5 => ?_, fun h5 => ?_⟩⟩⟩⟩⟩⟩
  · rw [if_pos h0] at h
    refine ⟨fun g1 => ?_, fun g1 => ?_⟩
    · rw [if_neg (Int32.not_le.mpr g1)] at h; exact h
    · rw [if_pos g1] at h; exact h
  · rw [if_neg h0, if_pos h1] at h; exact h
  · rw [if_neg h0, if_neg h1, if_pos h2] at h
    refine ⟨fun g1 => ?_, fun g1 => ?_⟩
    · rw [if_pos g1] at h; exact h
    · rw [if_neg (Int32.not_le.mpr g1)] at h; exact h
  · rw [if_neg h0, if_neg h1, if_neg h2, if_pos (Or.inl h3)] at h
    refine ⟨fun g1 => ?_, fun g1 => ?_⟩
    · rw [if_neg g1] at h; exact h
    · rw [if_pos g1] at h; exact h
  · rw [if_neg h0, if_neg h1, if_neg h2, if_pos (Or.inr h4)] at h
    refine ⟨fun g1 => ?_, fun g1 => ?_⟩
    · rw [if_neg g1] at h; exact h
    · rw [if_pos g1] at h; exact h
  · rw [if_neg h0, if_neg h1, if_neg h2, if_neg (not_or.mpr ⟨h3, h4⟩), if_pos h5] at h
    refine ⟨fun g1 => ?_, fun g1 => ?_⟩
    · rw [if_pos g1] at h; exact h
    · rw [if_neg (Int32.not_le.mpr g1)] at h; exact h
  · rw [if_neg h0, if_neg h1, if_neg h2, if_neg (not_or.mpr ⟨h3, h4⟩), if_neg h5] at h
    refine ⟨fun g1 => ?_, fun g1 => ?_⟩
    · rw [if_pos g1] at h; exact h
    · rw [if_neg (Int32.not_le.mpr g1)] at h; exact h
def MD (m m' : Nat → Int32) : Prop := ∀ k, ¬ (k = 290 ∨ k = 291 ∨ (294 ≤ k ∧ k < 374)) → m' k = m k
theorem m_does {w s μ m A B k} {W : List A2} {cr : Nat} (hW : WM m W) (h40 : W.length ≤ 40) (hc : gI w (0, 90) 32 = nI cr) (hcr : cr ≤ 6) (hok : cellsOK W)
    (h : ∀ m', WM m' (W.drop (mny cr W)) → m' 291 = m 291 + nI (mny cr W) → MD m m' → k (eW w s ((W.take (mny cr W)).foldl (fun μ x => acM (cm w) x μ) μ) m' A B)) :
    Cl 144 [vO 0 90, vO s 114] (eW w s μ m A B) (kV k) := by
  have h1 := hW.1
  have hm1 : mny cr W ≤ W.length := by unfold mny; split <;> omega
  have F : Wp 144 27 [some (.inr (.inr (0, 90))), some (.inr (.inr (s, 114))), some (.inl (nI (mny cr W))), some (.inl 0)] [] (eW w s μ m A B) (kV k) := by
    generalize hn : mny cr W = n at *
    refine cnt (L := fun y => [some (.inr (.inr (0, 90))), some (.inr (.inr (s, 114))), some (.inl (nI n)), some (.inl y)]) n (fun i => eW w s ((W.take i).foldl (fun μ x => acM (cm w) x μ) μ) m A B) rfl rfl ?_ ?_
    · apply v_X10_does_27
      generalize (W.take n).foldl (fun μ x => acM (cm w) x μ) μ = μ' at h ⊢
      simp (disch := first | decide | omega) only [cl_nI, in_T, le_nI, lt_nI, nI_s1, true_and, and_true, true_implies, false_implies, implies_true, Nat.le_refl, Nat.lt_irrefl, not_false_eq_true, not_true_eq_false, eq_self, i10, i_ten, i_fv, i_fr]
      refine cnt (L := fun y => [none, some (.inr (.inr (s, 114))), some (.inl (nI n)), some (.inl (2 * nI n + y))]) (2 * W.length - 2 * n) (fun j => eW w s μ' (va_cpy m m (294 + 2 * n) 294 j) A B) (by rw [show (2 : Int32) * nI n + nI 0 = 2 * nI n from r32_9]) (by rw [va_cpy_0]) ?_ ?_
      · apply v_X10_does_67
        have M : ∀ q, ¬ (294 ≤ q ∧ q < 294 + (2 * W.length - 2 * n)) → va_cpy m m (294 + 2 * n) 294 (2 * W.length - 2 * n) q = m q := fun q hq => va_cpy_out hq
        have N : ∀ q, q < 2 * W.length - 2 * n → va_cpy m m (294 + 2 * n) 294 (2 * W.length - 2 * n) (294 + q) = m (294 + 2 * n + q) := fun q hq => by
          rw [va_cpy_in (by omega) (by omega), show 294 + q - 294 = q by omega]
        generalize va_cpy m m (294 + 2 * n) 294 (2 * W.length - 2 * n) = m1 at M N ⊢
        have e0 : m1 290 = nI W.length := by rw [M 290 (by omega), h1]
        have e1 : m1 291 = m 291 := M 291 (by omega)
        rw [show (2 : Int32) * nI n + nI (2 * W.length - 2 * n) = nI (2 * W.length) by rw [show (2 : Int32) = nI 2 from rfl, nI_ml, nI_ad]; congr 1; omega]
        simp (disch := first | decide | omega) only [cl_nI, in_T, le_nI, lt_nI, nI_s1, true_and, and_true, true_implies, false_implies, implies_true, Nat.le_refl, Nat.lt_irrefl, not_false_eq_true, not_true_eq_false, eq_self, i10, i_ten, i_fv, i_fr, cm_eW, cm_s, ge_m, ge_124, ge_125, ge_off, geL, enc_z, ea_0, ea_1, ea_2, ea_3, ea_4, ea_5, ea_6, ea_7, ea_8, ea_9, ea_10, ea_11, se_0, se_1, se_2, se_3, se_4, se_5, se_6, se_7, se_8, se_9, se_10, se_11, ix_0, ix_1, ix_2, ix_3, ix_4, ix_5, ix_6, ix_7, ix_8, ix_9, ix_10, ix_11, se_z, se_124, se_125, se_off, se_hi, enc_hi, ub_same, ub_ne, ub_ub, ub_comm, in_290, in_291, e0, e1, show (2 : Int32) * nI W.length = nI (2 * W.length) from by rw [show (2 : Int32) = nI 2 from rfl, nI_ml], nI_sb]
        refine h _ ⟨?_, fun q x hx => ?_⟩ ?_ ?_
        · rw [ub_ne rfl, ub_same, List.length_drop]
        · rw [List.getElem?_drop] at hx
          have hq : n + q < W.length := (List.getElem?_eq_some_iff.mp hx).1
          have hw := hW.2 _ _ hx
          rw [ub_ne (beq_f (by omega)), ub_ne (beq_f (by omega)), ub_ne (beq_f (by omega)), ub_ne (beq_f (by omega)), N _ (by omega), show 294 + 2 * q + 1 = 294 + (2 * q + 1) by omega, N _ (by omega)]
          rw [show 294 + 2 * n + 2 * q = 294 + 2 * (n + q) by omega, show 294 + 2 * n + (2 * q + 1) = 294 + 2 * (n + q) + 1 by omega]; exact hw
        · rw [ub_same]
        · intro q hq
          rw [ub_ne (beq_f (by omega)), ub_ne (beq_f (by omega)), M q (by omega)]
      · intro j hj hn'
        apply v_X10_does_67
        have e0 : va_cpy m m (294 + 2 * n) 294 j 290 = nI W.length := by rw [va_cpy_out (by omega), h1]
        have c1 : (2 : Int32) * nI n + nI j = nI (2 * n + j) := by rw [show (2 : Int32) = nI 2 from rfl, nI_ml, nI_ad]
        have c2 : (294 : Int32) + nI (2 * n + j) = nI (294 + (2 * n + j)) := by rw [show (294 : Int32) = nI 294 from rfl, nI_ad]
        have c3 : (2 : Int32) * nI n = nI (2 * n) := by rw [show (2 : Int32) = nI 2 from rfl, nI_ml]
        have c4 : (2 : Int32) * nI W.length = nI (2 * W.length) := by rw [show (2 : Int32) = nI 2 from rfl, nI_ml]
        have c5 : nI (294 + (2 * n + j)) - nI (2 * n) = nI (294 + j) := by rw [nI_sb (by omega)]; congr 1; omega
        rw [c1, c2, c3, c5]
        simp (disch := first | decide | omega) only [cl_nI, in_T, le_nI, lt_nI, nI_s1, true_and, and_true, true_implies, false_implies, implies_true, Nat.le_refl, Nat.lt_irrefl, not_false_eq_true, not_true_eq_false, eq_self, i10, i_ten, i_fv, i_fr, cm_eW, cm_s, ge_m, ge_124, ge_125, ge_off, geL, enc_z, ea_0, ea_1, ea_2, ea_3, ea_4, ea_5, ea_6, ea_7, ea_8, ea_9, ea_10, ea_11, se_0, se_1, se_2, se_3, se_4, se_5, se_6, se_7, se_8, se_9, se_10, se_11, ix_0, ix_1, ix_2, ix_3, ix_4, ix_5, ix_6, ix_7, ix_8, ix_9, ix_10, ix_11, se_z, se_124, se_125, se_off, se_hi, enc_hi, ub_same, ub_ne, ub_ub, ub_comm, in_290, e0, c4, show 2 * n + j < 2 * W.length by omega, Nat.not_le.mpr (show 2 * n + j < 2 * W.length by omega)]
        rw [va_cpy_out (show ¬ (294 ≤ 294 + (2 * n + j) ∧ 294 + (2 * n + j) < 294 + j) by omega), show 294 + (2 * n + j) = 294 + 2 * n + j by omega, va_cpy_ub]
        have c6 : (2 : Int32) * nI n + nI (j + 1) = nI (2 * n + j + 1) := by rw [c3, nI_ad]; rfl
        simp only [c6] at hn'
        exact hn'
    · intro i hi hn'
      obtain ⟨x, hx⟩ : ∃ x, W[i]? = some x := ⟨W[i]'(by omega), List.getElem?_eq_getElem (by omega)⟩
      have hx2 := hW.2 i x hx
      apply v_X10_does_27
      simp (disch := first | decide | omega) only [cl_nI, in_T, le_nI, lt_nI, nI_s1, true_and, and_true, true_implies, false_implies, implies_true, Nat.le_refl, Nat.lt_irrefl, not_false_eq_true, not_true_eq_false, eq_self, i10, i_ten, i_fv, i_fr, cm_eW, cm_s, ge_m, ge_124, ge_125, ge_off, geL, enc_z, ea_0, ea_1, ea_2, ea_3, ea_4, ea_5, ea_6, ea_7, ea_8, ea_9, ea_10, ea_11, se_0, se_1, se_2, se_3, se_4, se_5, se_6, se_7, se_8, se_9, se_10, se_11, ix_0, ix_1, ix_2, ix_3, ix_4, ix_5, ix_6, ix_7, ix_8, ix_9, ix_10, ix_11, se_z, se_124, se_125, se_off, se_hi, enc_hi, ub_same, ub_ne, ub_ub, ub_comm, hi, Nat.not_le.mpr hi, ix_w, hx2.1, hx2.2]
      refine m_acts (hok x (List.mem_of_getElem? hx)) ?_
      have e1 : (W.take (i + 1)).foldl (fun μ x => acM (cm w) x μ) μ = acM (cm w) x ((W.take i).foldl (fun μ x => acM (cm w) x μ) μ) := by
        rw [List.take_add_one, hx, List.foldl_append]; rfl
      rw [e1] at hn'
      exact hn'
  apply v_X10_does_0
  simp (disch := first | decide | omega) only [cl_nI, in_T, le_nI, lt_nI, nI_s1, true_and, and_true, true_implies, false_implies, implies_true, Nat.le_refl, Nat.lt_irrefl, not_false_eq_true, not_true_eq_false, eq_self, i10, i_ten, i_fv, i_fr, cm_eW, cm_s, ge_m, ge_124, ge_125, ge_off, geL, enc_z, ea_0, ea_1, ea_2, ea_3, ea_4, ea_5, ea_6, ea_7, ea_8, ea_9, ea_10, ea_11, se_0, se_1, se_2, se_3, se_4, se_5, se_6, se_7, se_8, se_9, se_10, se_11, ix_0, ix_1, ix_2, ix_3, ix_4, ix_5, ix_6, ix_7, ix_8, ix_9, ix_10, ix_11, se_z, se_124, se_125, se_off, se_hi, enc_hi, ub_same, ub_ne, ub_ub, ub_comm, in_290, hc, h1]
  unfold mny at F
  refine ⟨fun g1 => ?_, fun g1 => ?_⟩
  · rw [if_neg (by omega)] at F; exact F
  · rw [if_pos g1] at F; exact F
