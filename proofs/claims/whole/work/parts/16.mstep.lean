/-! what the model's steps of an HOUR do, as functions -/
def brkM (μ : Nat → Nat → Int32) (i : Nat) : Int32 := 10 + μ 4 i + (if 0 < μ 1 i then 20 else 0)
def fa (c : Nat → Nat → Int32) (se : Int32) (R : Nat) (wa : Nat → Int32) (i : Nat) : Int32 := lx c se R wa i - lx c se R wa (i + 1)
def FM (c : Nat → Nat → Int32) (se : Int32) (R : Nat) (μ : Nat → Nat → Int32) (i : Nat) : Int32 :=
  if 0 < fa c se R (μ 0) i ∧ (c 0 i = 3 → μ 8 i = 0) then (if fa c se R (μ 0) i * c 3 i / brkM μ i < μ 0 i then fa c se R (μ 0) i * c 3 i / brkM μ i else μ 0 i) else 0
def fMW (c : Nat → Nat → Int32) (se : Int32) (R : Nat) (μ : Nat → Nat → Int32) (i : Nat) : Int32 := μ 0 i + ((if 0 < i then FM c se R μ (i - 1) else 0) - FM c se R μ i)
def flowM (c : Nat → Nat → Int32) (se : Int32) (R : Nat) (μ : Nat → Nat → Int32) : Nat → Nat → Int32 :=
  ub (ub μ 0 (mx R (fMW c se R μ) (μ 0))) 9 (mx R (FM c se R μ) (μ 9))
def nwM (t : Int32) (μ : Nat → Nat → Int32) (i : Nat) : Int32 := μ 1 i + -t / (5 + μ 1 i / 10)
def frM1 (t : Int32) (μ : Nat → Nat → Int32) (i : Nat) : Int32 :=
  if 0 < t then (if t / 4 < μ 1 i then μ 1 i - t / 4 else 0) else if t < 0 ∧ μ 3 i = 0 ∧ μ 4 i = 0 then (if 200 < nwM t μ i then 200 else nwM t μ i) else μ 1 i
def frM2 (c : Nat → Nat → Int32) (t : Int32) (μ : Nat → Nat → Int32) (i : Nat) : Int32 :=
  if frM1 t μ i = 0 then -2 else if (t < 0 ∧ μ 3 i = 0 ∧ μ 4 i = 0) ∧ μ 1 i = 0 ∧ 0 < nwM t μ i then lv c (μ 0) i else μ 2 i
def frM (c : Nat → Nat → Int32) (R : Nat) (t : Int32) (μ : Nat → Nat → Int32) : Nat → Nat → Int32 := ub (ub μ 1 (mx R (frM1 t μ) (μ 1))) 2 (mx R (frM2 c t μ) (μ 2))
def bkM (c : Nat → Nat → Int32) (μ : Nat → Nat → Int32) (i : Nat) : Bool := decide (¬ c 0 i = 4 ∧ 0 < μ 1 i ∧ μ 2 i + 10 + μ 1 i ≤ lv c (μ 0) i)
def bM1 (c : Nat → Nat → Int32) (μ : Nat → Nat → Int32) (i : Nat) : Int32 := if bkM c μ i = true then 0 else μ 1 i
def bM2 (c : Nat → Nat → Int32) (μ : Nat → Nat → Int32) (i : Nat) : Int32 := if bkM c μ i = true then -2 else μ 2 i
def bM3 (c : Nat → Nat → Int32) (μ : Nat → Nat → Int32) (i : Nat) : Int32 := if bkM c μ i = true then μ 3 i + μ 1 i else μ 3 i
def brM (c : Nat → Nat → Int32) (R : Nat) (μ : Nat → Nat → Int32) : Nat → Nat → Int32 :=
  ub (ub (ub μ 1 (mx R (bM1 c μ) (μ 1))) 2 (mx R (bM2 c μ) (μ 2))) 3 (mx R (bM3 c μ) (μ 3))
def mvM (c : Nat → Nat → Int32) (μ : Nat → Nat → Int32) (i : Nat) : Int32 := if c 0 i = 4 then 0 else if μ 9 i / 5 < μ 3 i then μ 9 i / 5 else μ 3 i
def mpM (c : Nat → Nat → Int32) (μ : Nat → Nat → Int32) (i : Nat) : Int32 := if c 0 i = 0 then 200 else if c 0 i = 1 then 40 else if c 0 i = 2 then 20 else if μ 8 i = 1 then 0 else 30
def psM (c : Nat → Nat → Int32) (R : Nat) (μ : Nat → Nat → Int32) (i : Nat) (v : Int32) : Int32 := if i + 1 < R ∧ 0 < μ 1 (i + 1) then 0 else if v < mpM c μ i then v else mpM c μ i
def paM (c : Nat → Nat → Int32) (R : Nat) (μ : Nat → Nat → Int32) (i : Nat) : Int32 := if c 0 i = 4 then 0 else psM c R μ i (mvM c μ i)
def jaM (c : Nat → Nat → Int32) (R : Nat) (μ : Nat → Nat → Int32) (i : Nat) : Int32 := mvM c μ i - paM c R μ i
def dM3 (c : Nat → Nat → Int32) (R : Nat) (μ : Nat → Nat → Int32) (i : Nat) : Int32 := μ 3 i + ((if 0 < i then paM c R μ (i - 1) else 0) - paM c R μ i - jaM c R μ i)
def dM4 (c : Nat → Nat → Int32) (R : Nat) (μ : Nat → Nat → Int32) (i : Nat) : Int32 := μ 4 i + jaM c R μ i
def drM (c : Nat → Nat → Int32) (R : Nat) (μ : Nat → Nat → Int32) : Nat → Nat → Int32 := ub (ub μ 3 (mx R (dM3 c R μ) (μ 3))) 4 (mx R (dM4 c R μ) (μ 4))
def lgM (c : Nat → Nat → Int32) (se : Int32) (R : Nat) (t : Int32) (μ : Nat → Nat → Int32) (i : Nat) : Int32 :=
  if 0 < μ 4 i ∧ 30 + 2 * μ 4 i + (if t < 0 then 20 else 0) < fa c se R (μ 0) i then μ 4 i else 0
def lM3 (c : Nat → Nat → Int32) (se : Int32) (R : Nat) (t : Int32) (μ : Nat → Nat → Int32) (i : Nat) : Int32 := if 0 < i then μ 3 i + lgM c se R t μ (i - 1) else μ 3 i
def lM4 (c : Nat → Nat → Int32) (se : Int32) (R : Nat) (t : Int32) (μ : Nat → Nat → Int32) (i : Nat) : Int32 := μ 4 i - lgM c se R t μ i
def lgS (c : Nat → Nat → Int32) (se : Int32) (R : Nat) (t : Int32) (μ : Nat → Nat → Int32) : Nat → Nat → Int32 := ub (ub μ 3 (mx R (lM3 c se R t μ) (μ 3))) 4 (mx R (lM4 c se R t μ) (μ 4))

theorem m_flows {w s μ m A B R se k} (hR : gI w (0, 90) 30 = nI R) (h24 : R ≤ 24) (hs : gI w (0, 90) 31 = se) (ha : ∀ i, i < R → ¬ cm w 2 i = 0) (hb : ∀ i, i < R → ¬ brkM μ i = 0)
    (h : ∀ A', k (eW w s (flowM (cm w) se R μ) m A' B)) : Cl 148 [vO 0 90, vO s 114] (eW w s μ m A B) (kV k) := by
  apply v_X10_flows_0
  refine cnt (L := fun x => [some (.inr (.inr (0, 90))), some (.inr (.inr (s, 114))), some (.inl x), none, none]) R (fun i => eW w s μ m (mx i (FM (cm w) se R μ) A) B) rfl (by rw [mx_0]) ?_ ?_
  · apply v_X10_flows_2
    simp (disch := first | decide | omega) only [cl_nI, in_T, le_nI, lt_nI, nI_s1, true_and, and_true, true_implies, false_implies, implies_true, Nat.le_refl, Nat.lt_irrefl, not_false_eq_true, not_true_eq_false, eq_self, i10, i_ten, i_fv, i_fr, cm_eW, cm_s, ge_m, ge_124, ge_125, ge_off, geL, enc_z, ea_0, ea_1, ea_2, ea_3, ea_4, ea_5, ea_6, ea_7, ea_8, ea_9, ea_10, ea_11, se_0, se_1, se_2, se_3, se_4, se_5, se_6, se_7, se_8, se_9, se_10, se_11, ix_0, ix_1, ix_2, ix_3, ix_4, ix_5, ix_6, ix_7, ix_8, ix_9, ix_10, ix_11, se_z, se_124, se_125, se_off, se_hi, enc_hi, ub_same, ub_ne, ub_ub, ub_comm, hR]
    have hA : ∀ i, i < R → mx R (FM (cm w) se R μ) A i = FM (cm w) se R μ i := fun i hi => mx_lt hi
    generalize mx R (FM (cm w) se R μ) A = A' at hA
    refine cnt (L := fun x => [some (.inr (.inr (0, 90))), some (.inr (.inr (s, 114))), some (.inl x), none, none]) R (fun i => eW w s (ub (ub μ 0 (mx i (fMW (cm w) se R μ) (μ 0))) 9 (mx i (FM (cm w) se R μ) (μ 9))) m A' B) rfl (by rw [mx_0, mx_0, ub_self, ub_self]) ?_ ?_
    · apply v_X10_flows_125
      simp (disch := first | decide | omega) only [cl_nI, in_T, le_nI, lt_nI, nI_s1, true_and, and_true, true_implies, false_implies, implies_true, Nat.le_refl, Nat.lt_irrefl, not_false_eq_true, not_true_eq_false, eq_self, i10, i_ten, i_fv, i_fr, cm_eW, cm_s, ge_m, ge_124, ge_125, ge_off, geL, enc_z, ea_0, ea_1, ea_2, ea_3, ea_4, ea_5, ea_6, ea_7, ea_8, ea_9, ea_10, ea_11, se_0, se_1, se_2, se_3, se_4, se_5, se_6, se_7, se_8, se_9, se_10, se_11, ix_0, ix_1, ix_2, ix_3, ix_4, ix_5, ix_6, ix_7, ix_8, ix_9, ix_10, ix_11, se_z, se_124, se_125, se_off, se_hi, enc_hi, ub_same, ub_ne, ub_ub, ub_comm, hR]
      exact h A'
    · intro i hi hn
      apply v_X10_flows_125
      simp (disch := first | decide | omega) only [cl_nI, in_T, le_nI, lt_nI, nI_s1, true_and, and_true, true_implies, false_implies, implies_true, Nat.le_refl, Nat.lt_irrefl, not_false_eq_true, not_true_eq_false, eq_self, i10, i_ten, i_fv, i_fr, cm_eW, cm_s, ge_m, ge_124, ge_125, ge_off, geL, enc_z, ea_0, ea_1, ea_2, ea_3, ea_4, ea_5, ea_6, ea_7, ea_8, ea_9, ea_10, ea_11, se_0, se_1, se_2, se_3, se_4, se_5, se_6, se_7, se_8, se_9, se_10, se_11, ix_0, ix_1, ix_2, ix_3, ix_4, ix_5, ix_6, ix_7, ix_8, ix_9, ix_10, ix_11, se_z, se_124, se_125, se_off, se_hi, enc_hi, ub_same, ub_ne, ub_ub, ub_comm, hR, hi, Nat.not_le.mpr hi, hA i hi, mx_at, mx_ub, i_le0, i_0lt]
      refine ⟨fun h1 => ?_, fun h1 => ?_⟩
      · apply v_X10_flows_171
        simp (disch := first | decide | omega) only [cl_nI, in_T, le_nI, lt_nI, nI_s1, true_and, and_true, true_implies, false_implies, implies_true, Nat.le_refl, Nat.lt_irrefl, not_false_eq_true, not_true_eq_false, eq_self, i10, i_ten, i_fv, i_fr, cm_eW, cm_s, ge_m, ge_124, ge_125, ge_off, geL, enc_z, ea_0, ea_1, ea_2, ea_3, ea_4, ea_5, ea_6, ea_7, ea_8, ea_9, ea_10, ea_11, se_0, se_1, se_2, se_3, se_4, se_5, se_6, se_7, se_8, se_9, se_10, se_11, ix_0, ix_1, ix_2, ix_3, ix_4, ix_5, ix_6, ix_7, ix_8, ix_9, ix_10, ix_11, se_z, se_124, se_125, se_off, se_hi, enc_hi, ub_same, ub_ne, ub_ub, ub_comm, hi, hA i hi]
        rw [mx_ub (show μ 0 i + (0 - FM (cm w) se R μ i) = fMW (cm w) se R μ i by unfold fMW; rw [if_neg (by omega)]), mx_ub (show FM (cm w) se R μ i = FM (cm w) se R μ i from rfl)]
        exact hn
      · obtain ⟨j, rfl⟩ : ∃ j, i = j + 1 := ⟨i - 1, by omega⟩
        simp (disch := first | decide | omega) only [cl_nI, in_T, le_nI, lt_nI, nI_s1, true_and, and_true, true_implies, false_implies, implies_true, Nat.le_refl, Nat.lt_irrefl, not_false_eq_true, not_true_eq_false, eq_self, i10, i_ten, i_fv, i_fr, cm_eW, cm_s, ge_m, ge_124, ge_125, ge_off, geL, enc_z, ea_0, ea_1, ea_2, ea_3, ea_4, ea_5, ea_6, ea_7, ea_8, ea_9, ea_10, ea_11, se_0, se_1, se_2, se_3, se_4, se_5, se_6, se_7, se_8, se_9, se_10, se_11, ix_0, ix_1, ix_2, ix_3, ix_4, ix_5, ix_6, ix_7, ix_8, ix_9, ix_10, ix_11, se_z, se_124, se_125, se_off, se_hi, enc_hi, ub_same, ub_ne, ub_ub, ub_comm, nI_m1, hA j (by omega)]
        apply v_X10_flows_171
        simp (disch := first | decide | omega) only [cl_nI, in_T, le_nI, lt_nI, nI_s1, true_and, and_true, true_implies, false_implies, implies_true, Nat.le_refl, Nat.lt_irrefl, not_false_eq_true, not_true_eq_false, eq_self, i10, i_ten, i_fv, i_fr, cm_eW, cm_s, ge_m, ge_124, ge_125, ge_off, geL, enc_z, ea_0, ea_1, ea_2, ea_3, ea_4, ea_5, ea_6, ea_7, ea_8, ea_9, ea_10, ea_11, se_0, se_1, se_2, se_3, se_4, se_5, se_6, se_7, se_8, se_9, se_10, se_11, ix_0, ix_1, ix_2, ix_3, ix_4, ix_5, ix_6, ix_7, ix_8, ix_9, ix_10, ix_11, se_z, se_124, se_125, se_off, se_hi, enc_hi, ub_same, ub_ne, ub_ub, ub_comm, hi, hA (j + 1) hi]
        rw [mx_ub (show μ 0 (j + 1) + (FM (cm w) se R μ j - FM (cm w) se R μ (j + 1)) = fMW (cm w) se R μ (j + 1) by unfold fMW; rw [if_pos (by omega)]; rfl), mx_ub (show FM (cm w) se R μ (j + 1) = FM (cm w) se R μ (j + 1) from rfl)]
        exact hn
  · intro i hi hn
    apply v_X10_flows_2
    simp (disch := first | decide | omega) only [cl_nI, in_T, le_nI, lt_nI, nI_s1, true_and, and_true, true_implies, false_implies, implies_true, Nat.le_refl, Nat.lt_irrefl, not_false_eq_true, not_true_eq_false, eq_self, i10, i_ten, i_fv, i_fr, cm_eW, cm_s, ge_m, ge_124, ge_125, ge_off, geL, enc_z, ea_0, ea_1, ea_2, ea_3, ea_4, ea_5, ea_6, ea_7, ea_8, ea_9, ea_10, ea_11, se_0, se_1, se_2, se_3, se_4, se_5, se_6, se_7, se_8, se_9, se_10, se_11, ix_0, ix_1, ix_2, ix_3, ix_4, ix_5, ix_6, ix_7, ix_8, ix_9, ix_10, ix_11, se_z, se_124, se_125, se_off, se_hi, enc_hi, ub_same, ub_ne, ub_ub, ub_comm, hR, hi, Nat.not_le.mpr hi, ha i hi, hs, cm_2, cm_1, cm_0, cm_3]
    have J : ∀ v, v = FM (cm w) se R μ i → Wp 148 109 [some (.inr (.inr (0, 90))), some (.inr (.inr (s, 114))), some (.inl (nI i)), none, some (.inl v)] [] (eW w s μ m (mx i (FM (cm w) se R μ) A) B) (kV k) := by
      intro v hv
      apply v_X10_flows_109
      simp (disch := first | decide | omega) only [cl_nI, in_T, le_nI, lt_nI, nI_s1, true_and, and_true, true_implies, false_implies, implies_true, Nat.le_refl, Nat.lt_irrefl, not_false_eq_true, not_true_eq_false, eq_self, i10, i_ten, i_fv, i_fr, cm_eW, cm_s, ge_m, ge_124, ge_125, ge_off, geL, enc_z, ea_0, ea_1, ea_2, ea_3, ea_4, ea_5, ea_6, ea_7, ea_8, ea_9, ea_10, ea_11, se_0, se_1, se_2, se_3, se_4, se_5, se_6, se_7, se_8, se_9, se_10, se_11, ix_0, ix_1, ix_2, ix_3, ix_4, ix_5, ix_6, ix_7, ix_8, ix_9, ix_10, ix_11, se_z, se_124, se_125, se_off, se_hi, enc_hi, ub_same, ub_ne, ub_ub, ub_comm, hi]
      rw [mx_ub hv]; exact hn
    have K : 0 < fa (cm w) se R (μ 0) i → (cm w 0 i = 3 → μ 8 i = 0) → Wp 148 45 [some (.inr (.inr (0, 90))), some (.inr (.inr (s, 114))), some (.inl (nI i)), some (.inl (fa (cm w) se R (μ 0) i)), none] [] (eW w s μ m (mx i (FM (cm w) se R μ) A) B) (kV k) := by
      intro h1 h2
      apply v_X10_flows_45
      have e : FM (cm w) se R μ i = (if fa (cm w) se R (μ 0) i * cm w 3 i / brkM μ i < μ 0 i then fa (cm w) se R (μ 0) i * cm w 3 i / brkM μ i else μ 0 i) := if_pos ⟨h1, h2⟩
      have M : ∀ b0 b1 : Int32, b1 + b0 = brkM μ i → Wp 148 79 [some (.inr (.inr (0, 90))), some (.inr (.inr (s, 114))), some (.inl (nI i)), none, none] [.inl b0, .inl b1, .inl (fa (cm w) se R (μ 0) i * cm w 3 i)] (eW w s μ m (mx i (FM (cm w) se R μ) A) B) (kV k) := by
        intro b0 b1 hbb
        apply v_X10_flows_79
        simp (disch := first | decide | omega) only [cl_nI, in_T, le_nI, lt_nI, nI_s1, true_and, and_true, true_implies, false_implies, implies_true, Nat.le_refl, Nat.lt_irrefl, not_false_eq_true, not_true_eq_false, eq_self, i10, i_ten, i_fv, i_fr, cm_eW, cm_s, ge_m, ge_124, ge_125, ge_off, geL, enc_z, ea_0, ea_1, ea_2, ea_3, ea_4, ea_5, ea_6, ea_7, ea_8, ea_9, ea_10, ea_11, se_0, se_1, se_2, se_3, se_4, se_5, se_6, se_7, se_8, se_9, se_10, se_11, ix_0, ix_1, ix_2, ix_3, ix_4, ix_5, ix_6, ix_7, ix_8, ix_9, ix_10, ix_11, se_z, se_124, se_125, se_off, se_hi, enc_hi, ub_same, ub_ne, ub_ub, ub_comm, hi, hbb, hb i hi]
        refine ⟨fun h3 => ?_, fun h3 => ?_⟩
        · apply v_X10_flows_107
          refine J _ ?_
          rw [e, if_neg (Int32.not_lt.mpr h3)]
        · apply v_X10_flows_107
          refine J _ ?_
          rw [e, if_pos h3]
      simp (disch := first | decide | omega) only [cl_nI, in_T, le_nI, lt_nI, nI_s1, true_and, and_true, true_implies, false_implies, implies_true, Nat.le_refl, Nat.lt_irrefl, not_false_eq_true, not_true_eq_false, eq_self, i10, i_ten, i_fv, i_fr, cm_eW, cm_s, ge_m, ge_124, ge_125, ge_off, geL, enc_z, ea_0, ea_1, ea_2, ea_3, ea_4, ea_5, ea_6, ea_7, ea_8, ea_9, ea_10, ea_11, se_0, se_1, se_2, se_3, se_4, se_5, se_6, se_7, se_8, se_9, se_10, se_11, ix_0, ix_1, ix_2, ix_3, ix_4, ix_5, ix_6, ix_7, ix_8, ix_9, ix_10, ix_11, se_z, se_124, se_125, se_off, se_hi, enc_hi, ub_same, ub_ne, ub_ub, ub_comm, hi, cm_3]
      refine ⟨fun h3 => M _ _ ?_, fun h3 => M _ _ ?_⟩
      · unfold brkM; rw [if_neg (Int32.not_lt.mpr h3)]
      · unfold brkM; rw [if_pos h3]
    have f0 : cm w 1 i + μ 0 i / cm w 2 i = lx (cm w) se R (μ 0) i := (lx_lt hi).symm
    have fin : ∀ y, y = lx (cm w) se R (μ 0) (i + 1) → ((lx (cm w) se R (μ 0) i - y ≤ 0 → Wp 148 109 [some (.inr (.inr (0, 90))), some (.inr (.inr (s, 114))), some (.inl (nI i)), none, some (.inl 0)] [] (eW w s μ m (mx i (FM (cm w) se R μ) A) B) (kV k)) ∧ (0 < lx (cm w) se R (μ 0) i - y → (¬ cm w 0 i = 3 → Wp 148 45 [some (.inr (.inr (0, 90))), some (.inr (.inr (s, 114))), some (.inl (nI i)), some (.inl (lx (cm w) se R (μ 0) i - y)), none] [] (eW w s μ m (mx i (FM (cm w) se R μ) A) B) (kV k)) ∧ (cm w 0 i = 3 → (¬ μ 8 i = 0 → Wp 148 109 [some (.inr (.inr (0, 90))), some (.inr (.inr (s, 114))), some (.inl (nI i)), none, some (.inl 0)] [] (eW w s μ m (mx i (FM (cm w) se R μ) A) B) (kV k)) ∧ (μ 8 i = 0 → Wp 148 45 [some (.inr (.inr (0, 90))), some (.inr (.inr (s, 114))), some (.inl (nI i)), some (.inl (lx (cm w) se R (μ 0) i - y)), none] [] (eW w s μ m (mx i (FM (cm w) se R μ) A) B) (kV k))))) := by
      rintro y rfl
      refine ⟨fun h1 => J _ (if_neg (fun hh => Int32.not_lt.mpr h1 hh.1)).symm, fun h1 => ⟨fun h2 => K h1 (fun hh => absurd hh h2), fun h2 => ⟨fun h3 => J _ (if_neg (fun hh => h3 (hh.2 h2))).symm, fun h3 => K h1 (fun _ => h3)⟩⟩⟩
    rw [f0]
    refine ⟨fun h4 => fin _ ?_, fun h4 => ?_⟩
    · rw [show i + 1 = R by omega, lx_R]
    · simp (disch := first | decide | omega) only [cl_nI, in_T, le_nI, lt_nI, nI_s1, true_and, and_true, true_implies, false_implies, implies_true, Nat.le_refl, Nat.lt_irrefl, not_false_eq_true, not_true_eq_false, eq_self, i10, i_ten, i_fv, i_fr, cm_eW, cm_s, ge_m, ge_124, ge_125, ge_off, geL, enc_z, ea_0, ea_1, ea_2, ea_3, ea_4, ea_5, ea_6, ea_7, ea_8, ea_9, ea_10, ea_11, se_0, se_1, se_2, se_3, se_4, se_5, se_6, se_7, se_8, se_9, se_10, se_11, ix_0, ix_1, ix_2, ix_3, ix_4, ix_5, ix_6, ix_7, ix_8, ix_9, ix_10, ix_11, se_z, se_124, se_125, se_off, se_hi, enc_hi, ub_same, ub_ne, ub_ub, ub_comm, h4, ha (i + 1) h4]
      refine fin _ ?_
      rw [lx_lt h4]; rfl

theorem m_freezes {w s μ m A B R t k} (hR : gI w (0, 90) 30 = nI R) (h24 : R ≤ 24) (ha : ∀ i, i < R → ¬ cm w 2 i = 0) (h5 : ∀ i, i < R → ¬ 5 + μ 1 i / 10 = 0)
    (h : k (eW w s (frM (cm w) R t μ) m A B)) : Cl 149 [vO 0 90, vO s 114, vI t] (eW w s μ m A B) (kV k) := by
  apply v_X10_freezes_0
  refine cnt (L := fun x => [some (.inr (.inr (0, 90))), some (.inr (.inr (s, 114))), some (.inl t), some (.inl x), none, none]) R (fun i => eW w s (ub (ub μ 1 (mx i (frM1 t μ) (μ 1))) 2 (mx i (frM2 (cm w) t μ) (μ 2))) m A B) rfl (by rw [mx_0, mx_0, ub_self, ub_self]) ?_ ?_
  · apply v_X10_freezes_2
    simp (disch := first | decide | omega) only [cl_nI, in_T, le_nI, lt_nI, nI_s1, true_and, and_true, true_implies, false_implies, implies_true, Nat.le_refl, Nat.lt_irrefl, not_false_eq_true, not_true_eq_false, eq_self, i10, i_ten, i_fv, i_fr, cm_eW, cm_s, ge_m, ge_124, ge_125, ge_off, geL, enc_z, ea_0, ea_1, ea_2, ea_3, ea_4, ea_5, ea_6, ea_7, ea_8, ea_9, ea_10, ea_11, se_0, se_1, se_2, se_3, se_4, se_5, se_6, se_7, se_8, se_9, se_10, se_11, ix_0, ix_1, ix_2, ix_3, ix_4, ix_5, ix_6, ix_7, ix_8, ix_9, ix_10, ix_11, se_z, se_124, se_125, se_off, se_hi, enc_hi, ub_same, ub_ne, ub_ub, ub_comm, hR]
    exact h
  · intro i hi hn
    -- the last piece: row 1 stands as it shall, row 2 holds b
    have T : ∀ b, (¬ frM1 t μ i = 0 → b = frM2 (cm w) t μ i) → Wp 149 133 [some (.inr (.inr (0, 90))), some (.inr (.inr (s, 114))), some (.inl t), some (.inl (nI i)), none, none] [] (eW w s (ub (ub μ 1 (mx (i + 1) (frM1 t μ) (μ 1))) 2 (ub (mx i (frM2 (cm w) t μ) (μ 2)) i b)) m A B) (kV k) := by
      intro b hb
      apply v_X10_freezes_133
      simp (disch := first | decide | omega) only [cl_nI, in_T, le_nI, lt_nI, nI_s1, true_and, and_true, true_implies, false_implies, implies_true, Nat.le_refl, Nat.lt_irrefl, not_false_eq_true, not_true_eq_false, eq_self, i10, i_ten, i_fv, i_fr, cm_eW, cm_s, ge_m, ge_124, ge_125, ge_off, geL, enc_z, ea_0, ea_1, ea_2, ea_3, ea_4, ea_5, ea_6, ea_7, ea_8, ea_9, ea_10, ea_11, se_0, se_1, se_2, se_3, se_4, se_5, se_6, se_7, se_8, se_9, se_10, se_11, ix_0, ix_1, ix_2, ix_3, ix_4, ix_5, ix_6, ix_7, ix_8, ix_9, ix_10, ix_11, se_z, se_124, se_125, se_off, se_hi, enc_hi, ub_same, ub_ne, ub_ub, ub_comm, hi, mx_lt]
      refine ⟨fun h1 => ?_, fun h1 => ?_⟩
      · apply v_X10_freezes_152
        rw [mx_ub (hb h1), nI_s1]; exact hn
      · apply v_X10_freezes_152
        rw [mx_ub (show -2 = frM2 (cm w) t μ i from (if_pos h1).symm), nI_s1]; exact hn
    -- before the melting: row 1 holds a, row 2 b
    have U : ∀ a b, (¬ 0 < t → a = frM1 t μ i) → (¬ frM1 t μ i = 0 → b = frM2 (cm w) t μ i) → Wp 149 104 [some (.inr (.inr (0, 90))), some (.inr (.inr (s, 114))), some (.inl t), some (.inl (nI i)), some (.inl (μ 1 i)), none] [] (eW w s (ub (ub μ 1 (ub (mx i (frM1 t μ) (μ 1)) i a)) 2 (ub (mx i (frM2 (cm w) t μ) (μ 2)) i b)) m A B) (kV k) := by
      intro a b h1 hb
      apply v_X10_freezes_104
      simp (disch := first | decide | omega) only [cl_nI, in_T, le_nI, lt_nI, nI_s1, true_and, and_true, true_implies, false_implies, implies_true, Nat.le_refl, Nat.lt_irrefl, not_false_eq_true, not_true_eq_false, eq_self, i10, i_ten, i_fv, i_fr, cm_eW, cm_s, ge_m, ge_124, ge_125, ge_off, geL, enc_z, ea_0, ea_1, ea_2, ea_3, ea_4, ea_5, ea_6, ea_7, ea_8, ea_9, ea_10, ea_11, se_0, se_1, se_2, se_3, se_4, se_5, se_6, se_7, se_8, se_9, se_10, se_11, ix_0, ix_1, ix_2, ix_3, ix_4, ix_5, ix_6, ix_7, ix_8, ix_9, ix_10, ix_11, se_z, se_124, se_125, se_off, se_hi, enc_hi, ub_same, ub_ne, ub_ub, ub_comm, hi]
      refine ⟨fun h2 => ?_, fun h2 => ⟨fun h3 => ?_, fun h3 => ?_⟩⟩
      · rw [mx_ub (h1 (Int32.not_lt.mpr h2))]; exact T b hb
      · apply v_X10_freezes_132
        simp (disch := first | decide | omega) only [cl_nI, in_T, le_nI, lt_nI, nI_s1, true_and, and_true, true_implies, false_implies, implies_true, Nat.le_refl, Nat.lt_irrefl, not_false_eq_true, not_true_eq_false, eq_self, i10, i_ten, i_fv, i_fr, cm_eW, cm_s, ge_m, ge_124, ge_125, ge_off, geL, enc_z, ea_0, ea_1, ea_2, ea_3, ea_4, ea_5, ea_6, ea_7, ea_8, ea_9, ea_10, ea_11, se_0, se_1, se_2, se_3, se_4, se_5, se_6, se_7, se_8, se_9, se_10, se_11, ix_0, ix_1, ix_2, ix_3, ix_4, ix_5, ix_6, ix_7, ix_8, ix_9, ix_10, ix_11, se_z, se_124, se_125, se_off, se_hi, enc_hi, ub_same, ub_ne, ub_ub, ub_comm, hi]
        rw [mx_ub (show 0 = frM1 t μ i by unfold frM1; rw [if_pos h2, if_neg (Int32.not_lt.mpr h3)])]; exact T b hb
      · apply v_X10_freezes_132
        simp (disch := first | decide | omega) only [cl_nI, in_T, le_nI, lt_nI, nI_s1, true_and, and_true, true_implies, false_implies, implies_true, Nat.le_refl, Nat.lt_irrefl, not_false_eq_true, not_true_eq_false, eq_self, i10, i_ten, i_fv, i_fr, cm_eW, cm_s, ge_m, ge_124, ge_125, ge_off, geL, enc_z, ea_0, ea_1, ea_2, ea_3, ea_4, ea_5, ea_6, ea_7, ea_8, ea_9, ea_10, ea_11, se_0, se_1, se_2, se_3, se_4, se_5, se_6, se_7, se_8, se_9, se_10, se_11, ix_0, ix_1, ix_2, ix_3, ix_4, ix_5, ix_6, ix_7, ix_8, ix_9, ix_10, ix_11, se_z, se_124, se_125, se_off, se_hi, enc_hi, ub_same, ub_ne, ub_ub, ub_comm, hi]
        rw [mx_ub (show μ 1 i - t / 4 = frM1 t μ i by unfold frM1; rw [if_pos h2, if_pos h3])]; exact T b hb
    have e1 : mx i (frM1 t μ) (μ 1) = ub (mx i (frM1 t μ) (μ 1)) i (μ 1 i) := by
      rw [show μ 1 i = mx i (frM1 t μ) (μ 1) i from (mx_at (Nat.le_refl _)).symm, ub_self]
    have e2 : mx i (frM2 (cm w) t μ) (μ 2) = ub (mx i (frM2 (cm w) t μ) (μ 2)) i (μ 2 i) := by
      rw [show μ 2 i = mx i (frM2 (cm w) t μ) (μ 2) i from (mx_at (Nat.le_refl _)).symm, ub_self]
    have N : ¬ (t < 0 ∧ μ 3 i = 0 ∧ μ 4 i = 0) → Wp 149 104 [some (.inr (.inr (0, 90))), some (.inr (.inr (s, 114))), some (.inl t), some (.inl (nI i)), some (.inl (μ 1 i)), none] [] (eW w s (ub (ub μ 1 (mx i (frM1 t μ) (μ 1))) 2 (mx i (frM2 (cm w) t μ) (μ 2))) m A B) (kV k) := by
      intro hc
      rw [e1, e2]
      refine U _ _ (fun h1 => ?_) (fun h1 => ?_)
      · unfold frM1; rw [if_neg h1, if_neg hc]
      · unfold frM2; rw [if_neg h1, if_neg (fun hh => hc hh.1)]
    apply v_X10_freezes_2
    simp (disch := first | decide | omega) only [cl_nI, in_T, le_nI, lt_nI, nI_s1, true_and, and_true, true_implies, false_implies, implies_true, Nat.le_refl, Nat.lt_irrefl, not_false_eq_true, not_true_eq_false, eq_self, i10, i_ten, i_fv, i_fr, cm_eW, cm_s, ge_m, ge_124, ge_125, ge_off, geL, enc_z, ea_0, ea_1, ea_2, ea_3, ea_4, ea_5, ea_6, ea_7, ea_8, ea_9, ea_10, ea_11, se_0, se_1, se_2, se_3, se_4, se_5, se_6, se_7, se_8, se_9, se_10, se_11, ix_0, ix_1, ix_2, ix_3, ix_4, ix_5, ix_6, ix_7, ix_8, ix_9, ix_10, ix_11, se_z, se_124, se_125, se_off, se_hi, enc_hi, ub_same, ub_ne, ub_ub, ub_comm, hR, hi, Nat.not_le.mpr hi, mx_at, h5 i hi]
    refine ⟨fun h1 => N (fun hh => Int32.not_lt.mpr h1 hh.1), fun h1 => ⟨fun h2 => N (fun hh => h2 hh.2.1), fun h2 => ⟨fun h3 => N (fun hh => h3 hh.2.2), fun h3 => ?_⟩⟩⟩
    have hc : t < 0 ∧ μ 3 i = 0 ∧ μ 4 i = 0 := ⟨h1, h2, h3⟩
    have ht : ¬ 0 < t := fun hh => by rw [ti_lt] at hh h1; omega
    have V : ∀ v, v = (if 200 < nwM t μ i then 200 else nwM t μ i) → Wp 149 80 [some (.inr (.inr (0, 90))), some (.inr (.inr (s, 114))), some (.inl t), some (.inl (nI i)), some (.inl (μ 1 i)), some (.inl (nwM t μ i))] [.inl v, .inl (nI (12 * i + 1)), .inr (.inr (s, 114))] (eW w s (ub (ub μ 1 (mx i (frM1 t μ) (μ 1))) 2 (mx i (frM2 (cm w) t μ) (μ 2))) m A B) (kV k) := by
      intro v hv
      have hv' : v = frM1 t μ i := by rw [hv]; unfold frM1; rw [if_neg ht, if_pos hc]
      apply v_X10_freezes_80
      simp (disch := first | decide | omega) only [cl_nI, in_T, le_nI, lt_nI, nI_s1, true_and, and_true, true_implies, false_implies, implies_true, Nat.le_refl, Nat.lt_irrefl, not_false_eq_true, not_true_eq_false, eq_self, i10, i_ten, i_fv, i_fr, cm_eW, cm_s, ge_m, ge_124, ge_125, ge_off, geL, enc_z, ea_0, ea_1, ea_2, ea_3, ea_4, ea_5, ea_6, ea_7, ea_8, ea_9, ea_10, ea_11, se_0, se_1, se_2, se_3, se_4, se_5, se_6, se_7, se_8, se_9, se_10, se_11, ix_0, ix_1, ix_2, ix_3, ix_4, ix_5, ix_6, ix_7, ix_8, ix_9, ix_10, ix_11, se_z, se_124, se_125, se_off, se_hi, enc_hi, ub_same, ub_ne, ub_ub, ub_comm, hi, ha i hi, cm_1, cm_2]
      refine ⟨fun h4 => ?_, fun h4 => ⟨fun h5 => ?_, fun h5 => ?_⟩⟩
      · rw [e2]; refine U _ _ (fun _ => hv') (fun h6 => ?_)
        unfold frM2; rw [if_neg h6, if_neg (fun hh => h4 hh.2.1)]
      · rw [e2]; refine U _ _ (fun _ => hv') (fun h6 => ?_)
        unfold frM2; rw [if_neg h6, if_neg (fun hh => Int32.not_lt.mpr h5 hh.2.2)]
      · refine U _ _ (fun _ => hv') (fun h6 => ?_)
        unfold frM2; rw [if_neg h6, if_pos ⟨hc, h4, h5⟩]; rfl
    refine ⟨fun h4 => V _ (if_neg (Int32.not_lt.mpr h4)).symm, fun h4 => V _ (if_pos h4).symm⟩

theorem m_passesOn {w s μ m A B R k} {i : Nat} {v : Int32} (hR : gI w (0, 90) 30 = nI R) (h24 : R ≤ 24) (hi : i < R)
    (h : k (psM (cm w) R μ i v) (eW w s μ m A B)) : Cl 150 [vO 0 90, vO s 114, vI (nI i), vI v] (eW w s μ m A B) (kI k) := by
  apply v_X10_passesOn_0
  simp (disch := first | decide | omega) only [cl_nI, in_T, le_nI, lt_nI, nI_s1, true_and, and_true, true_implies, false_implies, implies_true, Nat.le_refl, Nat.lt_irrefl, not_false_eq_true, not_true_eq_false, eq_self, i10, i_ten, i_fv, i_fr, cm_eW, cm_s, ge_m, ge_124, ge_125, ge_off, geL, enc_z, ea_0, ea_1, ea_2, ea_3, ea_4, ea_5, ea_6, ea_7, ea_8, ea_9, ea_10, ea_11, se_0, se_1, se_2, se_3, se_4, se_5, se_6, se_7, se_8, se_9, se_10, se_11, ix_0, ix_1, ix_2, ix_3, ix_4, ix_5, ix_6, ix_7, ix_8, ix_9, ix_10, ix_11, se_z, se_124, se_125, se_off, se_hi, enc_hi, ub_same, ub_ne, ub_ub, ub_comm, hR, hi, cm_0]
  have F : ¬ (i + 1 < R ∧ 0 < μ 1 (i + 1)) → ((¬ cm w 0 i = 0 → (¬ cm w 0 i = 1 → (¬ cm w 0 i = 2 → (¬ μ 8 i = 1 → (30 ≤ v → kI k (.inl 30) (eW w s μ m A B)) ∧ (v < 30 → kI k (.inl v) (eW w s μ m A B))) ∧ (μ 8 i = 1 → (0 ≤ v → kI k (.inl 0) (eW w s μ m A B)) ∧ (v < 0 → kI k (.inl v) (eW w s μ m A B)))) ∧ (cm w 0 i = 2 → (20 ≤ v → kI k (.inl 20) (eW w s μ m A B)) ∧ (v < 20 → kI k (.inl v) (eW w s μ m A B)))) ∧ (cm w 0 i = 1 → (40 ≤ v → kI k (.inl 40) (eW w s μ m A B)) ∧ (v < 40 → kI k (.inl v) (eW w s μ m A B)))) ∧ (cm w 0 i = 0 → (200 ≤ v → kI k (.inl 200) (eW w s μ m A B)) ∧ (v < 200 → kI k (.inl v) (eW w s μ m A B)))) := by
    intro hn
    have e : psM (cm w) R μ i v = if v < mpM (cm w) μ i then v else mpM (cm w) μ i := if_neg hn
    have G : ∀ x : Int32, mpM (cm w) μ i = x → (x ≤ v → kI k (.inl x) (eW w s μ m A B)) ∧ (v < x → kI k (.inl v) (eW w s μ m A B)) := by
      intro x hx
      refine ⟨fun h1 => ?_, fun h1 => ?_⟩
      · show k _ _
        rw [show x = psM (cm w) R μ i v by rw [e, hx, if_neg (Int32.not_lt.mpr h1)]]; exact h
      · show k _ _
        rw [e, hx, if_pos h1] at h; exact h
    refine ⟨fun h0 => ⟨fun h1 => ⟨fun h2 => ⟨fun h3 => G _ ?_, fun h3 => G _ ?_⟩, fun h2 => G _ ?_⟩, fun h1 => G _ ?_⟩, fun h0 => G _ ?_⟩
    · unfold mpM; rw [if_neg h0, if_neg h1, if_neg h2, if_neg h3]
    · unfold mpM; rw [if_neg h0, if_neg h1, if_neg h2, if_pos h3]
    · unfold mpM; rw [if_neg h0, if_neg h1, if_pos h2]
    · unfold mpM; rw [if_neg h0, if_pos h1]
    · unfold mpM; rw [if_pos h0]
  refine ⟨fun h4 => F (fun hh => by omega), fun h4 => ?_⟩
  simp (disch := first | decide | omega) only [cl_nI, in_T, le_nI, lt_nI, nI_s1, true_and, and_true, true_implies, false_implies, implies_true, Nat.le_refl, Nat.lt_irrefl, not_false_eq_true, not_true_eq_false, eq_self, i10, i_ten, i_fv, i_fr, cm_eW, cm_s, ge_m, ge_124, ge_125, ge_off, geL, enc_z, ea_0, ea_1, ea_2, ea_3, ea_4, ea_5, ea_6, ea_7, ea_8, ea_9, ea_10, ea_11, se_0, se_1, se_2, se_3, se_4, se_5, se_6, se_7, se_8, se_9, se_10, se_11, ix_0, ix_1, ix_2, ix_3, ix_4, ix_5, ix_6, ix_7, ix_8, ix_9, ix_10, ix_11, se_z, se_124, se_125, se_off, se_hi, enc_hi, ub_same, ub_ne, ub_ub, ub_comm, h4]
  refine ⟨fun h5 => F (fun hh => Int32.not_lt.mpr h5 hh.2), fun h5 => ?_⟩
  show k _ _
  rw [show (0 : Int32) = psM (cm w) R μ i v from (if_pos ⟨h4, h5⟩).symm]; exact h

theorem m_drifts {w s μ m A B R k} (hR : gI w (0, 90) 30 = nI R) (h24 : R ≤ 24)
    (h : ∀ A' B', k (eW w s (drM (cm w) R μ) m A' B')) : Cl 151 [vO 0 90, vO s 114] (eW w s μ m A B) (kV k) := by
  apply v_X10_drifts_0
  refine cnt (L := fun x => [some (.inr (.inr (0, 90))), some (.inr (.inr (s, 114))), some (.inl x), none]) R (fun i => eW w s μ m (mx i (paM (cm w) R μ) A) (mx i (jaM (cm w) R μ) B)) rfl (by rw [mx_0, mx_0]) ?_ ?_
  · apply v_X10_drifts_2
    simp (disch := first | decide | omega) only [cl_nI, in_T, le_nI, lt_nI, nI_s1, true_and, and_true, true_implies, false_implies, implies_true, Nat.le_refl, Nat.lt_irrefl, not_false_eq_true, not_true_eq_false, eq_self, i10, i_ten, i_fv, i_fr, cm_eW, cm_s, ge_m, ge_124, ge_125, ge_off, geL, enc_z, ea_0, ea_1, ea_2, ea_3, ea_4, ea_5, ea_6, ea_7, ea_8, ea_9, ea_10, ea_11, se_0, se_1, se_2, se_3, se_4, se_5, se_6, se_7, se_8, se_9, se_10, se_11, ix_0, ix_1, ix_2, ix_3, ix_4, ix_5, ix_6, ix_7, ix_8, ix_9, ix_10, ix_11, se_z, se_124, se_125, se_off, se_hi, enc_hi, ub_same, ub_ne, ub_ub, ub_comm, hR]
    have hA : ∀ i, i < R → mx R (paM (cm w) R μ) A i = paM (cm w) R μ i := fun i hi => mx_lt hi
    have hB : ∀ i, i < R → mx R (jaM (cm w) R μ) B i = jaM (cm w) R μ i := fun i hi => mx_lt hi
    generalize mx R (paM (cm w) R μ) A = A' at hA
    generalize mx R (jaM (cm w) R μ) B = B' at hB
    refine cnt (L := fun x => [some (.inr (.inr (0, 90))), some (.inr (.inr (s, 114))), some (.inl x), none]) R (fun i => eW w s (ub (ub μ 3 (mx i (dM3 (cm w) R μ) (μ 3))) 4 (mx i (dM4 (cm w) R μ) (μ 4))) m A' B') rfl (by rw [mx_0, mx_0, ub_self, ub_self]) ?_ ?_
    · apply v_X10_drifts_116
      simp (disch := first | decide | omega) only [cl_nI, in_T, le_nI, lt_nI, nI_s1, true_and, and_true, true_implies, false_implies, implies_true, Nat.le_refl, Nat.lt_irrefl, not_false_eq_true, not_true_eq_false, eq_self, i10, i_ten, i_fv, i_fr, cm_eW, cm_s, ge_m, ge_124, ge_125, ge_off, geL, enc_z, ea_0, ea_1, ea_2, ea_3, ea_4, ea_5, ea_6, ea_7, ea_8, ea_9, ea_10, ea_11, se_0, se_1, se_2, se_3, se_4, se_5, se_6, se_7, se_8, se_9, se_10, se_11, ix_0, ix_1, ix_2, ix_3, ix_4, ix_5, ix_6, ix_7, ix_8, ix_9, ix_10, ix_11, se_z, se_124, se_125, se_off, se_hi, enc_hi, ub_same, ub_ne, ub_ub, ub_comm, hR]
      exact h A' B'
    · intro i hi hn
      apply v_X10_drifts_116
      simp (disch := first | decide | omega) only [cl_nI, in_T, le_nI, lt_nI, nI_s1, true_and, and_true, true_implies, false_implies, implies_true, Nat.le_refl, Nat.lt_irrefl, not_false_eq_true, not_true_eq_false, eq_self, i10, i_ten, i_fv, i_fr, cm_eW, cm_s, ge_m, ge_124, ge_125, ge_off, geL, enc_z, ea_0, ea_1, ea_2, ea_3, ea_4, ea_5, ea_6, ea_7, ea_8, ea_9, ea_10, ea_11, se_0, se_1, se_2, se_3, se_4, se_5, se_6, se_7, se_8, se_9, se_10, se_11, ix_0, ix_1, ix_2, ix_3, ix_4, ix_5, ix_6, ix_7, ix_8, ix_9, ix_10, ix_11, se_z, se_124, se_125, se_off, se_hi, enc_hi, ub_same, ub_ne, ub_ub, ub_comm, hR, hi, Nat.not_le.mpr hi, mx_at, i_le0, i_0lt]
      refine ⟨fun h1 => ?_, fun h1 => ?_⟩
      · apply v_X10_drifts_148
        simp (disch := first | decide | omega) only [cl_nI, in_T, le_nI, lt_nI, nI_s1, true_and, and_true, true_implies, false_implies, implies_true, Nat.le_refl, Nat.lt_irrefl, not_false_eq_true, not_true_eq_false, eq_self, i10, i_ten, i_fv, i_fr, cm_eW, cm_s, ge_m, ge_124, ge_125, ge_off, geL, enc_z, ea_0, ea_1, ea_2, ea_3, ea_4, ea_5, ea_6, ea_7, ea_8, ea_9, ea_10, ea_11, se_0, se_1, se_2, se_3, se_4, se_5, se_6, se_7, se_8, se_9, se_10, se_11, ix_0, ix_1, ix_2, ix_3, ix_4, ix_5, ix_6, ix_7, ix_8, ix_9, ix_10, ix_11, se_z, se_124, se_125, se_off, se_hi, enc_hi, ub_same, ub_ne, ub_ub, ub_comm, hi, hA i hi, hB i hi, mx_at]
        rw [mx_ub (show μ 3 i + (0 - paM (cm w) R μ i - jaM (cm w) R μ i) = dM3 (cm w) R μ i by unfold dM3; rw [if_neg (by omega)]), mx_ub (show μ 4 i + jaM (cm w) R μ i = dM4 (cm w) R μ i from rfl)]
        exact hn
      · obtain ⟨j, rfl⟩ : ∃ j, i = j + 1 := ⟨i - 1, by omega⟩
        simp (disch := first | decide | omega) only [cl_nI, in_T, le_nI, lt_nI, nI_s1, true_and, and_true, true_implies, false_implies, implies_true, Nat.le_refl, Nat.lt_irrefl, not_false_eq_true, not_true_eq_false, eq_self, i10, i_ten, i_fv, i_fr, cm_eW, cm_s, ge_m, ge_124, ge_125, ge_off, geL, enc_z, ea_0, ea_1, ea_2, ea_3, ea_4, ea_5, ea_6, ea_7, ea_8, ea_9, ea_10, ea_11, se_0, se_1, se_2, se_3, se_4, se_5, se_6, se_7, se_8, se_9, se_10, se_11, ix_0, ix_1, ix_2, ix_3, ix_4, ix_5, ix_6, ix_7, ix_8, ix_9, ix_10, ix_11, se_z, se_124, se_125, se_off, se_hi, enc_hi, ub_same, ub_ne, ub_ub, ub_comm, nI_m1, hA j (by omega)]
        apply v_X10_drifts_148
        simp (disch := first | decide | omega) only [cl_nI, in_T, le_nI, lt_nI, nI_s1, true_and, and_true, true_implies, false_implies, implies_true, Nat.le_refl, Nat.lt_irrefl, not_false_eq_true, not_true_eq_false, eq_self, i10, i_ten, i_fv, i_fr, cm_eW, cm_s, ge_m, ge_124, ge_125, ge_off, geL, enc_z, ea_0, ea_1, ea_2, ea_3, ea_4, ea_5, ea_6, ea_7, ea_8, ea_9, ea_10, ea_11, se_0, se_1, se_2, se_3, se_4, se_5, se_6, se_7, se_8, se_9, se_10, se_11, ix_0, ix_1, ix_2, ix_3, ix_4, ix_5, ix_6, ix_7, ix_8, ix_9, ix_10, ix_11, se_z, se_124, se_125, se_off, se_hi, enc_hi, ub_same, ub_ne, ub_ub, ub_comm, hi, hA (j + 1) hi, hB (j + 1) hi, mx_at]
        rw [mx_ub (show μ 3 (j + 1) + (paM (cm w) R μ j - paM (cm w) R μ (j + 1) - jaM (cm w) R μ (j + 1)) = dM3 (cm w) R μ (j + 1) by unfold dM3; rw [if_pos (by omega)]; rfl), mx_ub (show μ 4 (j + 1) + jaM (cm w) R μ (j + 1) = dM4 (cm w) R μ (j + 1) from rfl)]
        exact hn
  · intro i hi hn
    have J : ∀ a b, b = mvM (cm w) μ i → a = paM (cm w) R μ i → Wp 151 93 [some (.inr (.inr (0, 90))), some (.inr (.inr (s, 114))), some (.inl (nI i)), some (.inl b)] [.inl a, .inl (nI i), .inr (.inr (0, 124))] (eW w s μ m (mx i (paM (cm w) R μ) A) (mx i (jaM (cm w) R μ) B)) (kV k) := by
      rintro a b rfl rfl
      apply v_X10_drifts_93
      simp (disch := first | decide | omega) only [cl_nI, in_T, le_nI, lt_nI, nI_s1, true_and, and_true, true_implies, false_implies, implies_true, Nat.le_refl, Nat.lt_irrefl, not_false_eq_true, not_true_eq_false, eq_self, i10, i_ten, i_fv, i_fr, cm_eW, cm_s, ge_m, ge_124, ge_125, ge_off, geL, enc_z, ea_0, ea_1, ea_2, ea_3, ea_4, ea_5, ea_6, ea_7, ea_8, ea_9, ea_10, ea_11, se_0, se_1, se_2, se_3, se_4, se_5, se_6, se_7, se_8, se_9, se_10, se_11, ix_0, ix_1, ix_2, ix_3, ix_4, ix_5, ix_6, ix_7, ix_8, ix_9, ix_10, ix_11, se_z, se_124, se_125, se_off, se_hi, enc_hi, ub_same, ub_ne, ub_ub, ub_comm, hi]
      rw [mx_ub (show paM (cm w) R μ i = paM (cm w) R μ i from rfl), mx_ub (show mvM (cm w) μ i - paM (cm w) R μ i = jaM (cm w) R μ i from rfl)]
      exact hn
    have H : ∀ b, b = (if μ 9 i / 5 < μ 3 i then μ 9 i / 5 else μ 3 i) → Wp 151 50 [some (.inr (.inr (0, 90))), some (.inr (.inr (s, 114))), some (.inl (nI i)), none] [.inl b] (eW w s μ m (mx i (paM (cm w) R μ) A) (mx i (jaM (cm w) R μ) B)) (kV k) := by
      intro b hb
      apply v_X10_drifts_50
      simp (disch := first | decide | omega) only [cl_nI, in_T, le_nI, lt_nI, nI_s1, true_and, and_true, true_implies, false_implies, implies_true, Nat.le_refl, Nat.lt_irrefl, not_false_eq_true, not_true_eq_false, eq_self, i10, i_ten, i_fv, i_fr, cm_eW, cm_s, ge_m, ge_124, ge_125, ge_off, geL, enc_z, ea_0, ea_1, ea_2, ea_3, ea_4, ea_5, ea_6, ea_7, ea_8, ea_9, ea_10, ea_11, se_0, se_1, se_2, se_3, se_4, se_5, se_6, se_7, se_8, se_9, se_10, se_11, ix_0, ix_1, ix_2, ix_3, ix_4, ix_5, ix_6, ix_7, ix_8, ix_9, ix_10, ix_11, se_z, se_124, se_125, se_off, se_hi, enc_hi, ub_same, ub_ne, ub_ub, ub_comm, hi, cm_0]
      refine ⟨fun h1 => ?_, fun h1 => ?_⟩
      · have hb' : b = mvM (cm w) μ i := by rw [hb]; exact (if_neg h1).symm
        apply v_X10_drifts_66
        simp (disch := first | decide | omega) only [cl_nI, in_T, le_nI, lt_nI, nI_s1, true_and, and_true, true_implies, false_implies, implies_true, Nat.le_refl, Nat.lt_irrefl, not_false_eq_true, not_true_eq_false, eq_self, i10, i_ten, i_fv, i_fr, cm_eW, cm_s, ge_m, ge_124, ge_125, ge_off, geL, enc_z, ea_0, ea_1, ea_2, ea_3, ea_4, ea_5, ea_6, ea_7, ea_8, ea_9, ea_10, ea_11, se_0, se_1, se_2, se_3, se_4, se_5, se_6, se_7, se_8, se_9, se_10, se_11, ix_0, ix_1, ix_2, ix_3, ix_4, ix_5, ix_6, ix_7, ix_8, ix_9, ix_10, ix_11, se_z, se_124, se_125, se_off, se_hi, enc_hi, ub_same, ub_ne, ub_ub, ub_comm, hi, cm_0]
        refine ⟨fun _ => ?_, fun hh => absurd hh h1⟩
        refine m_passesOn hR h24 hi ?_
        refine J _ _ hb' ?_
        rw [hb']; exact (if_neg h1).symm
      · apply v_X10_drifts_66
        simp (disch := first | decide | omega) only [cl_nI, in_T, le_nI, lt_nI, nI_s1, true_and, and_true, true_implies, false_implies, implies_true, Nat.le_refl, Nat.lt_irrefl, not_false_eq_true, not_true_eq_false, eq_self, i10, i_ten, i_fv, i_fr, cm_eW, cm_s, ge_m, ge_124, ge_125, ge_off, geL, enc_z, ea_0, ea_1, ea_2, ea_3, ea_4, ea_5, ea_6, ea_7, ea_8, ea_9, ea_10, ea_11, se_0, se_1, se_2, se_3, se_4, se_5, se_6, se_7, se_8, se_9, se_10, se_11, ix_0, ix_1, ix_2, ix_3, ix_4, ix_5, ix_6, ix_7, ix_8, ix_9, ix_10, ix_11, se_z, se_124, se_125, se_off, se_hi, enc_hi, ub_same, ub_ne, ub_ub, ub_comm, hi, cm_0]
        refine ⟨fun hh => absurd h1 hh, fun _ => ?_⟩
        exact J _ _ (if_pos h1).symm (if_pos h1).symm
    apply v_X10_drifts_2
    simp (disch := first | decide | omega) only [cl_nI, in_T, le_nI, lt_nI, nI_s1, true_and, and_true, true_implies, false_implies, implies_true, Nat.le_refl, Nat.lt_irrefl, not_false_eq_true, not_true_eq_false, eq_self, i10, i_ten, i_fv, i_fr, cm_eW, cm_s, ge_m, ge_124, ge_125, ge_off, geL, enc_z, ea_0, ea_1, ea_2, ea_3, ea_4, ea_5, ea_6, ea_7, ea_8, ea_9, ea_10, ea_11, se_0, se_1, se_2, se_3, se_4, se_5, se_6, se_7, se_8, se_9, se_10, se_11, ix_0, ix_1, ix_2, ix_3, ix_4, ix_5, ix_6, ix_7, ix_8, ix_9, ix_10, ix_11, se_z, se_124, se_125, se_off, se_hi, enc_hi, ub_same, ub_ne, ub_ub, ub_comm, hR, hi, Nat.not_le.mpr hi]
    refine ⟨fun h1 => H _ (if_neg (Int32.not_lt.mpr h1)).symm, fun h1 => H _ (if_pos h1).symm⟩
