theorem m_letsGo {w s μ m A B R se t k} (hR : gI w (0, 90) 30 = nI R) (h24 : R ≤ 24) (hs : gI w (0, 90) 31 = se) (ha : ∀ i, i < R → ¬ cm w 2 i = 0)
    (h : ∀ B', k (eW w s (lgS (cm w) se R t μ) m A B')) : Cl 152 [vO 0 90, vO s 114, vI t] (eW w s μ m A B) (kV k) := by
  apply v_X10_letsGo_0
  refine cnt (L := fun x => [some (.inr (.inr (0, 90))), some (.inr (.inr (s, 114))), some (.inl t), some (.inl x)]) R (fun i => eW w s μ m A (mx i (lgM (cm w) se R t μ) B)) rfl (by rw [mx_0]) ?_ ?_
  · apply v_X10_letsGo_2
    simp (disch := first | decide | omega) only [cl_nI, in_T, le_nI, lt_nI, nI_s1, true_and, and_true, true_implies, false_implies, implies_true, Nat.le_refl, Nat.lt_irrefl, not_false_eq_true, not_true_eq_false, eq_self, i10, i_ten, i_fv, i_fr, cm_eW, cm_s, ge_m, ge_124, ge_125, ge_off, geL, enc_z, ea_0, ea_1, ea_2, ea_3, ea_4, ea_5, ea_6, ea_7, ea_8, ea_9, ea_10, ea_11, se_0, se_1, se_2, se_3, se_4, se_5, se_6, se_7, se_8, se_9, se_10, se_11, ix_0, ix_1, ix_2, ix_3, ix_4, ix_5, ix_6, ix_7, ix_8, ix_9, ix_10, ix_11, se_z, se_124, se_125, se_off, se_hi, enc_hi, ub_same, ub_ne, ub_ub, ub_comm, hR]
    have hB : ∀ i, i < R → mx R (lgM (cm w) se R t μ) B i = lgM (cm w) se R t μ i := fun i hi => mx_lt hi
    generalize mx R (lgM (cm w) se R t μ) B = B' at hB
    refine cnt (L := fun x => [some (.inr (.inr (0, 90))), some (.inr (.inr (s, 114))), none, some (.inl x)]) R (fun i => eW w s (ub (ub μ 3 (fun j => if j ≤ i ∧ j < R then lM3 (cm w) se R t μ j else μ 3 j)) 4 (mx i (lM4 (cm w) se R t μ) (μ 4))) m A B') rfl ?_ ?_ ?_
    · have e : (fun j => if j ≤ 0 ∧ j < R then lM3 (cm w) se R t μ j else μ 3 j) = μ 3 := by
        funext j
        by_cases h1 : j ≤ 0 ∧ j < R
        · rw [if_pos h1]; unfold lM3; rw [if_neg (by omega)]
        · rw [if_neg h1]
      rw [e, mx_0, ub_self, ub_self]
    · apply v_X10_letsGo_77
      simp (disch := first | decide | omega) only [cl_nI, in_T, le_nI, lt_nI, nI_s1, true_and, and_true, true_implies, false_implies, implies_true, Nat.le_refl, Nat.lt_irrefl, not_false_eq_true, not_true_eq_false, eq_self, i10, i_ten, i_fv, i_fr, cm_eW, cm_s, ge_m, ge_124, ge_125, ge_off, geL, enc_z, ea_0, ea_1, ea_2, ea_3, ea_4, ea_5, ea_6, ea_7, ea_8, ea_9, ea_10, ea_11, se_0, se_1, se_2, se_3, se_4, se_5, se_6, se_7, se_8, se_9, se_10, se_11, ix_0, ix_1, ix_2, ix_3, ix_4, ix_5, ix_6, ix_7, ix_8, ix_9, ix_10, ix_11, se_z, se_124, se_125, se_off, se_hi, enc_hi, ub_same, ub_ne, ub_ub, ub_comm, hR]
      have e : (fun j => if j ≤ R ∧ j < R then lM3 (cm w) se R t μ j else μ 3 j) = mx R (lM3 (cm w) se R t μ) (μ 3) := by
        funext j; unfold mx
        by_cases h1 : j < R
        · rw [if_pos h1, if_pos (by omega)]
        · rw [if_neg h1, if_neg (by omega)]
      rw [e]; exact h B'
    · intro i hi hn
      apply v_X10_letsGo_77
      simp (disch := first | decide | omega) only [cl_nI, in_T, le_nI, lt_nI, nI_s1, true_and, and_true, true_implies, false_implies, implies_true, Nat.le_refl, Nat.lt_irrefl, not_false_eq_true, not_true_eq_false, eq_self, i10, i_ten, i_fv, i_fr, cm_eW, cm_s, ge_m, ge_124, ge_125, ge_off, geL, enc_z, ea_0, ea_1, ea_2, ea_3, ea_4, ea_5, ea_6, ea_7, ea_8, ea_9, ea_10, ea_11, se_0, se_1, se_2, se_3, se_4, se_5, se_6, se_7, se_8, se_9, se_10, se_11, ix_0, ix_1, ix_2, ix_3, ix_4, ix_5, ix_6, ix_7, ix_8, ix_9, ix_10, ix_11, se_z, se_124, se_125, se_off, se_hi, enc_hi, ub_same, ub_ne, ub_ub, ub_comm, hR, hi, Nat.not_le.mpr hi, mx_at, hB i hi]
      have e4 : ub (mx i (lM4 (cm w) se R t μ) (μ 4)) i (μ 4 i - lgM (cm w) se R t μ i) = mx (i + 1) (lM4 (cm w) se R t μ) (μ 4) := mx_ub rfl
      rw [e4]
      refine ⟨fun h4 => ?_, fun h4 => ?_⟩
      · have e : (fun j => if j ≤ i ∧ j < R then lM3 (cm w) se R t μ j else μ 3 j) = (fun j => if j ≤ i + 1 ∧ j < R then lM3 (cm w) se R t μ j else μ 3 j) := by
          funext j
          by_cases h1 : j ≤ i ∧ j < R
          · rw [if_pos h1, if_pos (by omega)]
          · rw [if_neg h1, if_neg (by omega)]
        rw [e]; exact hn
      · simp (disch := first | decide | omega) only [cl_nI, in_T, le_nI, lt_nI, nI_s1, true_and, and_true, true_implies, false_implies, implies_true, Nat.le_refl, Nat.lt_irrefl, not_false_eq_true, not_true_eq_false, eq_self, i10, i_ten, i_fv, i_fr, cm_eW, cm_s, ge_m, ge_124, ge_125, ge_off, geL, enc_z, ea_0, ea_1, ea_2, ea_3, ea_4, ea_5, ea_6, ea_7, ea_8, ea_9, ea_10, ea_11, se_0, se_1, se_2, se_3, se_4, se_5, se_6, se_7, se_8, se_9, se_10, se_11, ix_0, ix_1, ix_2, ix_3, ix_4, ix_5, ix_6, ix_7, ix_8, ix_9, ix_10, ix_11, se_z, se_124, se_125, se_off, se_hi, enc_hi, ub_same, ub_ne, ub_ub, ub_comm, h4]
        rw [if_neg (by omega)]
        have e : ub (fun j => if j ≤ i ∧ j < R then lM3 (cm w) se R t μ j else μ 3 j) (i + 1) (μ 3 (i + 1) + lgM (cm w) se R t μ i) = (fun j => if j ≤ i + 1 ∧ j < R then lM3 (cm w) se R t μ j else μ 3 j) := by
          funext j
          rw [ub_eq]
          by_cases h1 : j = i + 1
          · subst h1
            rw [if_pos rfl, if_pos (by omega)]; unfold lM3; rw [if_pos (by omega)]; rfl
          · rw [if_neg h1]
            by_cases h2 : j ≤ i ∧ j < R
            · rw [if_pos h2, if_pos (by omega)]
            · rw [if_neg h2, if_neg (by omega)]
        rw [e]; exact hn
  · intro i hi hn
    apply v_X10_letsGo_2
    simp (disch := first | decide | omega) only [cl_nI, in_T, le_nI, lt_nI, nI_s1, true_and, and_true, true_implies, false_implies, implies_true, Nat.le_refl, Nat.lt_irrefl, not_false_eq_true, not_true_eq_false, eq_self, i10, i_ten, i_fv, i_fr, cm_eW, cm_s, ge_m, ge_124, ge_125, ge_off, geL, enc_z, ea_0, ea_1, ea_2, ea_3, ea_4, ea_5, ea_6, ea_7, ea_8, ea_9, ea_10, ea_11, se_0, se_1, se_2, se_3, se_4, se_5, se_6, se_7, se_8, se_9, se_10, se_11, ix_0, ix_1, ix_2, ix_3, ix_4, ix_5, ix_6, ix_7, ix_8, ix_9, ix_10, ix_11, se_z, se_124, se_125, se_off, se_hi, enc_hi, ub_same, ub_ne, ub_ub, ub_comm, hR, hi, Nat.not_le.mpr hi, ha i hi, hs, cm_1, cm_2]
    have Z : ¬ (0 < μ 4 i ∧ 30 + 2 * μ 4 i + (if t < 0 then 20 else 0) < fa (cm w) se R (μ 0) i) → Wp 152 2 [some (.inr (.inr (0, 90))), some (.inr (.inr (s, 114))), some (.inl t), some (.inl (nI (i + 1)))] [] (eW w s μ m A (ub (mx i (lgM (cm w) se R t μ) B) i 0)) (kV k) := by
      intro hh
      rw [mx_ub (show 0 = lgM (cm w) se R t μ i from (if_neg hh).symm)]; exact hn
    have Y : (0 < μ 4 i ∧ 30 + 2 * μ 4 i + (if t < 0 then 20 else 0) < fa (cm w) se R (μ 0) i) → Wp 152 2 [some (.inr (.inr (0, 90))), some (.inr (.inr (s, 114))), some (.inl t), some (.inl (nI (i + 1)))] [] (eW w s μ m A (ub (mx i (lgM (cm w) se R t μ) B) i (μ 4 i))) (kV k) := by
      intro hh
      rw [mx_ub (show μ 4 i = lgM (cm w) se R t μ i from (if_pos hh).symm)]; exact hn
    refine ⟨fun h1 => Z (fun hh => Int32.not_lt.mpr h1 hh.1), fun h1 => ?_⟩
    have f0 : cm w 1 i + μ 0 i / cm w 2 i = lx (cm w) se R (μ 0) i := (lx_lt hi).symm
    have t0 : 0 ≤ t → (if t < 0 then (20 : Int32) else 0) = 0 := fun hh => if_neg (Int32.not_lt.mpr hh)
    have t1 : t < 0 → (if t < 0 then (20 : Int32) else 0) = 20 := fun hh => if_pos hh
    rw [f0]
    refine ⟨fun h4 => ?_, fun h4 => ?_⟩
    · have f1 : se = lx (cm w) se R (μ 0) (i + 1) := by rw [show i + 1 = R by omega, lx_R]
      refine ⟨fun h5 => ⟨fun h6 => Z (fun hh => ?_), fun h6 => Y ⟨h1, ?_⟩⟩, fun h5 => ⟨fun h6 => Z (fun hh => ?_), fun h6 => Y ⟨h1, ?_⟩⟩⟩
      · have h7 := hh.2
        rw [t0 h5] at h7; unfold fa at h7; rw [← f1] at h7
        exact Int32.not_lt.mpr h6 h7
      · rw [t0 h5]; unfold fa; rw [← f1]; exact h6
      · have h7 := hh.2
        rw [t1 h5] at h7; unfold fa at h7; rw [← f1] at h7
        exact Int32.not_lt.mpr h6 h7
      · rw [t1 h5]; unfold fa; rw [← f1]; exact h6
    · have f1 : cm w 1 (i + 1) + μ 0 (i + 1) / cm w 2 (i + 1) = lx (cm w) se R (μ 0) (i + 1) := (lx_lt h4).symm
      simp (disch := first | decide | omega) only [cl_nI, in_T, le_nI, lt_nI, nI_s1, true_and, and_true, true_implies, false_implies, implies_true, Nat.le_refl, Nat.lt_irrefl, not_false_eq_true, not_true_eq_false, eq_self, i10, i_ten, i_fv, i_fr, cm_eW, cm_s, ge_m, ge_124, ge_125, ge_off, geL, enc_z, ea_0, ea_1, ea_2, ea_3, ea_4, ea_5, ea_6, ea_7, ea_8, ea_9, ea_10, ea_11, se_0, se_1, se_2, se_3, se_4, se_5, se_6, se_7, se_8, se_9, se_10, se_11, ix_0, ix_1, ix_2, ix_3, ix_4, ix_5, ix_6, ix_7, ix_8, ix_9, ix_10, ix_11, se_z, se_124, se_125, se_off, se_hi, enc_hi, ub_same, ub_ne, ub_ub, ub_comm, h4, ha (i + 1) h4]
      rw [f1]
      refine ⟨fun h5 => ⟨fun h6 => Z (fun hh => ?_), fun h6 => Y ⟨h1, ?_⟩⟩, fun h5 => ⟨fun h6 => Z (fun hh => ?_), fun h6 => Y ⟨h1, ?_⟩⟩⟩
      · have h7 := hh.2
        rw [t0 h5] at h7
        exact Int32.not_lt.mpr h6 h7
      · rw [t0 h5]; exact h6
      · have h7 := hh.2
        rw [t1 h5] at h7
        exact Int32.not_lt.mpr h6 h7
      · rw [t1 h5]; exact h6

def eC (c : Nat → Nat → Int32) (μ : Nat → Nat → Int32) (i : Nat) : Int32 := if μ 11 i = 0 ∨ μ 10 i < lv c (μ 0) i then lv c (μ 0) i else μ 10 i
def eH (c : Nat → Nat → Int32) (h : Nat) (μ : Nat → Nat → Int32) (i : Nat) : Int32 := if μ 11 i = 0 ∨ μ 10 i < lv c (μ 0) i then nI h else μ 11 i
def eS (c : Nat → Nat → Int32) (R h : Nat) (μ : Nat → Nat → Int32) : Nat → Nat → Int32 := ub (ub μ 10 (mx R (eC c μ) (μ 10))) 11 (mx R (eH c h μ) (μ 11))
def eM1 (c : Nat → Nat → Int32) (μ : Nat → Nat → Int32) (i : Nat) (m : Nat → Int32) : Nat → Int32 := if c 7 i + μ 5 i < lv c (μ 0) i then ub m 289 (m 289 + μ 6 i) else m
def eM (c : Nat → Nat → Int32) (h : Nat) (μ : Nat → Nat → Int32) : Nat → (Nat → Int32) → (Nat → Int32)
  | 0, m => m
  | i + 1, m => if 0 ≤ c 9 i ∧ μ 1 i < 30 then ub (ub (eM1 c μ i (eM c h μ i m)) (618 + 397 * i + h) (lv c (μ 0) i)) (10146 + 397 * i + h) (nI h + c 9 i) else eM1 c μ i (eM c h μ i m)
theorem ix_r {i h : Nat} : (618 : Int32) + 397 * nI i + nI h = nI (618 + 397 * i + h) := by
  rw [show (397 : Int32) = nI 397 from rfl, nI_ml, show (618 : Int32) = nI 618 from rfl, nI_ad, nI_ad]
theorem ix_k {i h : Nat} : (10146 : Int32) + 397 * nI i + nI h = nI (10146 + 397 * i + h) := by
  rw [show (397 : Int32) = nI 397 from rfl, nI_ml, show (10146 : Int32) = nI 10146 from rfl, nI_ad, nI_ad]
theorem in_288 : vp_in (288 : Int32) 19675 = True := eq_true (in_nI (j := 288) (by omega) (by omega))
theorem in_289 : vp_in (289 : Int32) 19675 = True := eq_true (in_nI (j := 289) (by omega) (by omega))
theorem in_290 : vp_in (290 : Int32) 19675 = True := eq_true (in_nI (j := 290) (by omega) (by omega))
theorem in_291 : vp_in (291 : Int32) 19675 = True := eq_true (in_nI (j := 291) (by omega) (by omega))
theorem in_292 : vp_in (292 : Int32) 19675 = True := eq_true (in_nI (j := 292) (by omega) (by omega))
theorem in_293 : vp_in (293 : Int32) 19675 = True := eq_true (in_nI (j := 293) (by omega) (by omega))
theorem in_ht : vp_in (19674 : Int32) 19675 = True := eq_true (in_nI (j := 19674) (by omega) (by omega))
theorem m_ends {w s μ m A B R k} {h : Nat} (hR : gI w (0, 90) 30 = nI R) (h24 : R ≤ 24) (hh : h < 397) (ha : ∀ i, i < R → ¬ cm w 2 i = 0)
    (hk : k (eW w s (eS (cm w) R h μ) (eM (cm w) h μ R m) A B)) : Cl 153 [vO 0 90, vO s 114, vI (nI h)] (eW w s μ m A B) (kV k) := by
  apply v_X10_ends_0
  refine cnt (L := fun x => [some (.inr (.inr (0, 90))), some (.inr (.inr (s, 114))), some (.inl (nI h)), some (.inl x), none]) R (fun i => eW w s (ub (ub μ 10 (mx i (eC (cm w) μ) (μ 10))) 11 (mx i (eH (cm w) h μ) (μ 11))) (eM (cm w) h μ i m) A B) rfl (by rw [mx_0, mx_0, ub_self, ub_self]; rfl) ?_ ?_
  · apply v_X10_ends_2
    simp (disch := first | decide | omega) only [cl_nI, in_T, le_nI, lt_nI, nI_s1, true_and, and_true, true_implies, false_implies, implies_true, Nat.le_refl, Nat.lt_irrefl, not_false_eq_true, not_true_eq_false, eq_self, i10, i_ten, i_fv, i_fr, cm_eW, cm_s, ge_m, ge_124, ge_125, ge_off, geL, enc_z, ea_0, ea_1, ea_2, ea_3, ea_4, ea_5, ea_6, ea_7, ea_8, ea_9, ea_10, ea_11, se_0, se_1, se_2, se_3, se_4, se_5, se_6, se_7, se_8, se_9, se_10, se_11, ix_0, ix_1, ix_2, ix_3, ix_4, ix_5, ix_6, ix_7, ix_8, ix_9, ix_10, ix_11, se_z, se_124, se_125, se_off, se_hi, enc_hi, ub_same, ub_ne, ub_ub, ub_comm, hR]
    exact hk
  · intro i hi hn
    have f0 : cm w 1 i + μ 0 i / cm w 2 i = lv (cm w) (μ 0) i := rfl
    have W : Wp 153 96 [some (.inr (.inr (0, 90))), some (.inr (.inr (s, 114))), some (.inl (nI h)), some (.inl (nI i)), some (.inl (lv (cm w) (μ 0) i))] [] (eW w s (ub (ub μ 10 (mx (i + 1) (eC (cm w) μ) (μ 10))) 11 (mx (i + 1) (eH (cm w) h μ) (μ 11))) (eM1 (cm w) μ i (eM (cm w) h μ i m)) A B) (kV k) := by
      apply v_X10_ends_96
      simp (disch := first | decide | omega) only [cl_nI, in_T, le_nI, lt_nI, nI_s1, true_and, and_true, true_implies, false_implies, implies_true, Nat.le_refl, Nat.lt_irrefl, not_false_eq_true, not_true_eq_false, eq_self, i10, i_ten, i_fv, i_fr, cm_eW, cm_s, ge_m, ge_124, ge_125, ge_off, geL, enc_z, ea_0, ea_1, ea_2, ea_3, ea_4, ea_5, ea_6, ea_7, ea_8, ea_9, ea_10, ea_11, se_0, se_1, se_2, se_3, se_4, se_5, se_6, se_7, se_8, se_9, se_10, se_11, ix_0, ix_1, ix_2, ix_3, ix_4, ix_5, ix_6, ix_7, ix_8, ix_9, ix_10, ix_11, se_z, se_124, se_125, se_off, se_hi, enc_hi, ub_same, ub_ne, ub_ub, ub_comm, hi, ix_r, ix_k, cm_9]
      refine ⟨fun h1 => ?_, fun h1 => ⟨fun h2 => ?_, fun h2 => ?_⟩⟩
      · apply v_X10_ends_156
        rw [show eM (cm w) h μ (i + 1) m = eM1 (cm w) μ i (eM (cm w) h μ i m) from if_neg (fun x => Int32.not_lt.mpr x.1 h1)] at hn
        rw [nI_s1]; exact hn
      · apply v_X10_ends_156
        rw [show eM (cm w) h μ (i + 1) m = ub (ub (eM1 (cm w) μ i (eM (cm w) h μ i m)) (618 + 397 * i + h) (lv (cm w) (μ 0) i)) (10146 + 397 * i + h) (nI h + cm w 9 i) from if_pos ⟨h1, h2⟩] at hn
        rw [nI_s1]; exact hn
      · apply v_X10_ends_156
        rw [show eM (cm w) h μ (i + 1) m = eM1 (cm w) μ i (eM (cm w) h μ i m) from if_neg (fun x => Int32.not_lt.mpr h2 x.2)] at hn
        rw [nI_s1]; exact hn
    have V : Wp 153 53 [some (.inr (.inr (0, 90))), some (.inr (.inr (s, 114))), some (.inl (nI h)), some (.inl (nI i)), some (.inl (lv (cm w) (μ 0) i))] [] (eW w s (ub (ub μ 10 (mx i (eC (cm w) μ) (μ 10))) 11 (mx i (eH (cm w) h μ) (μ 11))) (eM1 (cm w) μ i (eM (cm w) h μ i m)) A B) (kV k) := by
      have Y : (μ 11 i = 0 ∨ μ 10 i < lv (cm w) (μ 0) i) → Wp 153 77 [some (.inr (.inr (0, 90))), some (.inr (.inr (s, 114))), some (.inl (nI h)), some (.inl (nI i)), some (.inl (lv (cm w) (μ 0) i))] [] (eW w s (ub (ub μ 10 (mx i (eC (cm w) μ) (μ 10))) 11 (mx i (eH (cm w) h μ) (μ 11))) (eM1 (cm w) μ i (eM (cm w) h μ i m)) A B) (kV k) := by
        intro hc
        apply v_X10_ends_77
        simp (disch := first | decide | omega) only [cl_nI, in_T, le_nI, lt_nI, nI_s1, true_and, and_true, true_implies, false_implies, implies_true, Nat.le_refl, Nat.lt_irrefl, not_false_eq_true, not_true_eq_false, eq_self, i10, i_ten, i_fv, i_fr, cm_eW, cm_s, ge_m, ge_124, ge_125, ge_off, geL, enc_z, ea_0, ea_1, ea_2, ea_3, ea_4, ea_5, ea_6, ea_7, ea_8, ea_9, ea_10, ea_11, se_0, se_1, se_2, se_3, se_4, se_5, se_6, se_7, se_8, se_9, se_10, se_11, ix_0, ix_1, ix_2, ix_3, ix_4, ix_5, ix_6, ix_7, ix_8, ix_9, ix_10, ix_11, se_z, se_124, se_125, se_off, se_hi, enc_hi, ub_same, ub_ne, ub_ub, ub_comm, hi]
        rw [mx_ub (show lv (cm w) (μ 0) i = eC (cm w) μ i from (if_pos hc).symm), mx_ub (show nI h = eH (cm w) h μ i from (if_pos hc).symm)]
        exact W
      apply v_X10_ends_53
      simp (disch := first | decide | omega) only [cl_nI, in_T, le_nI, lt_nI, nI_s1, true_and, and_true, true_implies, false_implies, implies_true, Nat.le_refl, Nat.lt_irrefl, not_false_eq_true, not_true_eq_false, eq_self, i10, i_ten, i_fv, i_fr, cm_eW, cm_s, ge_m, ge_124, ge_125, ge_off, geL, enc_z, ea_0, ea_1, ea_2, ea_3, ea_4, ea_5, ea_6, ea_7, ea_8, ea_9, ea_10, ea_11, se_0, se_1, se_2, se_3, se_4, se_5, se_6, se_7, se_8, se_9, se_10, se_11, ix_0, ix_1, ix_2, ix_3, ix_4, ix_5, ix_6, ix_7, ix_8, ix_9, ix_10, ix_11, se_z, se_124, se_125, se_off, se_hi, enc_hi, ub_same, ub_ne, ub_ub, ub_comm, hi, mx_at]
      refine ⟨fun h1 => Y (Or.inl h1), fun h1 => ⟨fun h2 => ?_, fun h2 => Y (Or.inr h2)⟩⟩
      have hc : ¬ (μ 11 i = 0 ∨ μ 10 i < lv (cm w) (μ 0) i) := not_or.mpr ⟨h1, Int32.not_lt.mpr h2⟩
      rw [mx_no (show μ 10 i = eC (cm w) μ i from (if_neg hc).symm), mx_no (show μ 11 i = eH (cm w) h μ i from (if_neg hc).symm)]
      exact W
    apply v_X10_ends_2
    simp (disch := first | decide | omega) only [cl_nI, in_T, le_nI, lt_nI, nI_s1, true_and, and_true, true_implies, false_implies, implies_true, Nat.le_refl, Nat.lt_irrefl, not_false_eq_true, not_true_eq_false, eq_self, i10, i_ten, i_fv, i_fr, cm_eW, cm_s, ge_m, ge_124, ge_125, ge_off, geL, enc_z, ea_0, ea_1, ea_2, ea_3, ea_4, ea_5, ea_6, ea_7, ea_8, ea_9, ea_10, ea_11, se_0, se_1, se_2, se_3, se_4, se_5, se_6, se_7, se_8, se_9, se_10, se_11, ix_0, ix_1, ix_2, ix_3, ix_4, ix_5, ix_6, ix_7, ix_8, ix_9, ix_10, ix_11, se_z, se_124, se_125, se_off, se_hi, enc_hi, ub_same, ub_ne, ub_ub, ub_comm, hR, hi, Nat.not_le.mpr hi, ha i hi, cm_1, cm_2, cm_7, in_289]
    rw [f0]
    refine ⟨fun h1 => ?_, fun h1 => ?_⟩
    · rw [show eM1 (cm w) μ i (eM (cm w) h μ i m) = eM (cm w) h μ i m from if_neg (Int32.not_lt.mpr h1)] at V
      exact V
    · rw [show eM1 (cm w) μ i (eM (cm w) h μ i m) = ub (eM (cm w) h μ i m) 289 (eM (cm w) h μ i m 289 + μ 6 i) from if_pos h1] at V
      exact V

theorem eM_ht {c h μ m} : ∀ i, i ≤ 24 → h < 397 → eM c h μ i m 19674 = m 19674 := by
  intro i
  induction i with
  | zero => intro _ _; rfl
  | succ i ih =>
    intro hi hh
    have e1 : eM1 c μ i (eM c h μ i m) 19674 = m 19674 := by
      unfold eM1
      by_cases h1 : c 7 i + μ 5 i < lv c (μ 0) i
      · rw [if_pos h1, ub_ne rfl, ih (by omega) hh]
      · rw [if_neg h1, ih (by omega) hh]
    show (if 0 ≤ c 9 i ∧ μ 1 i < 30 then ub (ub (eM1 c μ i (eM c h μ i m)) (618 + 397 * i + h) (lv c (μ 0) i)) (10146 + 397 * i + h) (nI h + c 9 i) else eM1 c μ i (eM c h μ i m)) 19674 = _
    by_cases h2 : 0 ≤ c 9 i ∧ μ 1 i < 30
    · rw [if_pos h2, ub_ne (beq_f (by omega)), ub_ne (beq_f (by omega)), e1]
    · rw [if_neg h2, e1]

/-- the model's HOUR from where sheets break -/
def tlM (c : Nat → Nat → Int32) (se : Int32) (R h : Nat) (t : Int32) (μ : Nat → Nat → Int32) : Nat → Nat → Int32 := lgS c se R t (drM c R (brM c R μ))
theorem m_tail {w s μ m A B R se t k} {h : Nat} (hR : gI w (0, 90) 30 = nI R) (h24 : R ≤ 24) (hh : h < 397) (hs : gI w (0, 90) 31 = se) (ha : ∀ i, i < R → ¬ cm w 2 i = 0) (ht : m 19674 = t)
    (hk : ∀ A' B', k (eW w s (eS (cm w) R h (tlM (cm w) se R h t μ)) (eM (cm w) h (tlM (cm w) se R h t μ) R m) A' B')) :
    Wp 147 276 [some (.inr (.inr (0, 90))), some (.inr (.inr (s, 114))), none, none, none, none, some (.inl (nI h)), none, some (.inl 0)] [] (eW w s μ m A B) (kV k) := by
  refine cnt (L := fun x => [some (.inr (.inr (0, 90))), some (.inr (.inr (s, 114))), none, none, none, none, some (.inl (nI h)), none, some (.inl x)]) R (fun i => eW w s (ub (ub (ub μ 1 (mx i (bM1 (cm w) μ) (μ 1))) 2 (mx i (bM2 (cm w) μ) (μ 2))) 3 (mx i (bM3 (cm w) μ) (μ 3))) m A B) rfl (by rw [mx_0, mx_0, mx_0, ub_self, ub_self, ub_self]) ?_ ?_
  · apply v_X10_goes_276
    simp (disch := first | decide | omega) only [cl_nI, in_T, le_nI, lt_nI, nI_s1, true_and, and_true, true_implies, false_implies, implies_true, Nat.le_refl, Nat.lt_irrefl, not_false_eq_true, not_true_eq_false, eq_self, i10, i_ten, i_fv, i_fr, cm_eW, cm_s, ge_m, ge_124, ge_125, ge_off, geL, enc_z, ea_0, ea_1, ea_2, ea_3, ea_4, ea_5, ea_6, ea_7, ea_8, ea_9, ea_10, ea_11, se_0, se_1, se_2, se_3, se_4, se_5, se_6, se_7, se_8, se_9, se_10, se_11, ix_0, ix_1, ix_2, ix_3, ix_4, ix_5, ix_6, ix_7, ix_8, ix_9, ix_10, ix_11, se_z, se_124, se_125, se_off, se_hi, enc_hi, ub_same, ub_ne, ub_ub, ub_comm, hR, in_ht]
    refine m_drifts hR h24 (fun A' B' => ?_)
    simp (disch := first | decide | omega) only [cl_nI, in_T, le_nI, lt_nI, nI_s1, true_and, and_true, true_implies, false_implies, implies_true, Nat.le_refl, Nat.lt_irrefl, not_false_eq_true, not_true_eq_false, eq_self, i10, i_ten, i_fv, i_fr, cm_eW, cm_s, ge_m, ge_124, ge_125, ge_off, geL, enc_z, ea_0, ea_1, ea_2, ea_3, ea_4, ea_5, ea_6, ea_7, ea_8, ea_9, ea_10, ea_11, se_0, se_1, se_2, se_3, se_4, se_5, se_6, se_7, se_8, se_9, se_10, se_11, ix_0, ix_1, ix_2, ix_3, ix_4, ix_5, ix_6, ix_7, ix_8, ix_9, ix_10, ix_11, se_z, se_124, se_125, se_off, se_hi, enc_hi, ub_same, ub_ne, ub_ub, ub_comm, ht]
    refine m_letsGo hR h24 hs ha (fun B'' => ?_)
    refine m_ends hR h24 hh ha ?_
    exact hk A' B''
  · intro i hi hn
    apply v_X10_goes_276
    simp (disch := first | decide | omega) only [cl_nI, in_T, le_nI, lt_nI, nI_s1, true_and, and_true, true_implies, false_implies, implies_true, Nat.le_refl, Nat.lt_irrefl, not_false_eq_true, not_true_eq_false, eq_self, i10, i_ten, i_fv, i_fr, cm_eW, cm_s, ge_m, ge_124, ge_125, ge_off, geL, enc_z, ea_0, ea_1, ea_2, ea_3, ea_4, ea_5, ea_6, ea_7, ea_8, ea_9, ea_10, ea_11, se_0, se_1, se_2, se_3, se_4, se_5, se_6, se_7, se_8, se_9, se_10, se_11, ix_0, ix_1, ix_2, ix_3, ix_4, ix_5, ix_6, ix_7, ix_8, ix_9, ix_10, ix_11, se_z, se_124, se_125, se_off, se_hi, enc_hi, ub_same, ub_ne, ub_ub, ub_comm, hR, hi, Nat.not_le.mpr hi, ha i hi, cm_0, cm_1, cm_2, mx_at]
    have Z : ¬ (¬ cm w 0 i = 4 ∧ 0 < μ 1 i ∧ μ 2 i + 10 + μ 1 i ≤ lv (cm w) (μ 0) i) → Wp 147 343 [some (.inr (.inr (0, 90))), some (.inr (.inr (s, 114))), none, none, none, none, some (.inl (nI h)), none, some (.inl (nI i))] [] (eW w s (ub (ub (ub μ 1 (mx i (bM1 (cm w) μ) (μ 1))) 2 (mx i (bM2 (cm w) μ) (μ 2))) 3 (mx i (bM3 (cm w) μ) (μ 3))) m A B) (kV k) := by
      intro hc
      have e : bkM (cm w) μ i = false := decide_eq_false hc
      apply v_X10_goes_343
      rw [mx_no (show μ 1 i = bM1 (cm w) μ i by unfold bM1; rw [e]; rfl), mx_no (show μ 2 i = bM2 (cm w) μ i by unfold bM2; rw [e]; rfl), mx_no (show μ 3 i = bM3 (cm w) μ i by unfold bM3; rw [e]; rfl), nI_s1]
      exact hn
    refine ⟨fun h1 => Z (fun x => x.1 h1), fun h1 => ⟨fun h2 => Z (fun x => Int32.not_lt.mpr h2 x.2.1), fun h2 => ⟨fun h3 => Z (fun x => Int32.not_le.mpr h3 x.2.2), fun h3 => ?_⟩⟩⟩
    have e : bkM (cm w) μ i = true := decide_eq_true ⟨h1, h2, h3⟩
    apply v_X10_goes_343
    rw [mx_ub (show 0 = bM1 (cm w) μ i by unfold bM1; rw [e]; rfl), mx_ub (show -2 = bM2 (cm w) μ i by unfold bM2; rw [e]; rfl), mx_ub (show μ 3 i + μ 1 i = bM3 (cm w) μ i by unfold bM3; rw [e]; rfl), nI_s1]
    exact hn
