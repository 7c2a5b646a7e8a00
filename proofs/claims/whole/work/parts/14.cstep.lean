/-! what the steps of an HOUR do, as functions -/
def cf (w : PW) (f : Nat) : Nat → Int32 := gI w (0, 2 + f)
def lv (c : Nat → Nat → Int32) (wa : Nat → Int32) (i : Nat) : Int32 := c 1 i + wa i / c 2 i
def lx (c : Nat → Nat → Int32) (se : Int32) (R : Nat) (wa : Nat → Int32) (i : Nat) : Int32 := if i < R then lv c wa i else se
def brk (σ : Nat → Nat → Int32) (i : Nat) : Int32 := 10 + σ 4 i + (if 0 < σ 1 i then 20 else 0)
def FL (c : Nat → Nat → Int32) (se : Int32) (R : Nat) (σ : Nat → Nat → Int32) (i : Nat) : Int32 :=
  if lx c se R (σ 0) i - lx c se R (σ 0) (i + 1) ≤ 0 ∨ σ 9 i = 1 then 0 else jmin (σ 0 i) ((lx c se R (σ 0) i - lx c se R (σ 0) (i + 1)) * c 3 i / brk σ i)
def flW (c : Nat → Nat → Int32) (se : Int32) (R : Nat) (σ : Nat → Nat → Int32) (i : Nat) : Int32 := (if 0 < i then σ 0 i + FL c se R σ (i - 1) else σ 0 i) - FL c se R σ i
def flowS (c : Nat → Nat → Int32) (se : Int32) (R : Nat) (σ : Nat → Nat → Int32) : Nat → Nat → Int32 :=
  ub (ub σ 0 (mx R (flW c se R σ) (σ 0))) 5 (mx R (FL c se R σ) (σ 5))
def lvL (c : Nat → Nat → Int32) (se : Int32) (R : Nat) (wa L : Nat → Int32) (j : Nat) : Int32 := if j ≤ R then lx c se R wa j else L j
def frA (t : Int32) (σ : Nat → Nat → Int32) (i : Nat) : Int32 := if σ 3 i = 0 ∧ σ 4 i = 0 then jmin 200 (σ 1 i + t / (5 + σ 1 i / 10)) else σ 1 i
def frB (c : Nat → Nat → Int32) (σ : Nat → Nat → Int32) (i : Nat) : Int32 := if σ 1 i = 0 then lv c (σ 0) i else σ 2 i
def frS (c : Nat → Nat → Int32) (R : Nat) (t : Int32) (σ : Nat → Nat → Int32) : Nat → Nat → Int32 :=
  ub (ub σ 1 (mx R (frA t σ) (σ 1))) 2 (mx R (frB c σ) (σ 2))
def meA (t : Int32) (σ : Nat → Nat → Int32) (i : Nat) : Int32 := jmax 0 (σ 1 i - t)
def meS (R : Nat) (t : Int32) (σ : Nat → Nat → Int32) : Nat → Nat → Int32 := ub σ 1 (mx R (meA t σ) (σ 1))
def brA (c : Nat → Nat → Int32) (σ : Nat → Nat → Int32) (i : Nat) : Int32 := if 0 < σ 1 i ∧ ¬ c 0 i = 4 ∧ σ 2 i + 10 + σ 1 i ≤ lv c (σ 0) i then 0 else σ 1 i
def brB (c : Nat → Nat → Int32) (σ : Nat → Nat → Int32) (i : Nat) : Int32 := if 0 < σ 1 i ∧ ¬ c 0 i = 4 ∧ σ 2 i + 10 + σ 1 i ≤ lv c (σ 0) i then σ 3 i + σ 1 i else σ 3 i
def brS (c : Nat → Nat → Int32) (R : Nat) (σ : Nat → Nat → Int32) : Nat → Nat → Int32 :=
  ub (ub σ 1 (mx R (brA c σ) (σ 1))) 3 (mx R (brB c σ) (σ 3))
def mov (c : Nat → Nat → Int32) (σ : Nat → Nat → Int32) (i : Nat) : Int32 := if c 0 i = 4 then 0 else jmin (σ 3 i) (σ 5 i / 5)
def mpa (c : Nat → Nat → Int32) (R : Nat) (σ : Nat → Nat → Int32) (i : Nat) : Int32 := if (i + 1 < R ∧ 0 < σ 1 (i + 1)) ∨ σ 9 i = 1 then 0 else mfl (c 0 i).toNatClampNeg
def pas (c : Nat → Nat → Int32) (R : Nat) (σ : Nat → Nat → Int32) (i : Nat) : Int32 := if c 0 i = 4 then 0 else jmin (mov c σ i) (mpa c R σ i)
def drF (c : Nat → Nat → Int32) (R : Nat) (σ : Nat → Nat → Int32) (i : Nat) : Int32 := (if 0 < i then σ 3 i - mov c σ i + pas c R σ (i - 1) else σ 3 i - mov c σ i)
def drJ (c : Nat → Nat → Int32) (R : Nat) (σ : Nat → Nat → Int32) (i : Nat) : Int32 := σ 4 i + (mov c σ i - pas c R σ i)
def drS (c : Nat → Nat → Int32) (R : Nat) (σ : Nat → Nat → Int32) : Nat → Nat → Int32 := ub (ub σ 3 (mx R (drF c R σ) (σ 3))) 4 (mx R (drJ c R σ) (σ 4))
def goJ (c : Nat → Nat → Int32) (se : Int32) (R : Nat) (t : Int32) (σ : Nat → Nat → Int32) (i : Nat) : Bool := decide (0 < σ 4 i ∧ t + 2 * σ 4 i < lx c se R (σ 0) i - lx c se R (σ 0) (i + 1))
def jgF (c : Nat → Nat → Int32) (se : Int32) (R : Nat) (t : Int32) (σ : Nat → Nat → Int32) (i : Nat) : Int32 := if 0 < i ∧ goJ c se R t σ (i - 1) = true then σ 3 i + σ 4 (i - 1) else σ 3 i
def jgJ (c : Nat → Nat → Int32) (se : Int32) (R : Nat) (t : Int32) (σ : Nat → Nat → Int32) (i : Nat) : Int32 := if goJ c se R t σ i = true then 0 else σ 4 i
def jgS (c : Nat → Nat → Int32) (se : Int32) (R : Nat) (t : Int32) (σ : Nat → Nat → Int32) : Nat → Nat → Int32 := ub (ub σ 3 (mx R (jgF c se R t σ) (σ 3))) 4 (mx R (jgJ c se R t σ) (σ 4))
def hmS (c : Nat → Nat → Int32) (σ : Nat → Nat → Int32) : Nat → Int32 → Int32
  | 0, x => x
  | i + 1, x => if c 7 i + σ 6 i < lv c (σ 0) i then hmS c σ i x + σ 7 i else hmS c σ i x
def crA (c : Nat → Nat → Int32) (σ : Nat → Nat → Int32) (i : Nat) : Int32 := if σ 10 i < lv c (σ 0) i then lv c (σ 0) i else σ 10 i
def crB (c : Nat → Nat → Int32) (h : Int32) (σ : Nat → Nat → Int32) (i : Nat) : Int32 := if σ 10 i < lv c (σ 0) i then h else σ 11 i
def crS (c : Nat → Nat → Int32) (R : Nat) (h : Int32) (σ : Nat → Nat → Int32) : Nat → Nat → Int32 :=
  ub (ub σ 10 (mx R (crA c σ) (σ 10))) 11 (mx R (crB c h σ) (σ 11))
theorem cf_0 {w} : gI w (0, 2) = cf w 0 := rfl
theorem cf_1 {w} : gI w (0, 3) = cf w 1 := rfl
theorem cf_2 {w} : gI w (0, 4) = cf w 2 := rfl
theorem cf_3 {w} : gI w (0, 5) = cf w 3 := rfl
theorem cf_4 {w} : gI w (0, 6) = cf w 4 := rfl
theorem cf_5 {w} : gI w (0, 7) = cf w 5 := rfl
theorem cf_6 {w} : gI w (0, 8) = cf w 6 := rfl
theorem cf_7 {w} : gI w (0, 9) = cf w 7 := rfl
theorem cf_8 {w} : gI w (0, 10) = cf w 8 := rfl
theorem cf_9 {w} : gI w (0, 11) = cf w 9 := rfl
theorem cf_10 {w} : gI w (0, 12) = cf w 10 := rfl
theorem cf_kW {w g σ L} {f : Nat} (h : Nat.ble f 10 = true) : cf (kW w g σ L) f = cf w f := by
  have := Nat.le_of_ble_eq_true h
  unfold cf
  refine gk_off ?_
  unfold kOff
  rw [beq_f (by omega)]
  have h2 : Nat.ble 41 (2 + f) = false := by
    cases hb : Nat.ble 41 (2 + f) with
    | false => rfl
    | true => have := Nat.le_of_ble_eq_true hb; omega
  rw [h2]; rfl
theorem cf_s {w} {g j k : Nat} {v : Int32} {f : Nat} (h : (Nat.ble f 10 && Nat.ble 13 j) = true) : cf (sI w (g, j) k v) f = cf w f := by
  simp only [Bool.and_eq_true] at h
  have h1 := Nat.le_of_ble_eq_true h.1
  have h2 := Nat.le_of_ble_eq_true h.2
  unfold cf
  exact gI_so (beq_f (by omega))
theorem lx_lt {c se R wa i} (h : i < R) : lx c se R wa i = lv c wa i := if_pos h
theorem lx_R {c se R wa} : lx c se R wa R = se := if_neg (Nat.lt_irrefl _)

theorem c_takeLevels {w g σ L R se k} (hR : gI w (0, 1) 0 = nI R) (h24 : R ≤ 24) (hs : gI w (0, 1) 1 = se) (ha : ∀ i, i < R → ¬ cf w 2 i = 0)
    (h : k (kW w g σ (lvL (cf w) se R (σ 0) L))) : Cl 36 [vO 0 29, vO g 40] (kW w g σ L) (kV k) := by
  apply v_X6_takeLevels_0
  refine cnt (L := fun x => [some (.inr (.inr (0, 29))), some (.inr (.inr (g, 40))), some (.inl x)]) R (fun i => kW w g σ (mx i (lv (cf w) (σ 0)) L)) rfl (by rw [mx_0]) ?_ ?_
  · apply v_X6_takeLevels_2
    simp (disch := first | decide | omega) only [cl_nI, in_T, le_nI, lt_nI, nI_s1, true_and, and_true, true_implies, false_implies, implies_true, Nat.le_refl, Nat.lt_irrefl, not_false_eq_true, not_true_eq_false, eq_self, i10, i_ten, i_fv, i_fr, cf_kW, cf_s, gk_0, gk_1, gk_2, gk_3, gk_4, gk_5, gk_6, gk_7, gk_8, gk_9, gk_10, gk_11, gk_30, gk_off, gkL, sk_0, sk_1, sk_2, sk_3, sk_4, sk_5, sk_6, sk_7, sk_8, sk_9, sk_10, sk_11, sk_30, sk_off, ub_same, ub_ne, ub_ub, ub_comm, hR, hs]
    show k _
    have e : ub (mx R (lv (cf w) (σ 0)) L) R se = lvL (cf w) se R (σ 0) L := by
      funext j
      unfold lvL lx mx
      rw [ub_eq]
      by_cases h1 : j = R
      · subst h1; rw [if_pos rfl, if_pos (Nat.le_refl _), if_neg (Nat.lt_irrefl _)]
      · rw [if_neg h1]
        by_cases h2 : j < R
        · rw [if_pos h2, if_pos (by omega), if_pos h2]
        · rw [if_neg h2, if_neg (by omega)]
    rw [e]; exact h
  · intro i hi hn
    apply v_X6_takeLevels_2
    simp (disch := first | decide | omega) only [cl_nI, in_T, le_nI, lt_nI, nI_s1, true_and, and_true, true_implies, false_implies, implies_true, Nat.le_refl, Nat.lt_irrefl, not_false_eq_true, not_true_eq_false, eq_self, i10, i_ten, i_fv, i_fr, cf_kW, cf_s, gk_0, gk_1, gk_2, gk_3, gk_4, gk_5, gk_6, gk_7, gk_8, gk_9, gk_10, gk_11, gk_30, gk_off, gkL, sk_0, sk_1, sk_2, sk_3, sk_4, sk_5, sk_6, sk_7, sk_8, sk_9, sk_10, sk_11, sk_30, sk_off, ub_same, ub_ne, ub_ub, ub_comm, hR, hi, Nat.not_le.mpr hi, cf_2, cf_1, ha i hi, mx_at]
    rw [mx_ub (show cf w 1 i + σ 0 i / cf w 2 i = lv (cf w) (σ 0) i from rfl)]
    exact hn

theorem c_flowOf {w g σ L R se k} {i : Nat} (hi : i < R) (h24 : R ≤ 24) (hb : ¬ brk σ i = 0) (hL : ∀ j, j ≤ R → L j = lx (cf w) se R (σ 0) j)
    (h : k (FL (cf w) se R σ i) (kW w g σ L)) : Cl 38 [vO 0 29, vO g 40, vI (nI i)] (kW w g σ L) (kI k) := by
  apply v_X6_flowOf_0
  simp (disch := first | decide | omega) only [cl_nI, in_T, le_nI, lt_nI, nI_s1, true_and, and_true, true_implies, false_implies, implies_true, Nat.le_refl, Nat.lt_irrefl, not_false_eq_true, not_true_eq_false, eq_self, i10, i_ten, i_fv, i_fr, cf_kW, cf_s, gk_0, gk_1, gk_2, gk_3, gk_4, gk_5, gk_6, gk_7, gk_8, gk_9, gk_10, gk_11, gk_30, gk_off, gkL, sk_0, sk_1, sk_2, sk_3, sk_4, sk_5, sk_6, sk_7, sk_8, sk_9, sk_10, sk_11, sk_30, sk_off, ub_same, ub_ne, ub_ub, ub_comm, hi, cf_3, cf_1, hL i (by omega), hL (i + 1) (by omega)]
  refine ⟨fun h1 => ?_, fun h1 => ⟨fun h2 => ⟨fun h3 => ?_, fun h3 => ?_⟩, fun h2 => ?_⟩⟩
  · show k _ _
    rw [show (0 : Int32) = FL (cf w) se R σ i from (if_pos (Or.inl h1)).symm]; exact h
  · have e : brk σ i = 10 + σ 4 i + 0 := by unfold brk; rw [if_neg (Int32.not_lt.mpr h3)]
    rw [← e]
    refine ⟨hb, ?_⟩
    show k _ _
    rw [show jmin (σ 0 i) ((lx (cf w) se R (σ 0) i - lx (cf w) se R (σ 0) (i + 1)) * cf w 3 i / brk σ i) = FL (cf w) se R σ i from (if_neg (not_or.mpr ⟨Int32.not_le.mpr h1, h2⟩)).symm]; exact h
  · have e : brk σ i = 10 + σ 4 i + 20 := by unfold brk; rw [if_pos h3]
    rw [← e]
    refine ⟨hb, ?_⟩
    show k _ _
    rw [show jmin (σ 0 i) ((lx (cf w) se R (σ 0) i - lx (cf w) se R (σ 0) (i + 1)) * cf w 3 i / brk σ i) = FL (cf w) se R σ i from (if_neg (not_or.mpr ⟨Int32.not_le.mpr h1, h2⟩)).symm]; exact h
  · show k _ _
    rw [show (0 : Int32) = FL (cf w) se R σ i from (if_pos (Or.inr h2)).symm]; exact h

def flR (c : Nat → Nat → Int32) (se : Int32) (R : Nat) (σ : Nat → Nat → Int32) (i j : Nat) : Int32 := if j < i then flW c se R σ j else if j = i ∧ 0 < i ∧ i < R then σ 0 j + FL c se R σ (j - 1) else σ 0 j
theorem c_letFlow {w g σ L R se k} (hR : gI w (0, 1) 0 = nI R) (h24 : R ≤ 24) (hs : gI w (0, 1) 1 = se) (ha : ∀ i, i < R → ¬ cf w 2 i = 0) (hb : ∀ i, i < R → ¬ brk σ i = 0)
    (h : k (kW w g (flowS (cf w) se R σ) (lvL (cf w) se R (σ 0) L))) : Cl 37 [vO 0 29, vO g 40] (kW w g σ L) (kV k) := by
  apply v_X6_letFlow_0
  refine c_takeLevels hR h24 hs ha ?_
  have hL : ∀ j, j ≤ R → lvL (cf w) se R (σ 0) L j = lx (cf w) se R (σ 0) j := fun j hj => if_pos hj
  generalize lvL (cf w) se R (σ 0) L = L' at hL h ⊢
  refine cnt (L := fun x => [some (.inr (.inr (0, 29))), some (.inr (.inr (g, 40))), some (.inl x)]) R (fun i => kW w g (ub σ 5 (mx i (FL (cf w) se R σ) (σ 5))) L') rfl (by rw [mx_0, ub_self]) ?_ ?_
  · apply v_X6_letFlow_7
    simp (disch := first | decide | omega) only [cl_nI, in_T, le_nI, lt_nI, nI_s1, true_and, and_true, true_implies, false_implies, implies_true, Nat.le_refl, Nat.lt_irrefl, not_false_eq_true, not_true_eq_false, eq_self, i10, i_ten, i_fv, i_fr, cf_kW, cf_s, gk_0, gk_1, gk_2, gk_3, gk_4, gk_5, gk_6, gk_7, gk_8, gk_9, gk_10, gk_11, gk_30, gk_off, gkL, sk_0, sk_1, sk_2, sk_3, sk_4, sk_5, sk_6, sk_7, sk_8, sk_9, sk_10, sk_11, sk_30, sk_off, ub_same, ub_ne, ub_ub, ub_comm, hR]
    refine cnt (L := fun x => [some (.inr (.inr (0, 29))), some (.inr (.inr (g, 40))), some (.inl x)]) R (fun i => kW w g (ub (ub σ 0 (flR (cf w) se R σ i)) 5 (mx R (FL (cf w) se R σ) (σ 5))) L') rfl ?_ ?_ ?_
    · have e : flR (cf w) se R σ 0 = σ 0 := by funext j; simp [flR]
      rw [e, ub_self]
    · apply v_X6_letFlow_38
      simp (disch := first | decide | omega) only [cl_nI, in_T, le_nI, lt_nI, nI_s1, true_and, and_true, true_implies, false_implies, implies_true, Nat.le_refl, Nat.lt_irrefl, not_false_eq_true, not_true_eq_false, eq_self, i10, i_ten, i_fv, i_fr, cf_kW, cf_s, gk_0, gk_1, gk_2, gk_3, gk_4, gk_5, gk_6, gk_7, gk_8, gk_9, gk_10, gk_11, gk_30, gk_off, gkL, sk_0, sk_1, sk_2, sk_3, sk_4, sk_5, sk_6, sk_7, sk_8, sk_9, sk_10, sk_11, sk_30, sk_off, ub_same, ub_ne, ub_ub, ub_comm, hR]
      have e : flR (cf w) se R σ R = mx R (flW (cf w) se R σ) (σ 0) := by
        funext j; unfold flR mx
        by_cases h1 : j < R
        · rw [if_pos h1, if_pos h1]
        · rw [if_neg h1, if_neg h1, if_neg (by omega)]
      rw [e]
      exact h
    · intro i hi hn
      apply v_X6_letFlow_38
      simp (disch := first | decide | omega) only [cl_nI, in_T, le_nI, lt_nI, nI_s1, true_and, and_true, true_implies, false_implies, implies_true, Nat.le_refl, Nat.lt_irrefl, not_false_eq_true, not_true_eq_false, eq_self, i10, i_ten, i_fv, i_fr, cf_kW, cf_s, gk_0, gk_1, gk_2, gk_3, gk_4, gk_5, gk_6, gk_7, gk_8, gk_9, gk_10, gk_11, gk_30, gk_off, gkL, sk_0, sk_1, sk_2, sk_3, sk_4, sk_5, sk_6, sk_7, sk_8, sk_9, sk_10, sk_11, sk_30, sk_off, ub_same, ub_ne, ub_ub, ub_comm, hR, hi, Nat.not_le.mpr hi, mx_lt]
      have e0 : flR (cf w) se R σ i i = if 0 < i then σ 0 i + FL (cf w) se R σ (i - 1) else σ 0 i := by
        unfold flR
        rw [if_neg (Nat.lt_irrefl _)]
        by_cases h0 : 0 < i
        · rw [if_pos ⟨rfl, h0, hi⟩, if_pos h0]
        · rw [if_neg (fun hh => h0 hh.2.1), if_neg h0]
      rw [e0]
      refine ⟨fun h1 => ?_, fun h1 => ?_⟩
      · have e : ub (flR (cf w) se R σ i) i ((if 0 < i then σ 0 i + FL (cf w) se R σ (i - 1) else σ 0 i) - FL (cf w) se R σ i) = flR (cf w) se R σ (i + 1) := by
          funext j
          rw [ub_eq]
          by_cases h2 : j = i
          · subst h2
            rw [if_pos rfl]; unfold flR flW
            rw [if_pos (Nat.lt_succ_self _)]
          · rw [if_neg h2]; unfold flR
            by_cases h3 : j < i
            · rw [if_pos h3, if_pos (by omega)]
            · rw [if_neg h3, if_neg (by omega), if_neg (by omega), if_neg (by omega)]
        rw [e]; exact hn
      · simp (disch := first | decide | omega) only [cl_nI, in_T, le_nI, lt_nI, nI_s1, true_and, and_true, true_implies, false_implies, implies_true, Nat.le_refl, Nat.lt_irrefl, not_false_eq_true, not_true_eq_false, eq_self, i10, i_ten, i_fv, i_fr, cf_kW, cf_s, gk_0, gk_1, gk_2, gk_3, gk_4, gk_5, gk_6, gk_7, gk_8, gk_9, gk_10, gk_11, gk_30, gk_off, gkL, sk_0, sk_1, sk_2, sk_3, sk_4, sk_5, sk_6, sk_7, sk_8, sk_9, sk_10, sk_11, sk_30, sk_off, ub_same, ub_ne, ub_ub, ub_comm, h1]
        rw [ub_ne (show Nat.beq (i + 1) i = false from beq_f (by omega))]
        have e : ub (ub (flR (cf w) se R σ i) i ((if 0 < i then σ 0 i + FL (cf w) se R σ (i - 1) else σ 0 i) - FL (cf w) se R σ i)) (i + 1) (flR (cf w) se R σ i (i + 1) + FL (cf w) se R σ i) = flR (cf w) se R σ (i + 1) := by
          funext j
          rw [ub_eq, ub_eq]
          by_cases h2 : j = i + 1
          · subst h2
            rw [if_pos rfl]; unfold flR
            rw [if_neg (by omega), if_neg (by omega), if_neg (by omega), if_pos ⟨rfl, by omega, h1⟩]; rfl
          · rw [if_neg h2]
            by_cases h4 : j = i
            · subst h4
              rw [if_pos rfl]; unfold flR flW
              rw [if_pos (Nat.lt_succ_self _)]
            · rw [if_neg h4]; unfold flR
              by_cases h3 : j < i
              · rw [if_pos h3, if_pos (by omega)]
              · rw [if_neg h3, if_neg (by omega), if_neg (by omega), if_neg (by omega)]
        rw [e]; exact hn
  · intro i hi hn
    apply v_X6_letFlow_7
    simp (disch := first | decide | omega) only [cl_nI, in_T, le_nI, lt_nI, nI_s1, true_and, and_true, true_implies, false_implies, implies_true, Nat.le_refl, Nat.lt_irrefl, not_false_eq_true, not_true_eq_false, eq_self, i10, i_ten, i_fv, i_fr, cf_kW, cf_s, gk_0, gk_1, gk_2, gk_3, gk_4, gk_5, gk_6, gk_7, gk_8, gk_9, gk_10, gk_11, gk_30, gk_off, gkL, sk_0, sk_1, sk_2, sk_3, sk_4, sk_5, sk_6, sk_7, sk_8, sk_9, sk_10, sk_11, sk_30, sk_off, ub_same, ub_ne, ub_ub, ub_comm, hR, hi, Nat.not_le.mpr hi]
    refine c_flowOf (se := se) hi h24 (hb i hi) hL ?_
    simp (disch := first | decide | omega) only [cl_nI, in_T, le_nI, lt_nI, nI_s1, true_and, and_true, true_implies, false_implies, implies_true, Nat.le_refl, Nat.lt_irrefl, not_false_eq_true, not_true_eq_false, eq_self, i10, i_ten, i_fv, i_fr, cf_kW, cf_s, gk_0, gk_1, gk_2, gk_3, gk_4, gk_5, gk_6, gk_7, gk_8, gk_9, gk_10, gk_11, gk_30, gk_off, gkL, sk_0, sk_1, sk_2, sk_3, sk_4, sk_5, sk_6, sk_7, sk_8, sk_9, sk_10, sk_11, sk_30, sk_off, ub_same, ub_ne, ub_ub, ub_comm, hi, mx_at]
    rw [mx_ub (show FL (cf w) se R (ub σ 5 (mx i (FL (cf w) se R σ) (σ 5))) i = FL (cf w) se R σ i from rfl)]
    exact hn

theorem c_freeze {w g σ L R se t k} (hR : gI w (0, 1) 0 = nI R) (h24 : R ≤ 24) (h5 : ∀ i, i < R → ¬ 5 + σ 1 i / 10 = 0) (hL : ∀ j, j ≤ R → L j = lx (cf w) se R (σ 0) j)
    (h : k (kW w g (frS (cf w) R t σ) L)) : Cl 39 [vO 0 29, vO g 40, vI t] (kW w g σ L) (kV k) := by
  apply v_X6_freeze_0
  refine cnt (L := fun x => [some (.inr (.inr (0, 29))), some (.inr (.inr (g, 40))), some (.inl t), some (.inl x), none]) R (fun i => kW w g (ub (ub σ 1 (mx i (frA t σ) (σ 1))) 2 (mx i (frB (cf w) σ) (σ 2))) L) rfl (by rw [mx_0, mx_0, ub_self, ub_self]) ?_ ?_
  · apply v_X6_freeze_2
    simp (disch := first | decide | omega) only [cl_nI, in_T, le_nI, lt_nI, nI_s1, true_and, and_true, true_implies, false_implies, implies_true, Nat.le_refl, Nat.lt_irrefl, not_false_eq_true, not_true_eq_false, eq_self, i10, i_ten, i_fv, i_fr, cf_kW, cf_s, gk_0, gk_1, gk_2, gk_3, gk_4, gk_5, gk_6, gk_7, gk_8, gk_9, gk_10, gk_11, gk_30, gk_off, gkL, sk_0, sk_1, sk_2, sk_3, sk_4, sk_5, sk_6, sk_7, sk_8, sk_9, sk_10, sk_11, sk_30, sk_off, ub_same, ub_ne, ub_ub, ub_comm, hR]
    exact h
  · intro i hi hn
    apply v_X6_freeze_2
    simp (disch := first | decide | omega) only [cl_nI, in_T, le_nI, lt_nI, nI_s1, true_and, and_true, true_implies, false_implies, implies_true, Nat.le_refl, Nat.lt_irrefl, not_false_eq_true, not_true_eq_false, eq_self, i10, i_ten, i_fv, i_fr, cf_kW, cf_s, gk_0, gk_1, gk_2, gk_3, gk_4, gk_5, gk_6, gk_7, gk_8, gk_9, gk_10, gk_11, gk_30, gk_off, gkL, sk_0, sk_1, sk_2, sk_3, sk_4, sk_5, sk_6, sk_7, sk_8, sk_9, sk_10, sk_11, sk_30, sk_off, ub_same, ub_ne, ub_ub, ub_comm, hR, hi, Nat.not_le.mpr hi, mx_at, hL i (by omega), lx_lt, h5 i hi, i_ten]
    have a0 : ¬ (σ 3 i = 0 ∧ σ 4 i = 0) → σ 1 i = frA t σ i := fun hh => (if_neg hh).symm
    have a1 : (σ 3 i = 0 ∧ σ 4 i = 0) → jmin 200 (σ 1 i + t / (5 + σ 1 i / 10)) = frA t σ i := fun hh => (if_pos hh).symm
    have b0 : ¬ σ 1 i = 0 → σ 2 i = frB (cf w) σ i := fun hh => (if_neg hh).symm
    have b1 : σ 1 i = 0 → lv (cf w) (σ 0) i = frB (cf w) σ i := fun hh => (if_pos hh).symm
    refine ⟨fun h1 => ⟨fun h2 => ?_, fun h2 => ?_⟩, fun h1 => ⟨fun h3 => ⟨fun h2 => ?_, fun h2 => ?_⟩, fun h3 => ⟨fun h2 => ?_, fun h2 => ?_⟩⟩⟩
    · rw [mx_no (a0 fun hh => h1 hh.1), mx_no (b0 h2)]; exact hn
    · rw [mx_no (a0 fun hh => h1 hh.1), mx_ub (b1 h2)]; exact hn
    · rw [mx_no (a0 fun hh => h3 hh.2), mx_no (b0 h2)]; exact hn
    · rw [mx_no (a0 fun hh => h3 hh.2), mx_ub (b1 h2)]; exact hn
    · rw [mx_ub (a1 ⟨h1, h3⟩), mx_no (b0 h2)]; exact hn
    · rw [mx_ub (a1 ⟨h1, h3⟩), mx_ub (b1 h2)]; exact hn

theorem c_melt {w g σ L R t k} (hR : gI w (0, 1) 0 = nI R) (h24 : R ≤ 24)
    (h : k (kW w g (meS R t σ) L)) : Cl 40 [vO 0 29, vO g 40, vI t] (kW w g σ L) (kV k) := by
  apply v_X6_melt_0
  refine cnt (L := fun x => [some (.inr (.inr (0, 29))), some (.inr (.inr (g, 40))), some (.inl t), some (.inl x)]) R (fun i => kW w g (ub σ 1 (mx i (meA t σ) (σ 1))) L) rfl (by rw [mx_0, ub_self]) ?_ ?_
  · apply v_X6_melt_2
    simp (disch := first | decide | omega) only [cl_nI, in_T, le_nI, lt_nI, nI_s1, true_and, and_true, true_implies, false_implies, implies_true, Nat.le_refl, Nat.lt_irrefl, not_false_eq_true, not_true_eq_false, eq_self, i10, i_ten, i_fv, i_fr, cf_kW, cf_s, gk_0, gk_1, gk_2, gk_3, gk_4, gk_5, gk_6, gk_7, gk_8, gk_9, gk_10, gk_11, gk_30, gk_off, gkL, sk_0, sk_1, sk_2, sk_3, sk_4, sk_5, sk_6, sk_7, sk_8, sk_9, sk_10, sk_11, sk_30, sk_off, ub_same, ub_ne, ub_ub, ub_comm, hR]
    exact h
  · intro i hi hn
    apply v_X6_melt_2
    simp (disch := first | decide | omega) only [cl_nI, in_T, le_nI, lt_nI, nI_s1, true_and, and_true, true_implies, false_implies, implies_true, Nat.le_refl, Nat.lt_irrefl, not_false_eq_true, not_true_eq_false, eq_self, i10, i_ten, i_fv, i_fr, cf_kW, cf_s, gk_0, gk_1, gk_2, gk_3, gk_4, gk_5, gk_6, gk_7, gk_8, gk_9, gk_10, gk_11, gk_30, gk_off, gkL, sk_0, sk_1, sk_2, sk_3, sk_4, sk_5, sk_6, sk_7, sk_8, sk_9, sk_10, sk_11, sk_30, sk_off, ub_same, ub_ne, ub_ub, ub_comm, hR, hi, Nat.not_le.mpr hi, mx_at]
    rw [mx_ub (show jmax 0 (σ 1 i - t) = meA t σ i from rfl)]; exact hn

theorem c_breakSheets {w g σ L R se k} (hR : gI w (0, 1) 0 = nI R) (h24 : R ≤ 24) (hL : ∀ j, j ≤ R → L j = lx (cf w) se R (σ 0) j)
    (h : k (kW w g (brS (cf w) R σ) L)) : Cl 41 [vO 0 29, vO g 40] (kW w g σ L) (kV k) := by
  apply v_X6_breakSheets_0
  refine cnt (L := fun x => [some (.inr (.inr (0, 29))), some (.inr (.inr (g, 40))), some (.inl x)]) R (fun i => kW w g (ub (ub σ 1 (mx i (brA (cf w) σ) (σ 1))) 3 (mx i (brB (cf w) σ) (σ 3))) L) rfl (by rw [mx_0, mx_0, ub_self, ub_self]) ?_ ?_
  · apply v_X6_breakSheets_2
    simp (disch := first | decide | omega) only [cl_nI, in_T, le_nI, lt_nI, nI_s1, true_and, and_true, true_implies, false_implies, implies_true, Nat.le_refl, Nat.lt_irrefl, not_false_eq_true, not_true_eq_false, eq_self, i10, i_ten, i_fv, i_fr, cf_kW, cf_s, gk_0, gk_1, gk_2, gk_3, gk_4, gk_5, gk_6, gk_7, gk_8, gk_9, gk_10, gk_11, gk_30, gk_off, gkL, sk_0, sk_1, sk_2, sk_3, sk_4, sk_5, sk_6, sk_7, sk_8, sk_9, sk_10, sk_11, sk_30, sk_off, ub_same, ub_ne, ub_ub, ub_comm, hR]
    exact h
  · intro i hi hn
    apply v_X6_breakSheets_2
    simp (disch := first | decide | omega) only [cl_nI, in_T, le_nI, lt_nI, nI_s1, true_and, and_true, true_implies, false_implies, implies_true, Nat.le_refl, Nat.lt_irrefl, not_false_eq_true, not_true_eq_false, eq_self, i10, i_ten, i_fv, i_fr, cf_kW, cf_s, gk_0, gk_1, gk_2, gk_3, gk_4, gk_5, gk_6, gk_7, gk_8, gk_9, gk_10, gk_11, gk_30, gk_off, gkL, sk_0, sk_1, sk_2, sk_3, sk_4, sk_5, sk_6, sk_7, sk_8, sk_9, sk_10, sk_11, sk_30, sk_off, ub_same, ub_ne, ub_ub, ub_comm, hR, hi, Nat.not_le.mpr hi, mx_at, hL i (by omega), lx_lt, cf_0]
    have a0 : ¬ (0 < σ 1 i ∧ ¬ cf w 0 i = 4 ∧ σ 2 i + 10 + σ 1 i ≤ lv (cf w) (σ 0) i) → σ 1 i = brA (cf w) σ i := fun hh => (if_neg hh).symm
    have a1 : (0 < σ 1 i ∧ ¬ cf w 0 i = 4 ∧ σ 2 i + 10 + σ 1 i ≤ lv (cf w) (σ 0) i) → 0 = brA (cf w) σ i := fun hh => (if_pos hh).symm
    have b0 : ¬ (0 < σ 1 i ∧ ¬ cf w 0 i = 4 ∧ σ 2 i + 10 + σ 1 i ≤ lv (cf w) (σ 0) i) → σ 3 i = brB (cf w) σ i := fun hh => (if_neg hh).symm
    have b1 : (0 < σ 1 i ∧ ¬ cf w 0 i = 4 ∧ σ 2 i + 10 + σ 1 i ≤ lv (cf w) (σ 0) i) → σ 3 i + σ 1 i = brB (cf w) σ i := fun hh => (if_pos hh).symm
    refine ⟨fun h1 => ?_, fun h1 => ⟨fun h2 => ?_, fun h2 => ⟨fun h3 => ?_, fun h3 => ?_⟩⟩⟩
    · rw [mx_no (a0 fun hh => Int32.not_lt.mpr h1 hh.1), mx_no (b0 fun hh => Int32.not_lt.mpr h1 hh.1)]; exact hn
    · rw [mx_no (a0 fun hh => hh.2.1 h2), mx_no (b0 fun hh => hh.2.1 h2)]; exact hn
    · rw [mx_no (a0 fun hh => Int32.not_le.mpr h3 hh.2.2), mx_no (b0 fun hh => Int32.not_le.mpr h3 hh.2.2)]; exact hn
    · rw [mx_ub (a1 ⟨h1, h2, h3⟩), mx_ub (b1 ⟨h1, h2, h3⟩)]; exact hn

theorem c_mostPassing {w g σ L R} {i : Nat} {k} (hR : gI w (0, 1) 0 = nI R) (h24 : R ≤ 24) (hi : i < R) (hk : vp_in (cf w 0 i) 4)
    (h : k (mpa (cf w) R σ i) (kW w g σ L)) : Cl 43 [vO 0 29, vO g 40, vI (nI i)] (kW w g σ L) (kI k) := by
  apply v_X6_mostPassing_0
  simp (disch := first | decide | omega) only [cl_nI, in_T, le_nI, lt_nI, nI_s1, true_and, and_true, true_implies, false_implies, implies_true, Nat.le_refl, Nat.lt_irrefl, not_false_eq_true, not_true_eq_false, eq_self, i10, i_ten, i_fv, i_fr, cf_kW, cf_s, gk_0, gk_1, gk_2, gk_3, gk_4, gk_5, gk_6, gk_7, gk_8, gk_9, gk_10, gk_11, gk_30, gk_off, gkL, sk_0, sk_1, sk_2, sk_3, sk_4, sk_5, sk_6, sk_7, sk_8, sk_9, sk_10, sk_11, sk_30, sk_off, ub_same, ub_ne, ub_ub, ub_comm, hR, hi, cf_0, hk, eq_self, i10]
  have a0 : ((i + 1 < R ∧ 0 < σ 1 (i + 1)) ∨ σ 9 i = 1) → mpa (cf w) R σ i = 0 := fun hh => if_pos hh
  have a1 : ¬ ((i + 1 < R ∧ 0 < σ 1 (i + 1)) ∨ σ 9 i = 1) → mpa (cf w) R σ i = mfl (cf w 0 i).toNatClampNeg := fun hh => if_neg hh
  refine ⟨fun h1 => ⟨fun h2 => ?_, fun h2 => ?_⟩, fun h1 => ?_⟩
  · show k _ _
    rw [← a1 (fun hh => hh.elim (fun x => by omega) h2)]; exact h
  · show k _ _
    rw [← a0 (Or.inr h2)]; exact h
  · simp (disch := first | decide | omega) only [cl_nI, in_T, le_nI, lt_nI, nI_s1, true_and, and_true, true_implies, false_implies, implies_true, Nat.le_refl, Nat.lt_irrefl, not_false_eq_true, not_true_eq_false, eq_self, i10, i_ten, i_fv, i_fr, cf_kW, cf_s, gk_0, gk_1, gk_2, gk_3, gk_4, gk_5, gk_6, gk_7, gk_8, gk_9, gk_10, gk_11, gk_30, gk_off, gkL, sk_0, sk_1, sk_2, sk_3, sk_4, sk_5, sk_6, sk_7, sk_8, sk_9, sk_10, sk_11, sk_30, sk_off, ub_same, ub_ne, ub_ub, ub_comm, h1]
    refine ⟨fun h3 => ⟨fun h2 => ?_, fun h2 => ?_⟩, fun h3 => ?_⟩
    · show k _ _
      rw [← a1 (fun hh => hh.elim (fun x => Int32.not_lt.mpr h3 x.2) h2)]; exact h
    · show k _ _
      rw [← a0 (Or.inr h2)]; exact h
    · show k _ _
      rw [← a0 (Or.inl ⟨h1, h3⟩)]; exact h

theorem c_giveBelow {w g σ L R} {i : Nat} {v : Int32} {k} (hR : gI w (0, 1) 0 = nI R) (h24 : R ≤ 24) (hi : i < R)
    (h : k (kW w g (if i + 1 < R then ub σ 3 (ub (σ 3) (i + 1) (σ 3 (i + 1) + v)) else σ) L)) : Cl 44 [vO 0 29, vO g 40, vI (nI i), vI v] (kW w g σ L) (kV k) := by
  apply v_X6_giveBelow_0
  simp (disch := first | decide | omega) only [cl_nI, in_T, le_nI, lt_nI, nI_s1, true_and, and_true, true_implies, false_implies, implies_true, Nat.le_refl, Nat.lt_irrefl, not_false_eq_true, not_true_eq_false, eq_self, i10, i_ten, i_fv, i_fr, cf_kW, cf_s, gk_0, gk_1, gk_2, gk_3, gk_4, gk_5, gk_6, gk_7, gk_8, gk_9, gk_10, gk_11, gk_30, gk_off, gkL, sk_0, sk_1, sk_2, sk_3, sk_4, sk_5, sk_6, sk_7, sk_8, sk_9, sk_10, sk_11, sk_30, sk_off, ub_same, ub_ne, ub_ub, ub_comm, hR, hi]
  refine ⟨fun h1 => ?_, fun h1 => ?_⟩
  · rw [if_neg (by omega)] at h; exact h
  · rw [if_pos h1] at h
    simp (disch := first | decide | omega) only [cl_nI, in_T, le_nI, lt_nI, nI_s1, true_and, and_true, true_implies, false_implies, implies_true, Nat.le_refl, Nat.lt_irrefl, not_false_eq_true, not_true_eq_false, eq_self, i10, i_ten, i_fv, i_fr, cf_kW, cf_s, gk_0, gk_1, gk_2, gk_3, gk_4, gk_5, gk_6, gk_7, gk_8, gk_9, gk_10, gk_11, gk_30, gk_off, gkL, sk_0, sk_1, sk_2, sk_3, sk_4, sk_5, sk_6, sk_7, sk_8, sk_9, sk_10, sk_11, sk_30, sk_off, ub_same, ub_ne, ub_ub, ub_comm, h1]
    exact h

def drP (c : Nat → Nat → Int32) (R : Nat) (σ : Nat → Nat → Int32) (n j : Nat) : Int32 := if n ≤ j ∧ j < R then (if n < j then σ 3 j - mov c σ j + pas c R σ (j - 1) else σ 3 j - mov c σ j) else σ 3 j
def drQ (c : Nat → Nat → Int32) (R : Nat) (σ : Nat → Nat → Int32) (n j : Nat) : Int32 := if n ≤ j ∧ j < R then drJ c R σ j else σ 4 j
theorem c_drift {w g σ L R k} (hR : gI w (0, 1) 0 = nI R) (h24 : R ≤ 24) (hk : ∀ i, i < R → ¬ cf w 0 i = 4 → vp_in (cf w 0 i) 4)
    (h : k (kW w g (drS (cf w) R σ) L)) : Cl 42 [vO 0 29, vO g 40] (kW w g σ L) (kV k) := by
  apply v_X6_drift_0
  simp (disch := first | decide | omega) only [cl_nI, in_T, le_nI, lt_nI, nI_s1, true_and, and_true, true_implies, false_implies, implies_true, Nat.le_refl, Nat.lt_irrefl, not_false_eq_true, not_true_eq_false, eq_self, i10, i_ten, i_fv, i_fr, cf_kW, cf_s, gk_0, gk_1, gk_2, gk_3, gk_4, gk_5, gk_6, gk_7, gk_8, gk_9, gk_10, gk_11, gk_30, gk_off, gkL, sk_0, sk_1, sk_2, sk_3, sk_4, sk_5, sk_6, sk_7, sk_8, sk_9, sk_10, sk_11, sk_30, sk_off, ub_same, ub_ne, ub_ub, ub_comm, hR]
  refine dnt (L := fun x => [some (.inr (.inr (0, 29))), some (.inr (.inr (g, 40))), some (.inl x), none, none]) R (fun n => kW w g (ub (ub σ 3 (drP (cf w) R σ n)) 4 (drQ (cf w) R σ n)) L) (by rw [nI_pr]) ?_ ?_ ?_
  · have e1 : drP (cf w) R σ R = σ 3 := by funext j; unfold drP; rw [if_neg (by omega)]
    have e2 : drQ (cf w) R σ R = σ 4 := by funext j; unfold drQ; rw [if_neg (by omega)]
    rw [e1, e2, ub_self, ub_self]
  · apply v_X6_drift_10
    simp (disch := first | decide | omega) only [cl_nI, in_T, le_nI, lt_nI, nI_s1, true_and, and_true, true_implies, false_implies, implies_true, Nat.le_refl, Nat.lt_irrefl, not_false_eq_true, not_true_eq_false, eq_self, i10, i_ten, i_fv, i_fr, cf_kW, cf_s, gk_0, gk_1, gk_2, gk_3, gk_4, gk_5, gk_6, gk_7, gk_8, gk_9, gk_10, gk_11, gk_30, gk_off, gkL, sk_0, sk_1, sk_2, sk_3, sk_4, sk_5, sk_6, sk_7, sk_8, sk_9, sk_10, sk_11, sk_30, sk_off, ub_same, ub_ne, ub_ub, ub_comm, i_m1, i_m1']
    have e1 : drP (cf w) R σ 0 = mx R (drF (cf w) R σ) (σ 3) := by funext j; simp only [drP, mx, drF, Nat.zero_le, true_and]
    have e2 : drQ (cf w) R σ 0 = mx R (drJ (cf w) R σ) (σ 4) := by funext j; simp only [drQ, mx, Nat.zero_le, true_and]
    rw [e1, e2]; exact h
  · intro i hi hn
    apply v_X6_drift_10
    simp (disch := first | decide | omega) only [cl_nI, in_T, le_nI, lt_nI, nI_s1, true_and, and_true, true_implies, false_implies, implies_true, Nat.le_refl, Nat.lt_irrefl, not_false_eq_true, not_true_eq_false, eq_self, i10, i_ten, i_fv, i_fr, cf_kW, cf_s, gk_0, gk_1, gk_2, gk_3, gk_4, gk_5, gk_6, gk_7, gk_8, gk_9, gk_10, gk_11, gk_30, gk_off, gkL, sk_0, sk_1, sk_2, sk_3, sk_4, sk_5, sk_6, sk_7, sk_8, sk_9, sk_10, sk_11, sk_30, sk_off, ub_same, ub_ne, ub_ub, ub_comm, hi, cf_0, i_fv, nI_0le, nI_nlt0]
    have p3 : drP (cf w) R σ (i + 1) i = σ 3 i := if_neg (by omega)
    have p4 : drQ (cf w) R σ (i + 1) i = σ 4 i := if_neg (by omega)
    rw [p3]
    refine ⟨fun h1 => ?_, fun h1 => ?_⟩
    · have m0 : mov (cf w) σ i = 0 := if_pos h1
      have q0 : pas (cf w) R σ i = 0 := if_pos h1
      have e1 : drP (cf w) R σ (i + 1) = drP (cf w) R σ i := by
        funext j; unfold drP
        by_cases h2 : i + 1 ≤ j ∧ j < R
        · rw [if_pos h2, if_pos (show i ≤ j ∧ j < R by omega), if_pos (show i < j by omega)]
          by_cases h3 : i + 1 < j
          · rw [if_pos h3]
          · rw [if_neg h3]
            have : j = i + 1 := by omega
            subst this
            rw [show i + 1 - 1 = i from rfl, q0, Int32.add_zero]
        · rw [if_neg h2]
          by_cases h3 : j = i
          · subst h3
            rw [if_pos (by omega), if_neg (Nat.lt_irrefl _), m0, Int32.sub_zero]
          · rw [if_neg (by omega)]
      have e2 : drQ (cf w) R σ (i + 1) = drQ (cf w) R σ i := by
        funext j; unfold drQ
        by_cases h3 : j = i
        · subst h3
          rw [if_neg (by omega), if_pos (by omega)]
          unfold drJ; rw [m0, q0, Int32.sub_self, Int32.add_zero]
        · by_cases h2 : i + 1 ≤ j ∧ j < R
          · rw [if_pos h2, if_pos (by omega)]
          · rw [if_neg h2, if_neg (by omega)]
      rw [e1, e2]; exact hn
    · refine c_mostPassing (R := R) hR h24 hi (hk i hi h1) ?_
      simp (disch := first | decide | omega) only [cl_nI, in_T, le_nI, lt_nI, nI_s1, true_and, and_true, true_implies, false_implies, implies_true, Nat.le_refl, Nat.lt_irrefl, not_false_eq_true, not_true_eq_false, eq_self, i10, i_ten, i_fv, i_fr, cf_kW, cf_s, gk_0, gk_1, gk_2, gk_3, gk_4, gk_5, gk_6, gk_7, gk_8, gk_9, gk_10, gk_11, gk_30, gk_off, gkL, sk_0, sk_1, sk_2, sk_3, sk_4, sk_5, sk_6, sk_7, sk_8, sk_9, sk_10, sk_11, sk_30, sk_off, ub_same, ub_ne, ub_ub, ub_comm, hi, p3, p4]
      have m0 : jmin (σ 3 i) (σ 5 i / 5) = mov (cf w) σ i := (if_neg h1).symm
      have q0 : jmin (mov (cf w) σ i) (mpa (cf w) R σ i) = pas (cf w) R σ i := (if_neg h1).symm
      rw [show mpa (cf w) R (ub (ub σ 3 (drP (cf w) R σ (i + 1))) 4 (drQ (cf w) R σ (i + 1))) i = mpa (cf w) R σ i from rfl, m0, q0]
      refine c_giveBelow (R := R) hR h24 hi ?_
      have e2 : ub (drQ (cf w) R σ (i + 1)) i (σ 4 i + (mov (cf w) σ i - pas (cf w) R σ i)) = drQ (cf w) R σ i := by
        funext j
        rw [ub_eq]
        by_cases h3 : j = i
        · subst h3
          rw [if_pos rfl]; unfold drQ; rw [if_pos (by omega)]; rfl
        · rw [if_neg h3]; unfold drQ
          by_cases h2 : i + 1 ≤ j ∧ j < R
          · rw [if_pos h2, if_pos (by omega)]
          · rw [if_neg h2, if_neg (by omega)]
      rw [e2]
      by_cases h4 : i + 1 < R
      · rw [if_pos h4]
        simp (disch := first | decide | omega) only [cl_nI, in_T, le_nI, lt_nI, nI_s1, true_and, and_true, true_implies, false_implies, implies_true, Nat.le_refl, Nat.lt_irrefl, not_false_eq_true, not_true_eq_false, eq_self, i10, i_ten, i_fv, i_fr, cf_kW, cf_s, gk_0, gk_1, gk_2, gk_3, gk_4, gk_5, gk_6, gk_7, gk_8, gk_9, gk_10, gk_11, gk_30, gk_off, gkL, sk_0, sk_1, sk_2, sk_3, sk_4, sk_5, sk_6, sk_7, sk_8, sk_9, sk_10, sk_11, sk_30, sk_off, ub_same, ub_ne, ub_ub, ub_comm]
        rw [ub_ne (show Nat.beq (i + 1) i = false from beq_f (by omega))]
        have e1 : ub (ub (drP (cf w) R σ (i + 1)) i (σ 3 i - mov (cf w) σ i)) (i + 1) (drP (cf w) R σ (i + 1) (i + 1) + pas (cf w) R σ i) = drP (cf w) R σ i := by
          funext j
          rw [ub_eq, ub_eq]
          by_cases h2 : j = i + 1
          · subst h2
            rw [if_pos rfl]; unfold drP
            rw [if_pos (by omega), if_neg (by omega), if_pos (by omega), if_pos (by omega)]; rfl
          · rw [if_neg h2]
            by_cases h3 : j = i
            · subst h3
              rw [if_pos rfl]; unfold drP
              rw [if_pos (by omega), if_neg (by omega)]
            · rw [if_neg h3]; unfold drP
              by_cases h5 : i + 1 ≤ j ∧ j < R
              · rw [if_pos h5, if_pos (by omega), if_pos (by omega), if_pos (by omega)]
              · rw [if_neg h5, if_neg (by omega)]
        rw [e1]; exact hn
      · rw [if_neg h4]
        try simp (disch := first | decide | omega) only [cl_nI, in_T, le_nI, lt_nI, nI_s1, true_and, and_true, true_implies, false_implies, implies_true, Nat.le_refl, Nat.lt_irrefl, not_false_eq_true, not_true_eq_false, eq_self, i10, i_ten, i_fv, i_fr, cf_kW, cf_s, gk_0, gk_1, gk_2, gk_3, gk_4, gk_5, gk_6, gk_7, gk_8, gk_9, gk_10, gk_11, gk_30, gk_off, gkL, sk_0, sk_1, sk_2, sk_3, sk_4, sk_5, sk_6, sk_7, sk_8, sk_9, sk_10, sk_11, sk_30, sk_off, ub_same, ub_ne, ub_ub, ub_comm]
        have e1 : ub (drP (cf w) R σ (i + 1)) i (σ 3 i - mov (cf w) σ i) = drP (cf w) R σ i := by
          funext j
          rw [ub_eq]
          by_cases h3 : j = i
          · subst h3
            rw [if_pos rfl]; unfold drP
            rw [if_pos (by omega), if_neg (by omega)]
          · rw [if_neg h3]; unfold drP
            rw [if_neg (by omega), if_neg (by omega)]
        rw [e1]; exact hn

def jgP (c : Nat → Nat → Int32) (se : Int32) (R : Nat) (t : Int32) (σ : Nat → Nat → Int32) (i j : Nat) : Int32 := if j ≤ i ∧ j < R then jgF c se R t σ j else σ 3 j
theorem c_letJamsGo {w g σ L R se t k} (hR : gI w (0, 1) 0 = nI R) (h24 : R ≤ 24) (hL : ∀ j, j ≤ R → L j = lx (cf w) se R (σ 0) j)
    (h : k (kW w g (jgS (cf w) se R t σ) L)) : Cl 45 [vO 0 29, vO g 40, vI t] (kW w g σ L) (kV k) := by
  apply v_X6_letJamsGo_0
  refine cnt (L := fun x => [some (.inr (.inr (0, 29))), some (.inr (.inr (g, 40))), some (.inl t), some (.inl x)]) R (fun i => kW w g (ub (ub σ 3 (jgP (cf w) se R t σ i)) 4 (mx i (jgJ (cf w) se R t σ) (σ 4))) L) rfl ?_ ?_ ?_
  · have e1 : jgP (cf w) se R t σ 0 = σ 3 := by
      funext j; unfold jgP
      by_cases h1 : j ≤ 0 ∧ j < R
      · rw [if_pos h1]; unfold jgF; rw [if_neg (by omega)]
      · rw [if_neg h1]
    rw [e1, mx_0, ub_self, ub_self]
  · apply v_X6_letJamsGo_2
    simp (disch := first | decide | omega) only [cl_nI, in_T, le_nI, lt_nI, nI_s1, true_and, and_true, true_implies, false_implies, implies_true, Nat.le_refl, Nat.lt_irrefl, not_false_eq_true, not_true_eq_false, eq_self, i10, i_ten, i_fv, i_fr, cf_kW, cf_s, gk_0, gk_1, gk_2, gk_3, gk_4, gk_5, gk_6, gk_7, gk_8, gk_9, gk_10, gk_11, gk_30, gk_off, gkL, sk_0, sk_1, sk_2, sk_3, sk_4, sk_5, sk_6, sk_7, sk_8, sk_9, sk_10, sk_11, sk_30, sk_off, ub_same, ub_ne, ub_ub, ub_comm, hR]
    have e1 : jgP (cf w) se R t σ R = mx R (jgF (cf w) se R t σ) (σ 3) := by
      funext j; unfold jgP mx
      by_cases h1 : j < R
      · rw [if_pos h1, if_pos (by omega)]
      · rw [if_neg h1, if_neg (by omega)]
    rw [e1]; exact h
  · intro i hi hn
    apply v_X6_letJamsGo_2
    simp (disch := first | decide | omega) only [cl_nI, in_T, le_nI, lt_nI, nI_s1, true_and, and_true, true_implies, false_implies, implies_true, Nat.le_refl, Nat.lt_irrefl, not_false_eq_true, not_true_eq_false, eq_self, i10, i_ten, i_fv, i_fr, cf_kW, cf_s, gk_0, gk_1, gk_2, gk_3, gk_4, gk_5, gk_6, gk_7, gk_8, gk_9, gk_10, gk_11, gk_30, gk_off, gkL, sk_0, sk_1, sk_2, sk_3, sk_4, sk_5, sk_6, sk_7, sk_8, sk_9, sk_10, sk_11, sk_30, sk_off, ub_same, ub_ne, ub_ub, ub_comm, hR, hi, Nat.not_le.mpr hi, mx_at, hL i (by omega), hL (i + 1) (by omega)]
    have ng : ¬ (0 < σ 4 i ∧ t + 2 * σ 4 i < lx (cf w) se R (σ 0) i - lx (cf w) se R (σ 0) (i + 1)) → kW w g (ub (ub σ 3 (jgP (cf w) se R t σ i)) 4 (mx i (jgJ (cf w) se R t σ) (σ 4))) L = kW w g (ub (ub σ 3 (jgP (cf w) se R t σ (i + 1))) 4 (mx (i + 1) (jgJ (cf w) se R t σ) (σ 4))) L := by
      intro hh
      have g0 : goJ (cf w) se R t σ i = false := decide_eq_false hh
      have e1 : jgP (cf w) se R t σ i = jgP (cf w) se R t σ (i + 1) := by
        funext j; unfold jgP
        by_cases h1 : j ≤ i ∧ j < R
        · rw [if_pos h1, if_pos (by omega)]
        · rw [if_neg h1]
          by_cases h2 : j ≤ i + 1 ∧ j < R
          · rw [if_pos h2]
            have : j = i + 1 := by omega
            subst this
            unfold jgF
            rw [show i + 1 - 1 = i from rfl, g0, if_neg (fun x => by cases x.2)]
          · rw [if_neg h2]
      rw [e1, mx_no (show σ 4 i = jgJ (cf w) se R t σ i by unfold jgJ; rw [g0]; rfl)]
    refine ⟨fun h1 => ?_, fun h1 => ⟨fun h2 => ?_, fun h2 => ?_⟩⟩
    · rw [ng (fun hh => Int32.not_lt.mpr h1 hh.1)]; exact hn
    · rw [ng (fun hh => Int32.not_lt.mpr h2 hh.2)]; exact hn
    · refine c_giveBelow (R := R) hR h24 hi ?_
      have g1 : goJ (cf w) se R t σ i = true := decide_eq_true ⟨h1, h2⟩
      have e2 : ub (mx i (jgJ (cf w) se R t σ) (σ 4)) i 0 = mx (i + 1) (jgJ (cf w) se R t σ) (σ 4) := mx_ub (by unfold jgJ; rw [g1]; rfl)
      by_cases h4 : i + 1 < R
      · rw [if_pos h4]
        simp (disch := first | decide | omega) only [cl_nI, in_T, le_nI, lt_nI, nI_s1, true_and, and_true, true_implies, false_implies, implies_true, Nat.le_refl, Nat.lt_irrefl, not_false_eq_true, not_true_eq_false, eq_self, i10, i_ten, i_fv, i_fr, cf_kW, cf_s, gk_0, gk_1, gk_2, gk_3, gk_4, gk_5, gk_6, gk_7, gk_8, gk_9, gk_10, gk_11, gk_30, gk_off, gkL, sk_0, sk_1, sk_2, sk_3, sk_4, sk_5, sk_6, sk_7, sk_8, sk_9, sk_10, sk_11, sk_30, sk_off, ub_same, ub_ne, ub_ub, ub_comm]
        have e1 : ub (jgP (cf w) se R t σ i) (i + 1) (jgP (cf w) se R t σ i (i + 1) + σ 4 i) = jgP (cf w) se R t σ (i + 1) := by
          funext j
          rw [ub_eq]
          by_cases h5 : j = i + 1
          · subst h5
            rw [if_pos rfl]; unfold jgP
            rw [if_neg (by omega), if_pos (by omega)]
            unfold jgF
            rw [if_pos ⟨Nat.succ_pos _, g1⟩]; rfl
          · rw [if_neg h5]; unfold jgP
            by_cases h6 : j ≤ i ∧ j < R
            · rw [if_pos h6, if_pos (by omega)]
            · rw [if_neg h6, if_neg (by omega)]
        rw [e1, e2]; exact hn
      · rw [if_neg h4]
        try simp (disch := first | decide | omega) only [cl_nI, in_T, le_nI, lt_nI, nI_s1, true_and, and_true, true_implies, false_implies, implies_true, Nat.le_refl, Nat.lt_irrefl, not_false_eq_true, not_true_eq_false, eq_self, i10, i_ten, i_fv, i_fr, cf_kW, cf_s, gk_0, gk_1, gk_2, gk_3, gk_4, gk_5, gk_6, gk_7, gk_8, gk_9, gk_10, gk_11, gk_30, gk_off, gkL, sk_0, sk_1, sk_2, sk_3, sk_4, sk_5, sk_6, sk_7, sk_8, sk_9, sk_10, sk_11, sk_30, sk_off, ub_same, ub_ne, ub_ub, ub_comm]
        have e1 : jgP (cf w) se R t σ i = jgP (cf w) se R t σ (i + 1) := by
          funext j; unfold jgP
          by_cases h6 : j ≤ i ∧ j < R
          · rw [if_pos h6, if_pos (by omega)]
          · rw [if_neg h6, if_neg (by omega)]
        rw [e1, e2]; exact hn

theorem c_countHarm {w g σ L R se k} (hR : gI w (0, 1) 0 = nI R) (h24 : R ≤ 24) (hL : ∀ j, j ≤ R → L j = lx (cf w) se R (σ 0) j)
    (h : k (kW (sI w (g, 40) 1 (hmS (cf w) σ R (gI w (g, 40) 1))) g σ L)) : Cl 46 [vO 0 29, vO g 40] (kW w g σ L) (kV k) := by
  apply v_X6_countHarm_0
  refine cnt (L := fun x => [some (.inr (.inr (0, 29))), some (.inr (.inr (g, 40))), some (.inl x)]) R (fun i => kW (sI w (g, 40) 1 (hmS (cf w) σ i (gI w (g, 40) 1))) g σ L) rfl (by rw [show hmS (cf w) σ 0 (gI w (g, 40) 1) = gI w (g, 40) 1 from rfl, sI_self]) ?_ ?_
  · apply v_X6_countHarm_2
    simp (disch := first | decide | omega) only [cl_nI, in_T, le_nI, lt_nI, nI_s1, true_and, and_true, true_implies, false_implies, implies_true, Nat.le_refl, Nat.lt_irrefl, not_false_eq_true, not_true_eq_false, eq_self, i10, i_ten, i_fv, i_fr, cf_kW, cf_s, gk_0, gk_1, gk_2, gk_3, gk_4, gk_5, gk_6, gk_7, gk_8, gk_9, gk_10, gk_11, gk_30, gk_off, gkL, sk_0, sk_1, sk_2, sk_3, sk_4, sk_5, sk_6, sk_7, sk_8, sk_9, sk_10, sk_11, sk_30, sk_off, ub_same, ub_ne, ub_ub, ub_comm, hR, gI_so]
    exact h
  · intro i hi hn
    apply v_X6_countHarm_2
    simp (disch := first | decide | omega) only [cl_nI, in_T, le_nI, lt_nI, nI_s1, true_and, and_true, true_implies, false_implies, implies_true, Nat.le_refl, Nat.lt_irrefl, not_false_eq_true, not_true_eq_false, eq_self, i10, i_ten, i_fv, i_fr, cf_kW, cf_s, gk_0, gk_1, gk_2, gk_3, gk_4, gk_5, gk_6, gk_7, gk_8, gk_9, gk_10, gk_11, gk_30, gk_off, gkL, sk_0, sk_1, sk_2, sk_3, sk_4, sk_5, sk_6, sk_7, sk_8, sk_9, sk_10, sk_11, sk_30, sk_off, ub_same, ub_ne, ub_ub, ub_comm, hR, hi, Nat.not_le.mpr hi, gI_so, hL i (by omega), lx_lt, cf_7, gI_sat, sI_sI]
    refine ⟨fun h1 => ?_, fun h1 => ?_⟩
    · rw [show hmS (cf w) σ i (gI w (g, 40) 1) = hmS (cf w) σ (i + 1) (gI w (g, 40) 1) from (if_neg (Int32.not_lt.mpr h1)).symm]; exact hn
    · rw [show hmS (cf w) σ i (gI w (g, 40) 1) + σ 7 i = hmS (cf w) σ (i + 1) (gI w (g, 40) 1) from (if_pos h1).symm]; exact hn

theorem c_noteCrests {w g σ L R se k} (hR : gI w (0, 1) 0 = nI R) (h24 : R ≤ 24) (hL : ∀ j, j ≤ R → L j = lx (cf w) se R (σ 0) j)
    (h : k (kW w g (crS (cf w) R (gI w (g, 40) 0) σ) L)) : Cl 47 [vO 0 29, vO g 40] (kW w g σ L) (kV k) := by
  apply v_X6_noteCrests_0
  refine cnt (L := fun x => [some (.inr (.inr (0, 29))), some (.inr (.inr (g, 40))), some (.inl x)]) R (fun i => kW w g (ub (ub σ 10 (mx i (crA (cf w) σ) (σ 10))) 11 (mx i (crB (cf w) (gI w (g, 40) 0) σ) (σ 11))) L) rfl (by rw [mx_0, mx_0, ub_self, ub_self]) ?_ ?_
  · apply v_X6_noteCrests_2
    simp (disch := first | decide | omega) only [cl_nI, in_T, le_nI, lt_nI, nI_s1, true_and, and_true, true_implies, false_implies, implies_true, Nat.le_refl, Nat.lt_irrefl, not_false_eq_true, not_true_eq_false, eq_self, i10, i_ten, i_fv, i_fr, cf_kW, cf_s, gk_0, gk_1, gk_2, gk_3, gk_4, gk_5, gk_6, gk_7, gk_8, gk_9, gk_10, gk_11, gk_30, gk_off, gkL, sk_0, sk_1, sk_2, sk_3, sk_4, sk_5, sk_6, sk_7, sk_8, sk_9, sk_10, sk_11, sk_30, sk_off, ub_same, ub_ne, ub_ub, ub_comm, hR]
    exact h
  · intro i hi hn
    apply v_X6_noteCrests_2
    simp (disch := first | decide | omega) only [cl_nI, in_T, le_nI, lt_nI, nI_s1, true_and, and_true, true_implies, false_implies, implies_true, Nat.le_refl, Nat.lt_irrefl, not_false_eq_true, not_true_eq_false, eq_self, i10, i_ten, i_fv, i_fr, cf_kW, cf_s, gk_0, gk_1, gk_2, gk_3, gk_4, gk_5, gk_6, gk_7, gk_8, gk_9, gk_10, gk_11, gk_30, gk_off, gkL, sk_0, sk_1, sk_2, sk_3, sk_4, sk_5, sk_6, sk_7, sk_8, sk_9, sk_10, sk_11, sk_30, sk_off, ub_same, ub_ne, ub_ub, ub_comm, hR, hi, Nat.not_le.mpr hi, mx_at, hL i (by omega), lx_lt]
    refine ⟨fun h1 => ?_, fun h1 => ?_⟩
    · rw [mx_no (show σ 10 i = crA (cf w) σ i from (if_neg (Int32.not_lt.mpr h1)).symm), mx_no (show σ 11 i = crB (cf w) (gI w (g, 40) 0) σ i from (if_neg (Int32.not_lt.mpr h1)).symm)]; exact hn
    · rw [mx_ub (show lv (cf w) (σ 0) i = crA (cf w) σ i from (if_pos h1).symm), mx_ub (show gI w (g, 40) 0 = crB (cf w) (gI w (g, 40) 0) σ i from (if_pos h1).symm)]; exact hn
