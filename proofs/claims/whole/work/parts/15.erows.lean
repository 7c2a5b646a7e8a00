/-! the model's rows: the first 288 places of a run by CELL and field -/
def enc (μ : Nat → Nat → Int32) (m : Nat → Int32) (k : Nat) : Int32 := if k < 288 then μ (k % 12) (k / 12) else m k
theorem enc_hi {μ m} {k : Nat} (h : 288 ≤ k) : enc μ m k = m k := if_neg (by omega)
theorem enc_z {μ m} : enc μ m 0 = μ 0 0 := rfl
theorem enc_at {μ m} {i f : Nat} (hi : i < 24) (hf : f < 12) : enc μ m (12 * i + f) = μ f i := by
  unfold enc
  rw [if_pos (by omega), show (12 * i + f) % 12 = f by omega, show (12 * i + f) / 12 = i by omega]
theorem enc_ub {μ m} {i f : Nat} {v : Int32} (hi : i < 24) (hf : f < 12) : ub (enc μ m) (12 * i + f) v = enc (ub μ f (ub (μ f) i v)) m := by
  funext k
  rw [ub_eq]
  by_cases h : k = 12 * i + f
  · subst h
    rw [if_pos rfl, enc_at hi hf, ub_same, ub_same]
  · rw [if_neg h]
    unfold enc
    by_cases h1 : k < 288
    · rw [if_pos h1, if_pos h1, ub_eq]
      by_cases h2 : k % 12 = f
      · subst h2
        rw [if_pos rfl, ub_eq, if_neg (by omega)]
      · rw [if_neg h2]
    · rw [if_neg h1, if_neg h1]
theorem enc_uhi {μ m} {k : Nat} {v : Int32} (h : 288 ≤ k) : ub (enc μ m) k v = enc μ (ub m k v) := by
  funext j
  rw [ub_eq]
  by_cases h1 : j = k
  · subst h1
    rw [if_pos rfl, enc_hi h, ub_same]
  · rw [if_neg h1]
    unfold enc
    by_cases h2 : j < 288
    · rw [if_pos h2, if_pos h2]
    · rw [if_neg h2, if_neg h2, ub_eq, if_neg h1]
theorem enc_self {m : Nat → Int32} : enc (fun f i => m (12 * i + f)) m = m := by
  funext k
  unfold enc
  by_cases h : k < 288
  · rw [if_pos h]; show m (12 * (k / 12) + k % 12) = m k; rw [show 12 * (k / 12) + k % 12 = k by omega]
  · rw [if_neg h]
def eOff (j : Nat) : Bool := !(Nat.beq j 114) && !(Nat.beq j 124) && !(Nat.beq j 125)
def eW (w : PW) (s : Nat) (μ : Nat → Nat → Int32) (m A B : Nat → Int32) : PW := aI (aI (aI w (0, 124) A) (0, 125) B) (s, 114) (enc μ m)
theorem ge_m {w s μ m A B} : gI (eW w s μ m A B) (s, 114) = enc μ m := gI_aI
theorem ge_124 {w s μ m A B} : gI (eW w s μ m A B) (0, 124) = A := by
  unfold eW; rw [gI_off' rfl, gI_off' rfl, gI_aI]
theorem ge_125 {w s μ m A B} : gI (eW w s μ m A B) (0, 125) = B := by
  unfold eW; rw [gI_off' rfl, gI_aI]
theorem eOff_s {j : Nat} (h : eOff j = true) : Nat.beq j 114 = false ∧ Nat.beq j 124 = false ∧ Nat.beq j 125 = false := by
  unfold eOff at h
  cases h1 : Nat.beq j 114 <;> cases h2 : Nat.beq j 124 <;> cases h3 : Nat.beq j 125 <;> rw [h1, h2, h3] at h <;> first | exact ⟨rfl, rfl, rfl⟩ | cases h
theorem ge_off {w s μ m A B} {g' j : Nat} (h : eOff j = true) : gI (eW w s μ m A B) (g', j) = gI w (g', j) := by
  obtain ⟨h1, h2, h3⟩ := eOff_s h
  unfold eW; rw [gI_off' h1, gI_off' h3, gI_off' h2]
theorem geL {w s μ m A B} {o : Ob} : gL (eW w s μ m A B) o = gL w o := rfl
theorem se_m {w s μ m A B} {k : Nat} {v : Int32} : sI (eW w s μ m A B) (s, 114) k v = aI (aI (aI w (0, 124) A) (0, 125) B) (s, 114) (ub (enc μ m) k v) := by
  unfold eW; rw [sI_aI]
theorem se_hi {w s μ m A B} {k : Nat} {v : Int32} (h : 288 ≤ k) : sI (eW w s μ m A B) (s, 114) k v = eW w s μ (ub m k v) A B := by
  rw [se_m, enc_uhi h]; rfl
theorem se_z {w s μ m A B} {v : Int32} : sI (eW w s μ m A B) (s, 114) 0 v = eW w s (ub μ 0 (ub (μ 0) 0 v)) m A B := by
  rw [se_m, show (0 : Nat) = 12 * 0 + 0 from rfl, enc_ub (by omega) (by omega)]; rfl
theorem se_124 {w s μ m A B} {k : Nat} {v : Int32} : sI (eW w s μ m A B) (0, 124) k v = eW w s μ m (ub A k v) B := by
  unfold eW; rw [sI_comm rfl, sI_comm rfl, sI_aI]
theorem se_125 {w s μ m A B} {k : Nat} {v : Int32} : sI (eW w s μ m A B) (0, 125) k v = eW w s μ m A (ub B k v) := by
  unfold eW; rw [sI_comm rfl, sI_aI]
theorem se_off {w s μ m A B} {g' j k : Nat} {v : Int32} (h : eOff j = true) : sI (eW w s μ m A B) (g', j) k v = eW (sI w (g', j) k v) s μ m A B := by
  obtain ⟨h1, h2, h3⟩ := eOff_s h
  unfold eW; rw [sI_comm h1, sI_comm h3, sI_comm h2]
theorem eW_self {w : PW} {s : Nat} : eW w s (fun f i => gI w (s, 114) (12 * i + f)) (gI w (s, 114)) (gI w (0, 124)) (gI w (0, 125)) = w := by
  unfold eW; rw [enc_self, aI_self, aI_self, aI_self]
theorem ea_0 {μ m} {i : Nat} (hi : i < 24) : enc μ m (12 * i + 0) = μ 0 i := enc_at hi (by omega)
theorem se_0 {w s μ m A B} {i : Nat} {v : Int32} (hi : i < 24) : sI (eW w s μ m A B) (s, 114) (12 * i + 0) v = eW w s (ub μ 0 (ub (μ 0) i v)) m A B := by rw [se_m, enc_ub hi (by omega)]; rfl
theorem ix_0 {i : Nat} : 12 * nI i + 0 = nI (12 * i + 0) := by rw [show (12 : Int32) = nI 12 from rfl, nI_ml, show (0 : Int32) = nI 0 from rfl, nI_add]
theorem ea_1 {μ m} {i : Nat} (hi : i < 24) : enc μ m (12 * i + 1) = μ 1 i := enc_at hi (by omega)
theorem se_1 {w s μ m A B} {i : Nat} {v : Int32} (hi : i < 24) : sI (eW w s μ m A B) (s, 114) (12 * i + 1) v = eW w s (ub μ 1 (ub (μ 1) i v)) m A B := by rw [se_m, enc_ub hi (by omega)]; rfl
theorem ix_1 {i : Nat} : 12 * nI i + 1 = nI (12 * i + 1) := by rw [show (12 : Int32) = nI 12 from rfl, nI_ml, show (1 : Int32) = nI 1 from rfl, nI_add]
theorem ea_2 {μ m} {i : Nat} (hi : i < 24) : enc μ m (12 * i + 2) = μ 2 i := enc_at hi (by omega)
theorem se_2 {w s μ m A B} {i : Nat} {v : Int32} (hi : i < 24) : sI (eW w s μ m A B) (s, 114) (12 * i + 2) v = eW w s (ub μ 2 (ub (μ 2) i v)) m A B := by rw [se_m, enc_ub hi (by omega)]; rfl
theorem ix_2 {i : Nat} : 12 * nI i + 2 = nI (12 * i + 2) := by rw [show (12 : Int32) = nI 12 from rfl, nI_ml, show (2 : Int32) = nI 2 from rfl, nI_add]
theorem ea_3 {μ m} {i : Nat} (hi : i < 24) : enc μ m (12 * i + 3) = μ 3 i := enc_at hi (by omega)
theorem se_3 {w s μ m A B} {i : Nat} {v : Int32} (hi : i < 24) : sI (eW w s μ m A B) (s, 114) (12 * i + 3) v = eW w s (ub μ 3 (ub (μ 3) i v)) m A B := by rw [se_m, enc_ub hi (by omega)]; rfl
theorem ix_3 {i : Nat} : 12 * nI i + 3 = nI (12 * i + 3) := by rw [show (12 : Int32) = nI 12 from rfl, nI_ml, show (3 : Int32) = nI 3 from rfl, nI_add]
theorem ea_4 {μ m} {i : Nat} (hi : i < 24) : enc μ m (12 * i + 4) = μ 4 i := enc_at hi (by omega)
theorem se_4 {w s μ m A B} {i : Nat} {v : Int32} (hi : i < 24) : sI (eW w s μ m A B) (s, 114) (12 * i + 4) v = eW w s (ub μ 4 (ub (μ 4) i v)) m A B := by rw [se_m, enc_ub hi (by omega)]; rfl
theorem ix_4 {i : Nat} : 12 * nI i + 4 = nI (12 * i + 4) := by rw [show (12 : Int32) = nI 12 from rfl, nI_ml, show (4 : Int32) = nI 4 from rfl, nI_add]
theorem ea_5 {μ m} {i : Nat} (hi : i < 24) : enc μ m (12 * i + 5) = μ 5 i := enc_at hi (by omega)
theorem se_5 {w s μ m A B} {i : Nat} {v : Int32} (hi : i < 24) : sI (eW w s μ m A B) (s, 114) (12 * i + 5) v = eW w s (ub μ 5 (ub (μ 5) i v)) m A B := by rw [se_m, enc_ub hi (by omega)]; rfl
theorem ix_5 {i : Nat} : 12 * nI i + 5 = nI (12 * i + 5) := by rw [show (12 : Int32) = nI 12 from rfl, nI_ml, show (5 : Int32) = nI 5 from rfl, nI_add]
theorem ea_6 {μ m} {i : Nat} (hi : i < 24) : enc μ m (12 * i + 6) = μ 6 i := enc_at hi (by omega)
theorem se_6 {w s μ m A B} {i : Nat} {v : Int32} (hi : i < 24) : sI (eW w s μ m A B) (s, 114) (12 * i + 6) v = eW w s (ub μ 6 (ub (μ 6) i v)) m A B := by rw [se_m, enc_ub hi (by omega)]; rfl
theorem ix_6 {i : Nat} : 12 * nI i + 6 = nI (12 * i + 6) := by rw [show (12 : Int32) = nI 12 from rfl, nI_ml, show (6 : Int32) = nI 6 from rfl, nI_add]
theorem ea_7 {μ m} {i : Nat} (hi : i < 24) : enc μ m (12 * i + 7) = μ 7 i := enc_at hi (by omega)
theorem se_7 {w s μ m A B} {i : Nat} {v : Int32} (hi : i < 24) : sI (eW w s μ m A B) (s, 114) (12 * i + 7) v = eW w s (ub μ 7 (ub (μ 7) i v)) m A B := by rw [se_m, enc_ub hi (by omega)]; rfl
theorem ix_7 {i : Nat} : 12 * nI i + 7 = nI (12 * i + 7) := by rw [show (12 : Int32) = nI 12 from rfl, nI_ml, show (7 : Int32) = nI 7 from rfl, nI_add]
theorem ea_8 {μ m} {i : Nat} (hi : i < 24) : enc μ m (12 * i + 8) = μ 8 i := enc_at hi (by omega)
theorem se_8 {w s μ m A B} {i : Nat} {v : Int32} (hi : i < 24) : sI (eW w s μ m A B) (s, 114) (12 * i + 8) v = eW w s (ub μ 8 (ub (μ 8) i v)) m A B := by rw [se_m, enc_ub hi (by omega)]; rfl
theorem ix_8 {i : Nat} : 12 * nI i + 8 = nI (12 * i + 8) := by rw [show (12 : Int32) = nI 12 from rfl, nI_ml, show (8 : Int32) = nI 8 from rfl, nI_add]
theorem ea_9 {μ m} {i : Nat} (hi : i < 24) : enc μ m (12 * i + 9) = μ 9 i := enc_at hi (by omega)
theorem se_9 {w s μ m A B} {i : Nat} {v : Int32} (hi : i < 24) : sI (eW w s μ m A B) (s, 114) (12 * i + 9) v = eW w s (ub μ 9 (ub (μ 9) i v)) m A B := by rw [se_m, enc_ub hi (by omega)]; rfl
theorem ix_9 {i : Nat} : 12 * nI i + 9 = nI (12 * i + 9) := by rw [show (12 : Int32) = nI 12 from rfl, nI_ml, show (9 : Int32) = nI 9 from rfl, nI_add]
theorem ea_10 {μ m} {i : Nat} (hi : i < 24) : enc μ m (12 * i + 10) = μ 10 i := enc_at hi (by omega)
theorem se_10 {w s μ m A B} {i : Nat} {v : Int32} (hi : i < 24) : sI (eW w s μ m A B) (s, 114) (12 * i + 10) v = eW w s (ub μ 10 (ub (μ 10) i v)) m A B := by rw [se_m, enc_ub hi (by omega)]; rfl
theorem ix_10 {i : Nat} : 12 * nI i + 10 = nI (12 * i + 10) := by rw [show (12 : Int32) = nI 12 from rfl, nI_ml, show (10 : Int32) = nI 10 from rfl, nI_add]
theorem ea_11 {μ m} {i : Nat} (hi : i < 24) : enc μ m (12 * i + 11) = μ 11 i := enc_at hi (by omega)
theorem se_11 {w s μ m A B} {i : Nat} {v : Int32} (hi : i < 24) : sI (eW w s μ m A B) (s, 114) (12 * i + 11) v = eW w s (ub μ 11 (ub (μ 11) i v)) m A B := by rw [se_m, enc_ub hi (by omega)]; rfl
theorem ix_11 {i : Nat} : 12 * nI i + 11 = nI (12 * i + 11) := by rw [show (12 : Int32) = nI 12 from rfl, nI_ml, show (11 : Int32) = nI 11 from rfl, nI_add]
def cm (w : PW) (f : Nat) : Nat → Int32 := gI w (0, 91 + f)

theorem cm_0 {w} : gI w (0, 91) = cm w 0 := rfl
theorem cm_1 {w} : gI w (0, 92) = cm w 1 := rfl
theorem cm_2 {w} : gI w (0, 93) = cm w 2 := rfl
theorem cm_3 {w} : gI w (0, 94) = cm w 3 := rfl
theorem cm_4 {w} : gI w (0, 95) = cm w 4 := rfl
theorem cm_5 {w} : gI w (0, 96) = cm w 5 := rfl
theorem cm_6 {w} : gI w (0, 97) = cm w 6 := rfl
theorem cm_7 {w} : gI w (0, 98) = cm w 7 := rfl
theorem cm_8 {w} : gI w (0, 99) = cm w 8 := rfl
theorem cm_9 {w} : gI w (0, 100) = cm w 9 := rfl
theorem cm_10 {w} : gI w (0, 101) = cm w 10 := rfl
theorem e_enc {μ m m'} (h : ∀ k, 288 ≤ k → m k = m' k) : enc μ m = enc μ m' := by
  funext k; unfold enc
  by_cases h1 : k < 288
  · rw [if_pos h1, if_pos h1]
  · rw [if_neg h1, if_neg h1, h k (by omega)]
theorem cm_eW {w s μ m A B} {f : Nat} (h : Nat.ble f 10 = true) : cm (eW w s μ m A B) f = cm w f := by
  have := Nat.le_of_ble_eq_true h
  unfold cm
  refine ge_off ?_
  unfold eOff
  rw [beq_f (by omega), beq_f (by omega), beq_f (by omega)]; rfl
theorem cm_s {w} {g j k : Nat} {v : Int32} {f : Nat} (h : (Nat.ble f 10 && (Nat.ble j 90 || Nat.ble 102 j)) = true) : cm (sI w (g, j) k v) f = cm w f := by
  simp only [Bool.and_eq_true, Bool.or_eq_true] at h
  have h1 := Nat.le_of_ble_eq_true h.1
  have h2 : j ≤ 90 ∨ 102 ≤ j := h.2.imp Nat.le_of_ble_eq_true Nat.le_of_ble_eq_true
  unfold cm
  exact gI_so (beq_f (by omega))
