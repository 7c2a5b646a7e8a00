/-! the two sides' steps agree -/
theorem r32_1 {a b c : Int32} : a + (b - c) = a + b - c := by grind
theorem r32_2 {a c : Int32} : a + (0 - c) = a - c := by grind
theorem r32_3 {a b m p : Int32} : a + (b - p - (m - p)) = a - m + b := by grind
theorem r32_4 {a m p : Int32} : a + (0 - p - (m - p)) = a - m := by grind
theorem r32_5 {x : Int32} : 30 + 2 * x + 20 = 50 + 2 * x := by grind
theorem r32_6 {x : Int32} : 30 + 2 * x + 0 = 30 + 2 * x := by grind
theorem r32_7 {x : Int32} : x - x = 0 := by grind
theorem r32_8 {x : Int32} : x - 0 = x := by grind
theorem r32_9 {x : Int32} : x + 0 = x := by grind
def Rel (R : Nat) (σ μ : Nat → Nat → Int32) : Prop := ∀ i, i < R →
  μ 0 i = σ 0 i ∧ μ 1 i = σ 1 i ∧ μ 2 i = (if σ 1 i = 0 then -2 else σ 2 i) ∧ μ 3 i = σ 3 i ∧ μ 4 i = σ 4 i ∧ μ 5 i = σ 6 i ∧ μ 6 i = σ 7 i ∧ μ 7 i = σ 8 i ∧ μ 8 i = σ 9 i ∧ μ 9 i = σ 5 i ∧
  (σ 11 i = 0 → σ 10 i = -1) ∧ (¬ σ 11 i = 0 → μ 10 i = σ 10 i) ∧ μ 11 i = σ 11 i
def CE (R : Nat) (c d : Nat → Nat → Int32) : Prop := ∀ f i, f ≤ 10 → i < R → d f i = c f i
theorem Rel.w0 {R σ μ} (h : Rel R σ μ) {i} (hi : i < R) : μ 0 i = σ 0 i := (h i hi).1
theorem CE.elv {R c d wa wb} (hc : CE R c d) (hw : ∀ i, i < R → wb i = wa i) {i} (hi : i < R) : lv d wb i = lv c wa i := by
  unfold lv; rw [hc 1 i (by omega) hi, hc 2 i (by omega) hi, hw i hi]
theorem CE.elx {R c d se wa wb} (hc : CE R c d) (hw : ∀ i, i < R → wb i = wa i) (i : Nat) : lx d se R wb i = lx c se R wa i := by
  unfold lx
  by_cases hi : i < R
  · rw [if_pos hi, if_pos hi, hc.elv hw hi]
  · rw [if_neg hi, if_neg hi]
def shOK (c : Nat → Nat → Int32) (R : Nat) (σ : Nat → Nat → Int32) : Prop := ∀ i, i < R → σ 9 i = 0 ∨ (σ 9 i = 1 ∧ c 0 i = 3)
theorem FM_eq {R c d se σ μ} (hc : CE R c d) (h : Rel R σ μ) (hs : shOK c R σ) {i : Nat} (hi : i < R) : FM d se R μ i = FL c se R σ i := by
  obtain ⟨h0, h1, h2, h3, h4, h5, h6, h7, h8, h9, h10, h11, h12⟩ := h i hi
  have hw : ∀ j, j < R → μ 0 j = σ 0 j := fun j hj => h.w0 hj
  unfold FM FL fa
  rw [hc.elx hw, hc.elx hw, h8, h0, hc 0 i (by omega) hi, hc 3 i (by omega) hi, show brkM μ i = brk σ i by unfold brkM brk; rw [h4, h1]]
  have a0 : (0 : Int32) = 1 ↔ False := by decide
  have a1 : (1 : Int32) = 0 ↔ False := by decide
  by_cases g1 : lx c se R (σ 0) i - lx c se R (σ 0) (i + 1) ≤ 0
  · rw [if_pos (Or.inl g1), if_neg (fun x => Int32.not_lt.mpr g1 x.1)]
  · have g2 := Int32.not_le.mp g1
    rcases hs i hi with g3 | ⟨g3, g4⟩
    · rw [if_neg (show ¬ (_ ∨ σ 9 i = 1) from fun x => x.elim g1 (fun y => by rw [g3, a0] at y; exact y)), if_pos ⟨g2, fun _ => g3⟩]; rfl
    · rw [if_pos (Or.inr g3), if_neg (fun x => by have := x.2 g4; rw [g3, a1] at this; exact this)]
theorem mx_in {α : Type} {R i : Nat} {F o : Nat → α} (h : i < R) : mx R F o i = F i := if_pos h
theorem Rel.mk {R σ μ} (h : ∀ i, i < R → μ 0 i = σ 0 i ∧ μ 1 i = σ 1 i ∧ μ 2 i = (if σ 1 i = 0 then -2 else σ 2 i) ∧ μ 3 i = σ 3 i ∧ μ 4 i = σ 4 i ∧ μ 5 i = σ 6 i ∧ μ 6 i = σ 7 i ∧ μ 7 i = σ 8 i ∧ μ 8 i = σ 9 i ∧ μ 9 i = σ 5 i ∧
  (σ 11 i = 0 → σ 10 i = -1) ∧ (¬ σ 11 i = 0 → μ 10 i = σ 10 i) ∧ μ 11 i = σ 11 i) : Rel R σ μ := h
theorem rel_flow {R c d se σ μ} (hc : CE R c d) (h : Rel R σ μ) (hs : shOK c R σ) : Rel R (flowS c se R σ) (flowM d se R μ) := by
  intro i hi
  obtain ⟨h0, h1, h2, h3, h4, h5, h6, h7, h8, h9, h10, h11, h12⟩ := h i hi
  unfold flowS flowM
  simp (disch := decide) only [ub_same, ub_ne, mx_in hi]
  refine ⟨?_, h1, h2, h3, h4, h5, h6, h7, h8, FM_eq hc h hs hi, h10, h11, h12⟩
  unfold fMW flW
  rw [h0, FM_eq hc h hs hi]
  by_cases g : 0 < i
  · rw [if_pos g, if_pos g, FM_eq hc h hs (show i - 1 < R by omega), r32_1]
  · rw [if_neg g, if_neg g, r32_2]
theorem ti_div {a b : Int32} (ha : 0 ≤ a.toInt) (hb : 0 < b.toInt) : (a / b).toInt = a.toInt / b.toInt := by
  rw [Int32.toInt_div, Int.tdiv_eq_ediv_of_nonneg ha]
  have h1 := ti_b a
  have h2 : 0 ≤ a.toInt / b.toInt := Int.ediv_nonneg ha (by omega)
  have h3 : a.toInt / b.toInt ≤ a.toInt := Int.ediv_le_self _ ha
  exact Int.bmod_eq_of_le (by omega) (by omega)
theorem tl0 : (0 : Int32).toInt = 0 := rfl
theorem tl1 : (1 : Int32).toInt = 1 := rfl
theorem tl2 : (2 : Int32).toInt = 2 := rfl
theorem tl3 : (3 : Int32).toInt = 3 := rfl
theorem tl4 : (4 : Int32).toInt = 4 := rfl
theorem tl5 : (5 : Int32).toInt = 5 := rfl
theorem tl10 : (10 : Int32).toInt = 10 := rfl
theorem tl20 : (20 : Int32).toInt = 20 := rfl
theorem tl30 : (30 : Int32).toInt = 30 := rfl
theorem tl40 : (40 : Int32).toInt = 40 := rfl
theorem tl200 : (200 : Int32).toInt = 200 := rfl
theorem tlm1 : (-1 : Int32).toInt = -1 := rfl
theorem tlm2 : (-2 : Int32).toInt = -2 := rfl
theorem ti_neg {a : Int32} (h : -2147483648 < a.toInt) : (-a).toInt = - a.toInt := by
  rw [Int32.toInt_neg]
  have := ti_b a
  exact Int.bmod_eq_of_le (by omega) (by omega)
def nn (x : Int32) : Prop := 0 ≤ x.toInt
/-- freezing and melting -/
def frC (c : Nat → Nat → Int32) (R : Nat) (t : Int32) (σ : Nat → Nat → Int32) : Nat → Nat → Int32 := if t < 0 then frS c R (-t) σ else meS R (t / 4) σ
theorem rel_fr {R c d t σ μ} (hc : CE R c d) (h : Rel R σ μ) (ht : -30 ≤ t.toInt ∧ t.toInt ≤ 30) (hsh : ∀ i, i < R → 0 ≤ (σ 1 i).toInt ∧ (σ 1 i).toInt ≤ 200) : Rel R (frC c R t σ) (frM d R t μ) := by
  intro i hi
  obtain ⟨h0, h1, h2, h3, h4, h5, h6, h7, h8, h9, h10, h11, h12⟩ := h i hi
  obtain ⟨s0, s1⟩ := hsh i hi
  have hw : ∀ j, j < R → μ 0 j = σ 0 j := fun j hj => h.w0 hj
  have q1 : (σ 1 i / 10).toInt = (σ 1 i).toInt / 10 := ti_div (b := 10) s0 (by decide)
  have q2 : (5 + σ 1 i / 10).toInt = 5 + (σ 1 i).toInt / 10 := by
    rw [ti_add (by rw [q1, tl5]; omega) (by rw [q1, tl5]; omega), q1, tl5]
  unfold frC frM
  by_cases ng : t < 0
  · rw [if_pos ng]
    have ng' : t.toInt < 0 := by rw [ti_lt, tl0] at ng; exact ng
    have np : ¬ 0 < t := by rw [ti_lt, tl0]; omega
    have q3 : (-t).toInt = - t.toInt := ti_neg (by omega)
    have q4 : (-t / (5 + σ 1 i / 10)).toInt = (- t.toInt) / (5 + (σ 1 i).toInt / 10) := by
      rw [ti_div (by omega) (by omega), q3, q2]
    have q5 : 0 ≤ (- t.toInt) / (5 + (σ 1 i).toInt / 10) := Int.ediv_nonneg (by omega) (by omega)
    have q6 : (- t.toInt) / (5 + (σ 1 i).toInt / 10) ≤ - t.toInt := Int.ediv_le_self _ (by omega)
    have q7 : (nwM t μ i).toInt = (σ 1 i).toInt + (- t.toInt) / (5 + (σ 1 i).toInt / 10) := by
      unfold nwM
      rw [h1, ti_add (by rw [q4]; omega) (by rw [q4]; omega), q4]
    have e1 : frM1 t μ i = frA (-t) σ i := by
      unfold frM1 frA
      rw [if_neg np, h3, h4, h1]
      by_cases hf : σ 3 i = 0 ∧ σ 4 i = 0
      · rw [if_pos hf, if_pos ⟨ng, hf⟩]
        unfold jmin
        rw [show σ 1 i + -t / (5 + σ 1 i / 10) = nwM t μ i by unfold nwM; rw [h1]]
        by_cases g1 : 200 < nwM t μ i
        · rw [if_pos g1, if_neg (by rw [ti_lt] at g1 ⊢; omega)]
        · rw [if_neg g1]
          by_cases g2 : nwM t μ i < 200
          · rw [if_pos g2]
          · rw [if_neg g2]
            rw [ti_eq]; rw [ti_lt] at g1 g2; omega
      · rw [if_neg hf, if_neg (fun x => hf x.2)]
    unfold frS
    simp (disch := decide) only [ub_same, ub_ne, mx_in hi]
    refine ⟨h0, e1, ?_, h3, h4, h5, h6, h7, h8, h9, h10, h11, h12⟩
    unfold frM2
    rw [e1]
    by_cases g0 : frA (-t) σ i = 0
    · rw [if_pos g0, if_pos g0]
    · rw [if_neg g0, if_neg g0]
      unfold frB
      rw [h3, h4, h1, h2, hc.elv hw hi]
      by_cases g1 : σ 1 i = 0
      · rw [if_pos g1]
        have hf : σ 3 i = 0 ∧ σ 4 i = 0 := by
          refine Decidable.byContradiction fun hf => g0 ?_
          unfold frA; rw [if_neg hf, g1]
        have g2 : 0 < nwM t μ i := by
          have z2 : ¬ (nwM t μ i).toInt = 0 := fun hz => g0 (by
            unfold frA
            rw [if_pos hf, show σ 1 i + -t / (5 + σ 1 i / 10) = nwM t μ i by unfold nwM; rw [h1]]
            rw [show nwM t μ i = 0 by rw [ti_eq, hz, tl0]]; rfl)
          rw [ti_lt, tl0]; omega
        rw [if_pos ⟨⟨ng, hf⟩, g1, g2⟩, if_pos g1]
      · rw [if_neg g1, if_neg (fun x => g1 x.2.1), if_neg g1]
  · rw [if_neg ng]
    have ng' : 0 ≤ t.toInt := by rw [ti_lt, tl0] at ng; omega
    have q3 : (t / 4).toInt = t.toInt / 4 := ti_div (b := 4) ng' (by decide)
    have q4 : (σ 1 i - t / 4).toInt = (σ 1 i).toInt - t.toInt / 4 := by rw [ti_sub (by rw [q3]; omega) (by rw [q3]; omega), q3]
    have e1 : frM1 t μ i = meA (t / 4) σ i := by
      unfold frM1 meA jmax
      rw [h1]
      by_cases g1 : 0 < t
      · rw [if_pos g1]
        by_cases g2 : t / 4 < σ 1 i
        · rw [if_pos g2, if_pos (by rw [ti_lt, tl0, q4]; rw [ti_lt, q3] at g2; omega)]
        · rw [if_neg g2, if_neg (by rw [ti_lt, tl0, q4]; rw [ti_lt, q3] at g2; omega)]
      · have tz : t.toInt = 0 := by rw [ti_lt, tl0] at g1; omega
        rw [if_neg g1, if_neg (fun x => ng x.1)]
        by_cases g2 : 0 < σ 1 i - t / 4
        · rw [if_pos g2, ti_eq, q4]; omega
        · rw [if_neg g2, ti_eq, tl0]; rw [ti_lt, tl0, q4] at g2; omega
    unfold meS
    simp (disch := decide) only [ub_same, ub_ne, mx_in hi]
    refine ⟨h0, e1, ?_, h3, h4, h5, h6, h7, h8, h9, h10, h11, h12⟩
    unfold frM2
    rw [e1]
    by_cases g0 : meA (t / 4) σ i = 0
    · rw [if_pos g0, if_pos g0]
    · rw [if_neg g0, if_neg g0, if_neg (fun x => ng x.1.1), h2, if_neg]
      intro hz
      refine g0 ?_
      unfold meA jmax
      rw [if_neg]
      rw [ti_lt, q4, tl0, hz, tl0]; omega
theorem rel_br {R c d σ μ} (hc : CE R c d) (h : Rel R σ μ) : Rel R (brS c R σ) (brM d R μ) := by
  intro i hi
  obtain ⟨h0, h1, h2, h3, h4, h5, h6, h7, h8, h9, h10, h11, h12⟩ := h i hi
  have hw : ∀ j, j < R → μ 0 j = σ 0 j := fun j hj => h.w0 hj
  unfold brS brM
  simp (disch := decide) only [ub_same, ub_ne, mx_in hi]
  have e : bkM d μ i = decide (0 < σ 1 i ∧ ¬ c 0 i = 4 ∧ σ 2 i + 10 + σ 1 i ≤ lv c (σ 0) i) := by
    unfold bkM
    rw [hc.elv hw hi, hc 0 i (by omega) hi, h1, h2]
    apply decide_eq_decide.mpr
    by_cases g : 0 < σ 1 i
    · rw [if_neg (fun x => by rw [x] at g; exact absurd g (by decide))]
      exact ⟨fun x => ⟨x.2.1, x.1, x.2.2⟩, fun x => ⟨x.2.1, x.1, x.2.2⟩⟩
    · exact ⟨fun x => absurd x.2.1 g, fun x => absurd x.1 g⟩
  refine ⟨h0, ?_, ?_, ?_, h4, h5, h6, h7, h8, h9, h10, h11, h12⟩
  · unfold bM1 brA; rw [e, h1]; simp only [decide_eq_true_eq]
  · unfold bM2 brA; rw [e, h2]
    by_cases g : 0 < σ 1 i ∧ ¬ c 0 i = 4 ∧ σ 2 i + 10 + σ 1 i ≤ lv c (σ 0) i
    · rw [if_pos (decide_eq_true g), if_pos g, if_pos rfl]
    · rw [if_neg (by rw [decide_eq_true_eq]; exact g), if_neg g]
  · unfold bM3 brB; rw [e, h3, h1]; simp only [decide_eq_true_eq]
theorem jmin_nn {x y : Int32} (hx : nn x) (hy : nn y) : nn (jmin x y) := by
  unfold jmin
  by_cases g : y < x
  · rw [if_pos g]; exact hy
  · rw [if_neg g]; exact hx
theorem div_nn {x y : Int32} (hx : nn x) (hy : 0 < y.toInt) : nn (x / y) := by
  unfold nn at hx ⊢
  rw [ti_div hx hy]; exact Int.ediv_nonneg hx (by omega)
theorem nn0 : nn 0 := Int.le_refl _
theorem mov_nn {c σ i} (h3 : nn (σ 3 i)) (h5 : nn (σ 5 i)) : nn (mov c σ i) := by
  unfold mov
  by_cases g : c 0 i = 4
  · rw [if_pos g]; exact nn0
  · rw [if_neg g]; exact jmin_nn h3 (div_nn h5 (by decide))
theorem kind5 {x : Int32} (h : 0 ≤ x.toInt ∧ x.toInt ≤ 4) : x = 0 ∨ x = 1 ∨ x = 2 ∨ x = 3 ∨ x = 4 := by
  simp only [ti_eq, tl0, tl1, tl2, tl3, tl4]; omega
theorem rel_dr {R c d σ μ} (hc : CE R c d) (h : Rel R σ μ) (hs : shOK c R σ) (hk : ∀ i, i < R → 0 ≤ (c 0 i).toInt ∧ (c 0 i).toInt ≤ 4) (h3' : ∀ i, i < R → nn (σ 3 i)) (h5' : ∀ i, i < R → nn (σ 5 i)) :
    Rel R (drS c R σ) (drM d R μ) := by
  have em : ∀ i, i < R → mvM d μ i = mov c σ i := by
    intro i hi
    obtain ⟨h0, h1, h2, h3, h4, h5, h6, h7, h8, h9, h10, h11, h12⟩ := h i hi
    unfold mvM mov jmin
    rw [hc 0 i (by omega) hi, h9, h3]
  have ep : ∀ i, i < R → paM d R μ i = pas c R σ i := by
    intro i hi
    obtain ⟨h0, h1, h2, h3, h4, h5, h6, h7, h8, h9, h10, h11, h12⟩ := h i hi
    unfold paM pas
    rw [hc 0 i (by omega) hi, em i hi]
    by_cases g : c 0 i = 4
    · rw [if_pos g, if_pos g]
    · rw [if_neg g, if_neg g]
      have hn : nn (mov c σ i) := mov_nn (h3' i hi) (h5' i hi)
      have z : ∀ v : Int32, nn v → jmin v 0 = 0 := by
        intro v hv
        unfold jmin nn at *
        by_cases q : 0 < v
        · rw [if_pos q]
        · rw [if_neg q, ti_eq, tl0]; rw [ti_lt, tl0] at q; omega
      have z2 : ∀ v x : Int32, jmin v x = if v < x then v else x := by
        intro v x; unfold jmin
        by_cases q : x < v
        · rw [if_pos q, if_neg (by rw [ti_lt] at q ⊢; omega)]
        · rw [if_neg q]
          by_cases q2 : v < x
          · rw [if_pos q2]
          · rw [if_neg q2, ti_eq]; rw [ti_lt] at q q2; omega
      have cv : (i + 1 < R ∧ 0 < μ 1 (i + 1)) ↔ (i + 1 < R ∧ 0 < σ 1 (i + 1)) := by
        constructor
        · intro x; exact ⟨x.1, by rw [← (h (i + 1) x.1).2.1]; exact x.2⟩
        · intro x; exact ⟨x.1, by rw [(h (i + 1) x.1).2.1]; exact x.2⟩
      unfold psM mpa
      by_cases g1 : i + 1 < R ∧ 0 < σ 1 (i + 1)
      · rw [if_pos (cv.mpr g1), if_pos (Or.inl g1), z _ hn]
      · rw [if_neg (fun x => g1 (cv.mp x))]
        rw [← z2]
        unfold mpM
        rw [hc 0 i (by omega) hi, h8]
        rcases hs i hi with g3 | ⟨g3, g4⟩
        · rw [if_neg (show ¬ (_ ∨ σ 9 i = 1) from fun x => x.elim g1 (fun y => by rw [g3] at y; exact absurd y (by decide)))]
          rcases kind5 (hk i hi) with k | k | k | k | k
          · rw [k, g3]; rfl
          · rw [k, g3]; rfl
          · rw [k, g3]; rfl
          · rw [k, g3]; rfl
          · exact absurd k g
        · rw [if_pos (Or.inr g3), g4, g3]; rfl
  intro i hi
  obtain ⟨h0, h1, h2, h3, h4, h5, h6, h7, h8, h9, h10, h11, h12⟩ := h i hi
  unfold drS drM
  simp (disch := decide) only [ub_same, ub_ne, mx_in hi]
  refine ⟨h0, h1, h2, ?_, ?_, h5, h6, h7, h8, h9, h10, h11, h12⟩
  · unfold dM3 drF jaM
    rw [h3, em i hi, ep i hi]
    by_cases g : 0 < i
    · rw [if_pos g, if_pos g, ep (i - 1) (by omega), r32_3]
    · rw [if_neg g, if_neg g, r32_4]
  · unfold dM4 drJ jaM
    rw [h4, em i hi, ep i hi]
theorem rel_jg {R c d se t σ μ} (hc : CE R c d) (h : Rel R σ μ) : Rel R (jgS c se R (if t < 0 then 50 else 30) σ) (lgS d se R t μ) := by
  have hw : ∀ j, j < R → μ 0 j = σ 0 j := fun j hj => h.w0 hj
  have el : ∀ i, i < R → lgM d se R t μ i = if goJ c se R (if t < 0 then 50 else 30) σ i = true then σ 4 i else 0 := by
    intro i hi
    unfold lgM goJ fa
    rw [(h i hi).2.2.2.2.1, hc.elx hw, hc.elx hw]
    have : (30 : Int32) + 2 * σ 4 i + (if t < 0 then 20 else 0) = (if t < 0 then 50 else 30) + 2 * σ 4 i := by
      by_cases g : t < 0
      · rw [if_pos g, if_pos g, r32_5]
      · rw [if_neg g, if_neg g, r32_6]
    rw [this]
    simp only [decide_eq_true_eq]
  intro i hi
  obtain ⟨h0, h1, h2, h3, h4, h5, h6, h7, h8, h9, h10, h11, h12⟩ := h i hi
  unfold jgS lgS
  simp (disch := decide) only [ub_same, ub_ne, mx_in hi]
  refine ⟨h0, h1, h2, ?_, ?_, h5, h6, h7, h8, h9, h10, h11, h12⟩
  · unfold lM3 jgF
    rw [h3]
    by_cases g : 0 < i
    · rw [if_pos g, el (i - 1) (by omega)]
      by_cases g2 : goJ c se R (if t < 0 then 50 else 30) σ (i - 1) = true
      · rw [if_pos g2, if_pos ⟨g, g2⟩]
      · rw [if_neg g2, if_neg (fun x => g2 x.2), r32_9]
    · rw [if_neg g, if_neg (fun x => g x.1)]
  · unfold lM4 jgJ
    rw [h4, el i hi]
    by_cases g2 : goJ c se R (if t < 0 then 50 else 30) σ i = true
    · rw [if_pos g2, if_pos g2, r32_7]
    · rw [if_neg g2, if_neg g2, r32_8]
theorem rel_cr {R c d σ μ} {h : Nat} (hc : CE R c d) (hr : Rel R σ μ) (hl : ∀ i, i < R → nn (lv c (σ 0) i)) (h1' : 0 < h) (h2' : h < 397) : Rel R (crS c R (nI h) σ) (eS d R h μ) := by
  intro i hi
  obtain ⟨h0, h1, h2, h3, h4, h5, h6, h7, h8, h9, h10, h11, h12⟩ := hr i hi
  have hw : ∀ j, j < R → μ 0 j = σ 0 j := fun j hj => hr.w0 hj
  have hz : ¬ nI h = 0 := by rw [ti_eq, ti_nI (by omega), tl0]; omega
  unfold crS eS
  simp (disch := decide) only [ub_same, ub_ne, mx_in hi]
  refine ⟨h0, h1, h2, h3, h4, h5, h6, h7, h8, h9, ?_⟩
  unfold crA crB eC eH
  rw [hc.elv hw hi, h12]
  by_cases g : σ 11 i = 0
  · have g2 : σ 10 i < lv c (σ 0) i := by
      have := hl i hi
      unfold nn at this
      rw [h10 g, ti_lt, tlm1]; omega
    rw [if_pos g2, if_pos g2, if_pos (Or.inl g), if_pos (Or.inl g)]
    exact ⟨fun x => absurd x hz, fun _ => rfl, rfl⟩
  · rw [h11 g]
    by_cases g2 : σ 10 i < lv c (σ 0) i
    · rw [if_pos g2, if_pos g2, if_pos (Or.inr g2), if_pos (Or.inr g2)]
      exact ⟨fun x => absurd x hz, fun _ => rfl, rfl⟩
    · rw [if_neg g2, if_neg g2, if_neg (not_or.mpr ⟨g, g2⟩), if_neg (not_or.mpr ⟨g, g2⟩)]
      exact ⟨fun x => absurd x g, fun _ => rfl, rfl⟩
theorem eM_hm {R c d σ μ m} {h : Nat} (hc : CE R c d) (hr : Rel R σ μ) (hh : h < 397) : ∀ i, i ≤ R → R ≤ 24 → eM d h μ i m 289 = hmS c σ i (m 289) := by
  have hw : ∀ j, j < R → μ 0 j = σ 0 j := fun j hj => hr.w0 hj
  intro i
  induction i with
  | zero => intro _ _; rfl
  | succ i ih =>
    intro hi h24
    obtain ⟨h0, h1, h2, h3, h4, h5, h6, h7, h8, h9, h10, h11, h12⟩ := hr i hi
    have e1 : eM1 d μ i (eM d h μ i m) 289 = hmS c σ (i + 1) (m 289) := by
      unfold eM1 hmS
      rw [hc 7 i (by omega) hi, h5, hc.elv hw hi, h6, ih (by omega) h24]
      by_cases g : c 7 i + σ 6 i < lv c (σ 0) i
      · rw [if_pos g, if_pos g, ub_same]
      · rw [if_neg g, if_neg g, ih (by omega) h24]
    show (if 0 ≤ d 9 i ∧ μ 1 i < 30 then ub (ub (eM1 d μ i (eM d h μ i m)) (618 + 397 * i + h) (lv d (μ 0) i)) (10146 + 397 * i + h) (nI h + d 9 i) else eM1 d μ i (eM d h μ i m)) 289 = _
    by_cases g : 0 ≤ d 9 i ∧ μ 1 i < 30
    · rw [if_pos g, ub_ne (beq_f (by omega)), ub_ne (beq_f (by omega)), e1]
    · rw [if_neg g, e1]
