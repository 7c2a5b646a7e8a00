/-! what stays true of a State's numbers -/
def Sm (f : Nat → Int32) : Nat → Int
  | 0 => 0
  | n + 1 => Sm f n + (f n).toInt
theorem Sm_nn {f : Nat → Int32} {n : Nat} (h : ∀ i, i < n → nn (f i)) : 0 ≤ Sm f n := by
  induction n with
  | zero => exact Int.le_refl _
  | succ n ih =>
    have h1 := ih (fun i hi => h i (by omega))
    have h2 := h n (by omega)
    unfold nn at h2; unfold Sm; omega
theorem Sm_le {f : Nat → Int32} {n : Nat} (h : ∀ i, i < n → nn (f i)) {i : Nat} (hi : i < n) : (f i).toInt ≤ Sm f n := by
  induction n with
  | zero => omega
  | succ n ih =>
    have h0 := Sm_nn (f := f) (n := n) (fun i hi => h i (by omega))
    have h2 := h n (by omega)
    unfold nn at h2; unfold Sm
    by_cases g : i = n
    · subst g; omega
    · have := ih (fun i hi => h i (by omega)) (by omega); omega
theorem Sm_cong {f f' : Nat → Int32} {n : Nat} (h : ∀ i, i < n → f' i = f i) : Sm f' n = Sm f n := by
  induction n with
  | zero => rfl
  | succ n ih => unfold Sm; rw [ih (fun i hi => h i (by omega)), h n (by omega)]
theorem Sm_mx {F o : Nat → Int32} {n : Nat} : Sm (mx n F o) n = Sm F n := Sm_cong fun i hi => mx_in hi
def CK (c : Nat → Nat → Int32) (se : Int32) (R : Nat) : Prop := 2 ≤ R ∧ R ≤ 24 ∧ (0 ≤ se.toInt ∧ se.toInt ≤ 4000) ∧ ∀ i, i < R →
  (0 ≤ (c 0 i).toInt ∧ (c 0 i).toInt ≤ 4) ∧ (0 ≤ (c 1 i).toInt ∧ (c 1 i).toInt ≤ 2300) ∧ (1 ≤ (c 2 i).toInt ∧ (c 2 i).toInt ≤ 100) ∧ (1 ≤ (c 3 i).toInt ∧ (c 3 i).toInt ≤ 100) ∧
  (0 ≤ (c 4 i).toInt ∧ (c 4 i).toInt ≤ 200000) ∧ (0 ≤ (c 5 i).toInt ∧ (c 5 i).toInt ≤ 200) ∧ (0 ≤ (c 6 i).toInt ∧ (c 6 i).toInt ≤ 9999) ∧ (0 ≤ (c 7 i).toInt ∧ (c 7 i).toInt ≤ 4000) ∧ (0 ≤ (c 8 i).toInt ∧ (c 8 i).toInt ≤ 100000) ∧ (-1 ≤ (c 9 i).toInt ∧ (c 9 i).toInt ≤ 6)
def OkP (σ : Nat → Nat → Int32) (i : Nat) : Prop := nn (σ 0 i) ∧ (0 ≤ (σ 1 i).toInt ∧ (σ 1 i).toInt ≤ 200) ∧ nn (σ 3 i) ∧ nn (σ 4 i) ∧ nn (σ 5 i) ∧ (0 ≤ (σ 6 i).toInt ∧ (σ 6 i).toInt ≤ 100) ∧ (0 ≤ (σ 7 i).toInt ∧ (σ 7 i).toInt ≤ 9999) ∧ nn (σ 8 i)
def Ok (c : Nat → Nat → Int32) (R : Nat) (W I : Int) (σ : Nat → Nat → Int32) : Prop := (∀ i, i < R → OkP σ i) ∧ shOK c R σ ∧ Sm (σ 0) R ≤ W ∧ Sm (σ 1) R + Sm (σ 3) R + Sm (σ 4) R ≤ I
theorem Ok.wa {c R W I σ} (h : Ok c R W I σ) {i} (hi : i < R) : 0 ≤ (σ 0 i).toInt ∧ (σ 0 i).toInt ≤ W :=
  ⟨(h.1 i hi).1, Int.le_trans (Sm_le (fun j hj => (h.1 j hj).1) hi) h.2.2.1⟩
theorem Ok.ice {c R W I σ} (h : Ok c R W I σ) {i} (hi : i < R) : 0 ≤ (σ 3 i).toInt ∧ (σ 3 i).toInt ≤ I ∧ 0 ≤ (σ 4 i).toInt ∧ (σ 4 i).toInt ≤ I := by
  have h1 := Sm_le (f := σ 3) (n := R) (fun j hj => (h.1 j hj).2.2.1) hi
  have h2 := Sm_le (f := σ 4) (n := R) (fun j hj => (h.1 j hj).2.2.2.1) hi
  have h3 := Sm_nn (f := σ 1) (n := R) (fun j hj => (h.1 j hj).2.1.1)
  have h4 := Sm_nn (f := σ 3) (n := R) (fun j hj => (h.1 j hj).2.2.1)
  have h5 := Sm_nn (f := σ 4) (n := R) (fun j hj => (h.1 j hj).2.2.2.1)
  have h6 := h.2.2.2
  have h7 := (h.1 i hi).2.2.1
  have h8 := (h.1 i hi).2.2.2.1
  unfold nn at h7 h8
  omega
theorem lv_b {c se R W} {wa : Nat → Int32} {i : Nat} (hc : CK c se R) (hi : i < R) (h0 : 0 ≤ (wa i).toInt) (h1 : (wa i).toInt ≤ W) (hW : W ≤ 8900000) : 0 ≤ (lv c wa i).toInt ∧ (lv c wa i).toInt ≤ 2300 + W := by
  obtain ⟨_, _, _, hc⟩ := hc
  obtain ⟨k0, k1, k2, k3, _⟩ := hc i hi
  have e : (wa i / c 2 i).toInt = (wa i).toInt / (c 2 i).toInt := ti_div h0 (by omega)
  have e1 : 0 ≤ (wa i).toInt / (c 2 i).toInt := Int.ediv_nonneg h0 (by omega)
  have e2 : (wa i).toInt / (c 2 i).toInt ≤ (wa i).toInt := Int.ediv_le_self _ h0
  unfold lv
  rw [ti_add (by rw [e]; omega) (by rw [e]; omega), e]
  omega
theorem lx_b {c se R W} {wa : Nat → Int32} {i : Nat} (hc : CK c se R) (h0 : ∀ i, i < R → 0 ≤ (wa i).toInt ∧ (wa i).toInt ≤ W) (hW0 : 0 ≤ W) (hW : W ≤ 8900000) : 0 ≤ (lx c se R wa i).toInt ∧ (lx c se R wa i).toInt ≤ 4000 + W := by
  unfold lx
  by_cases hi : i < R
  · rw [if_pos hi]; have := lv_b hc hi (h0 i hi).1 (h0 i hi).2 hW; omega
  · rw [if_neg hi]; have := hc.2.2.1; omega
theorem brk_b {c R W I σ} (h : Ok c R W I σ) (hI : I ≤ 2100000) {i} (hi : i < R) : 10 ≤ (brk σ i).toInt := by
  have h1 := h.ice hi
  have e0 : (10 + σ 4 i).toInt = 10 + (σ 4 i).toInt := by rw [ti_add (by rw [tl10]; omega) (by rw [tl10]; omega), tl10]
  unfold brk
  by_cases g : 0 < σ 1 i
  · rw [if_pos g, ti_add (by rw [e0, tl20]; omega) (by rw [e0, tl20]; omega), e0, tl20]; omega
  · rw [if_neg g, ti_add (by rw [e0, tl0]; omega) (by rw [e0, tl0]; omega), e0, tl0]; omega
theorem brk_0 {c R W I σ} (h : Ok c R W I σ) (hI : I ≤ 2100000) {i} (hi : i < R) : ¬ brk σ i = 0 := by
  have := brk_b h hI hi
  intro hz; rw [hz, tl0] at this; omega
theorem FL_b {c se R W I σ} (hc : CK c se R) (h : Ok c R W I σ) (hW0 : 0 ≤ W) (hW : W ≤ 8900000) (hI : I ≤ 2100000) {i} (hi : i < R) : 0 ≤ (FL c se R σ i).toInt ∧ (FL c se R σ i).toInt ≤ (σ 0 i).toInt := by
  have hw := h.wa hi
  unfold FL
  by_cases g : lx c se R (σ 0) i - lx c se R (σ 0) (i + 1) ≤ 0 ∨ σ 9 i = 1
  · rw [if_pos g, tl0]; omega
  · rw [if_neg g]
    have g1 : 0 < lx c se R (σ 0) i - lx c se R (σ 0) (i + 1) := Int32.not_le.mp (not_or.mp g).1
    have b1 := lx_b (wa := σ 0) (i := i) hc (fun j hj => h.wa hj) hW0 hW
    have b2 := lx_b (wa := σ 0) (i := i + 1) hc (fun j hj => h.wa hj) hW0 hW
    have e1 : (lx c se R (σ 0) i - lx c se R (σ 0) (i + 1)).toInt = (lx c se R (σ 0) i).toInt - (lx c se R (σ 0) (i + 1)).toInt := ti_sub (by omega) (by omega)
    rw [ti_lt, tl0] at g1
    generalize lx c se R (σ 0) i - lx c se R (σ 0) (i + 1) = f at *
    have k3 := (hc.2.2.2 i hi).2.2.2.1
    have b3 : f.toInt ≤ 8904000 := by omega
    have m1 : 0 ≤ f.toInt * (c 3 i).toInt := Int.mul_nonneg (by omega) (by omega)
    have m2 : f.toInt * (c 3 i).toInt ≤ 8904000 * 100 := Int.mul_le_mul b3 k3.2 (by omega) (by omega)
    have e2 : (f * c 3 i).toInt = f.toInt * (c 3 i).toInt := ti_mul (by omega) (by omega)
    have b4 := brk_b h hI hi
    have n1 : nn (f * c 3 i / brk σ i) := div_nn (by unfold nn; omega) (by omega)
    have n2 : nn (jmin (σ 0 i) (f * c 3 i / brk σ i)) := jmin_nn (h.1 i hi).1 n1
    refine ⟨n2, ?_⟩
    unfold jmin
    by_cases g2 : f * c 3 i / brk σ i < σ 0 i
    · rw [if_pos g2]; rw [ti_lt] at g2; omega
    · rw [if_neg g2]; exact Int.le_refl _
theorem flW_e {c se R W I σ} (hc : CK c se R) (h : Ok c R W I σ) (hW0 : 0 ≤ W) (hW : W ≤ 8900000) (hI : I ≤ 2100000) {i} (hi : i < R) :
    (flW c se R σ i).toInt = (if 0 < i then (σ 0 i).toInt + (FL c se R σ (i - 1)).toInt else (σ 0 i).toInt) - (FL c se R σ i).toInt := by
  have f1 := FL_b hc h hW0 hW hI hi
  have w1 := h.wa hi
  unfold flW
  by_cases g : 0 < i
  · have hj : i - 1 < R := by omega
    have f2 := FL_b hc h hW0 hW hI hj
    have w2 := h.wa hj
    rw [if_pos g, if_pos g]
    have e1 : (σ 0 i + FL c se R σ (i - 1)).toInt = (σ 0 i).toInt + (FL c se R σ (i - 1)).toInt := ti_add (by omega) (by omega)
    rw [ti_sub (by rw [e1]; omega) (by rw [e1]; omega), e1]
  · rw [if_neg g, if_neg g, ti_sub (by omega) (by omega)]
theorem flW_s {c se R W I σ} (hc : CK c se R) (h : Ok c R W I σ) (hW0 : 0 ≤ W) (hW : W ≤ 8900000) (hI : I ≤ 2100000) : ∀ n, n ≤ R →
    Sm (flW c se R σ) n + (if 0 < n then (FL c se R σ (n - 1)).toInt else 0) = Sm (σ 0) n := by
  intro n
  induction n with
  | zero => intro _; rfl
  | succ n ih =>
    intro hn
    have i1 := ih (by omega)
    rw [if_pos (Nat.succ_pos _), show n + 1 - 1 = n from rfl]
    unfold Sm
    rw [flW_e hc h hW0 hW hI (show n < R by omega)]
    by_cases g : 0 < n
    · rw [if_pos g] at i1 ⊢; omega
    · rw [if_neg g] at i1 ⊢; omega
theorem ok_flow {c se R W I σ} (hc : CK c se R) (h : Ok c R W I σ) (hW0 : 0 ≤ W) (hW : W ≤ 8900000) (hI : I ≤ 2100000) : Ok c R W I (flowS c se R σ) := by
  refine ⟨fun i hi => ?_, fun i hi => ?_, ?_, ?_⟩
  · obtain ⟨o0, o1, o3, o4, o5, o6, o7, o8⟩ := h.1 i hi
    unfold OkP flowS
    simp (disch := decide) only [ub_same, ub_ne, mx_in hi]
    refine ⟨?_, o1, o3, o4, (FL_b hc h hW0 hW hI hi).1, o6, o7, o8⟩
    unfold nn
    rw [flW_e hc h hW0 hW hI hi]
    have f1 := FL_b hc h hW0 hW hI hi
    by_cases g : 0 < i
    · have f2 := FL_b hc h hW0 hW hI (show i - 1 < R by omega)
      rw [if_pos g]; omega
    · rw [if_neg g]; omega
  · unfold flowS
    simp (disch := decide) only [ub_same, ub_ne]
    exact h.2.1 i hi
  · unfold flowS
    simp (disch := decide) only [ub_same, ub_ne]
    rw [Sm_mx]
    have h1 := flW_s hc h hW0 hW hI R (Nat.le_refl _)
    have h2 := hc.1
    have f1 := FL_b hc h hW0 hW hI (show R - 1 < R by omega)
    rw [if_pos (by omega)] at h1
    have := h.2.2.1
    omega
  · unfold flowS
    simp (disch := decide) only [ub_same, ub_ne]
    exact h.2.2.2
theorem Sm3 {σ σ' : Nat → Nat → Int32} {d : Int} {n : Nat} (h : ∀ i, i < n → (σ' 1 i).toInt + (σ' 3 i).toInt + (σ' 4 i).toInt ≤ (σ 1 i).toInt + (σ 3 i).toInt + (σ 4 i).toInt + d) :
    Sm (σ' 1) n + Sm (σ' 3) n + Sm (σ' 4) n ≤ Sm (σ 1) n + Sm (σ 3) n + Sm (σ 4) n + d * n := by
  induction n with
  | zero => simp [Sm]
  | succ n ih =>
    have h1 := ih (fun i hi => h i (by omega))
    have h2 := h n (by omega)
    have h3 : d * ((n + 1 : Nat) : Int) = d * n + d := by rw [Int.natCast_succ, Int.mul_add, Int.mul_one]
    unfold Sm
    rw [h3]; omega
theorem ok_fr {c se R W I t σ} (hc : CK c se R) (h : Ok c R W I σ) (ht : -30 ≤ t.toInt ∧ t.toInt ≤ 30) : Ok c R W (I + 4800) (frC c R t σ) := by
  have key : ∀ i, i < R → (frC c R t σ 0 i = σ 0 i ∧ frC c R t σ 3 i = σ 3 i ∧ frC c R t σ 4 i = σ 4 i ∧ frC c R t σ 5 i = σ 5 i ∧ frC c R t σ 6 i = σ 6 i ∧ frC c R t σ 7 i = σ 7 i ∧ frC c R t σ 8 i = σ 8 i ∧ frC c R t σ 9 i = σ 9 i) ∧ 0 ≤ (frC c R t σ 1 i).toInt ∧ (frC c R t σ 1 i).toInt ≤ 200 := by
    intro i hi
    obtain ⟨o0, ⟨s0, s1⟩, o3, o4, o5, o6, o7, o8⟩ := h.1 i hi
    unfold frC
    by_cases ng : t < 0
    · rw [if_pos ng]
      unfold frS
      simp (disch := decide) only [ub_same, ub_ne, mx_in hi]
      refine ⟨by simp, ?_⟩
      rw [ti_lt, tl0] at ng
      have q1 : (σ 1 i / 10).toInt = (σ 1 i).toInt / 10 := ti_div (b := 10) s0 (by decide)
      have q2 : (5 + σ 1 i / 10).toInt = 5 + (σ 1 i).toInt / 10 := by
        rw [ti_add (by rw [q1, tl5]; omega) (by rw [q1, tl5]; omega), q1, tl5]
      have q3 : (-t).toInt = - t.toInt := ti_neg (by omega)
      have q4 : (-t / (5 + σ 1 i / 10)).toInt = (- t.toInt) / (5 + (σ 1 i).toInt / 10) := by
        rw [ti_div (by omega) (by omega), q3, q2]
      have q5 : 0 ≤ (- t.toInt) / (5 + (σ 1 i).toInt / 10) := Int.ediv_nonneg (by omega) (by omega)
      have q6 : (- t.toInt) / (5 + (σ 1 i).toInt / 10) ≤ - t.toInt := Int.ediv_le_self _ (by omega)
      have q7 : (σ 1 i + -t / (5 + σ 1 i / 10)).toInt = (σ 1 i).toInt + (- t.toInt) / (5 + (σ 1 i).toInt / 10) := by
        rw [ti_add (by rw [q4]; omega) (by rw [q4]; omega), q4]
      unfold frA jmin
      by_cases g : σ 3 i = 0 ∧ σ 4 i = 0
      · rw [if_pos g]
        by_cases g1 : σ 1 i + -t / (5 + σ 1 i / 10) < 200
        · rw [if_pos g1]; rw [ti_lt, tl200] at g1; omega
        · rw [if_neg g1, tl200]; omega
      · rw [if_neg g]; omega
    · rw [if_neg ng]
      unfold meS
      simp (disch := decide) only [ub_same, ub_ne, mx_in hi]
      refine ⟨by simp, ?_⟩
      rw [ti_lt, tl0] at ng
      have q3 : (t / 4).toInt = t.toInt / 4 := ti_div (b := 4) (by omega) (by decide)
      have q4 : (σ 1 i - t / 4).toInt = (σ 1 i).toInt - t.toInt / 4 := by rw [ti_sub (by rw [q3]; omega) (by rw [q3]; omega), q3]
      unfold meA jmax
      by_cases g1 : 0 < σ 1 i - t / 4
      · rw [if_pos g1]; rw [ti_lt, tl0] at g1; omega
      · rw [if_neg g1, tl0]; omega
  refine ⟨fun i hi => ?_, fun i hi => ?_, ?_, ?_⟩
  · obtain ⟨o0, o1, o3, o4, o5, o6, o7, o8⟩ := h.1 i hi
    obtain ⟨⟨k0, k3, k4, k5, k6, k7, k8, k9⟩, k1⟩ := key i hi
    unfold OkP
    rw [k0, k3, k4, k5, k6, k7, k8]
    exact ⟨o0, k1, o3, o4, o5, o6, o7, o8⟩
  · rw [(key i hi).1.2.2.2.2.2.2.2]; exact h.2.1 i hi
  · rw [Sm_cong (fun i hi => (key i hi).1.1)]; exact h.2.2.1
  · have h1 := Sm3 (σ := σ) (σ' := frC c R t σ) (d := 200) (n := R) (fun i hi => by
      obtain ⟨⟨k0, k3, k4, k5, k6, k7, k8, k9⟩, k1⟩ := key i hi
      have := (h.1 i hi).2.1
      rw [k3, k4]; omega)
    have h2 := h.2.2.2
    have h3 := hc.2.1
    omega
theorem ok_br {c R W I σ} (h : Ok c R W I σ) (hI : I ≤ 2100000) : Ok c R W I (brS c R σ) := by
  have key : ∀ i, i < R → ((brS c R σ 1 i).toInt + (brS c R σ 3 i).toInt = (σ 1 i).toInt + (σ 3 i).toInt) ∧ (0 ≤ (brS c R σ 1 i).toInt ∧ (brS c R σ 1 i).toInt ≤ 200) ∧ 0 ≤ (brS c R σ 3 i).toInt := by
    intro i hi
    obtain ⟨o0, ⟨s0, s1⟩, o3, o4, o5, o6, o7, o8⟩ := h.1 i hi
    have hh := h.ice hi
    unfold brS
    simp (disch := decide) only [ub_same, ub_ne, mx_in hi]
    unfold brA brB
    by_cases g : 0 < σ 1 i ∧ ¬ c 0 i = 4 ∧ σ 2 i + 10 + σ 1 i ≤ lv c (σ 0) i
    · rw [if_pos g, if_pos g, ti_add (by omega) (by omega), tl0]; omega
    · rw [if_neg g, if_neg g]; omega
  have r4 : brS c R σ 4 = σ 4 := rfl
  refine ⟨fun i hi => ?_, fun i hi => ?_, ?_, ?_⟩
  · obtain ⟨o0, o1, o3, o4, o5, o6, o7, o8⟩ := h.1 i hi
    obtain ⟨k0, k1, k3⟩ := key i hi
    exact ⟨o0, k1, k3, o4, o5, o6, o7, o8⟩
  · exact h.2.1 i hi
  · exact h.2.2.1
  · have h1 := Sm3 (σ := σ) (σ' := brS c R σ) (d := 0) (n := R) (fun i hi => by
      obtain ⟨k0, k1, k3⟩ := key i hi
      rw [r4]; omega)
    have h2 := h.2.2.2
    omega
theorem mpa_nn {c R σ i} : nn (mpa c R σ i) := by
  unfold mpa
  by_cases g : (i + 1 < R ∧ 0 < σ 1 (i + 1)) ∨ σ 9 i = 1
  · rw [if_pos g]; exact nn0
  · rw [if_neg g]; unfold nn mfl
    generalize (c 0 i).toNatClampNeg = n
    match n with
    | 0 => decide
    | 1 => decide
    | 2 => decide
    | _ + 3 => show (0 : Int) ≤ (30 : Int32).toInt; decide
theorem mov_b {c R W I σ} (h : Ok c R W I σ) {i} (hi : i < R) : 0 ≤ (mov c σ i).toInt ∧ (mov c σ i).toInt ≤ (σ 3 i).toInt ∧ 0 ≤ (pas c R σ i).toInt ∧ (pas c R σ i).toInt ≤ (mov c σ i).toInt := by
  obtain ⟨o0, ⟨s0, s1⟩, o3, o4, o5, o6, o7, o8⟩ := h.1 i hi
  have m := mov_nn (c := c) o3 o5
  have p : nn (pas c R σ i) := by
    unfold pas
    by_cases g : c 0 i = 4
    · rw [if_pos g]; exact nn0
    · rw [if_neg g]; exact jmin_nn m mpa_nn
  refine ⟨m, ?_, p, ?_⟩
  · unfold mov
    by_cases g : c 0 i = 4
    · rw [if_pos g]; exact o3
    · rw [if_neg g]; unfold jmin
      by_cases g1 : σ 5 i / 5 < σ 3 i
      · rw [if_pos g1]; rw [ti_lt] at g1; omega
      · rw [if_neg g1]; exact Int.le_refl _
  · unfold pas
    by_cases g : c 0 i = 4
    · rw [if_pos g]; exact m
    · rw [if_neg g]; generalize mov c σ i = a at *; unfold jmin
      by_cases g1 : mpa c R σ i < a
      · rw [if_pos g1]; rw [ti_lt] at g1; omega
      · rw [if_neg g1]; exact Int.le_refl _
theorem dr_e {c R W I σ} (h : Ok c R W I σ) (hI : I ≤ 2100000) {i} (hi : i < R) :
    (drF c R σ i).toInt = (σ 3 i).toInt - (mov c σ i).toInt + (if 0 < i then (pas c R σ (i - 1)).toInt else 0) ∧ (drJ c R σ i).toInt = (σ 4 i).toInt + ((mov c σ i).toInt - (pas c R σ i).toInt) := by
  have m := mov_b h hi
  have ic := h.ice hi
  have e1 : (σ 3 i - mov c σ i).toInt = (σ 3 i).toInt - (mov c σ i).toInt := ti_sub (by omega) (by omega)
  have e2 : (mov c σ i - pas c R σ i).toInt = (mov c σ i).toInt - (pas c R σ i).toInt := ti_sub (by omega) (by omega)
  refine ⟨?_, ?_⟩
  · unfold drF
    by_cases g : 0 < i
    · have m2 := mov_b h (show i - 1 < R by omega)
      have ic2 := h.ice (show i - 1 < R by omega)
      rw [if_pos g, if_pos g, ti_add (by rw [e1]; omega) (by rw [e1]; omega), e1]
    · rw [if_neg g, if_neg g, e1]; omega
  · unfold drJ
    rw [ti_add (by rw [e2]; omega) (by rw [e2]; omega), e2]
theorem dr_s {c R W I σ} (h : Ok c R W I σ) (hI : I ≤ 2100000) : ∀ n, n ≤ R →
    Sm (drF c R σ) n + Sm (drJ c R σ) n + (if 0 < n then (pas c R σ (n - 1)).toInt else 0) = Sm (σ 3) n + Sm (σ 4) n := by
  intro n
  induction n with
  | zero => intro _; rfl
  | succ n ih =>
    intro hn
    have i1 := ih (by omega)
    obtain ⟨e1, e2⟩ := dr_e h hI (show n < R by omega)
    rw [if_pos (Nat.succ_pos _), show n + 1 - 1 = n from rfl]
    unfold Sm
    omega
theorem ok_dr {c R W I σ} (h : Ok c R W I σ) (hI : I ≤ 2100000) (hR : 2 ≤ R) : Ok c R W I (drS c R σ) := by
  refine ⟨fun i hi => ?_, fun i hi => h.2.1 i hi, h.2.2.1, ?_⟩
  · obtain ⟨o0, o1, o3, o4, o5, o6, o7, o8⟩ := h.1 i hi
    unfold OkP drS
    simp (disch := decide) only [ub_same, ub_ne, mx_in hi]
    obtain ⟨e1, e2⟩ := dr_e h hI hi
    have m := mov_b h hi
    unfold nn at *
    refine ⟨o0, o1, ?_, ?_, o5, o6, o7, o8⟩
    · rw [e1]
      by_cases g : 0 < i
      · have m2 := mov_b h (show i - 1 < R by omega)
        rw [if_pos g]; omega
      · rw [if_neg g]; omega
    · rw [e2]; omega
  · unfold drS
    simp (disch := decide) only [ub_same, ub_ne]
    rw [Sm_mx, Sm_mx]
    have h1 := dr_s h hI R (Nat.le_refl _)
    have m := mov_b h (show R - 1 < R by omega)
    rw [if_pos (by omega)] at h1
    have := h.2.2.2
    omega
theorem jg_e {c se R W I t σ} (h : Ok c R W I σ) (hI : I ≤ 2100000) {i} (hi : i < R) :
    (jgF c se R t σ i).toInt = (σ 3 i).toInt + (if 0 < i ∧ goJ c se R t σ (i - 1) = true then (σ 4 (i - 1)).toInt else 0) ∧ (jgJ c se R t σ i).toInt = (σ 4 i).toInt - (if goJ c se R t σ i = true then (σ 4 i).toInt else 0) := by
  have ic := h.ice hi
  refine ⟨?_, ?_⟩
  · unfold jgF
    by_cases g : 0 < i ∧ goJ c se R t σ (i - 1) = true
    · have ic2 := h.ice (show i - 1 < R by omega)
      rw [if_pos g, if_pos g, ti_add (by omega) (by omega)]
    · rw [if_neg g, if_neg g]; omega
  · unfold jgJ
    by_cases g : goJ c se R t σ i = true
    · rw [if_pos g, if_pos g, tl0]; omega
    · rw [if_neg g, if_neg g]; omega
theorem jg_s {c se R W I t σ} (h : Ok c R W I σ) (hI : I ≤ 2100000) : ∀ n, n ≤ R →
    Sm (jgF c se R t σ) n + Sm (jgJ c se R t σ) n + (if 0 < n ∧ goJ c se R t σ (n - 1) = true then (σ 4 (n - 1)).toInt else 0) = Sm (σ 3) n + Sm (σ 4) n := by
  intro n
  induction n with
  | zero => intro _; rfl
  | succ n ih =>
    intro hn
    have i1 := ih (by omega)
    obtain ⟨e1, e2⟩ := jg_e (se := se) (t := t) h hI (show n < R by omega)
    rw [show n + 1 - 1 = n from rfl]
    unfold Sm
    by_cases g : goJ c se R t σ n = true
    · rw [if_pos g] at e2
      rw [if_pos ⟨Nat.succ_pos _, g⟩]; omega
    · rw [if_neg g] at e2
      rw [if_neg (fun x => g x.2)]; omega
theorem ok_jg {c se R W I t σ} (h : Ok c R W I σ) (hI : I ≤ 2100000) (hR : 2 ≤ R) : Ok c R W I (jgS c se R t σ) := by
  refine ⟨fun i hi => ?_, fun i hi => h.2.1 i hi, h.2.2.1, ?_⟩
  · obtain ⟨o0, o1, o3, o4, o5, o6, o7, o8⟩ := h.1 i hi
    unfold OkP jgS
    simp (disch := decide) only [ub_same, ub_ne, mx_in hi]
    obtain ⟨e1, e2⟩ := jg_e (se := se) (t := t) h hI hi
    unfold nn at *
    refine ⟨o0, o1, ?_, ?_, o5, o6, o7, o8⟩
    · rw [e1]
      by_cases g : 0 < i ∧ goJ c se R t σ (i - 1) = true
      · have m2 := h.ice (show i - 1 < R by omega)
        rw [if_pos g]; omega
      · rw [if_neg g]; omega
    · rw [e2]
      by_cases g : goJ c se R t σ i = true
      · rw [if_pos g]; omega
      · rw [if_neg g]; omega
  · unfold jgS
    simp (disch := decide) only [ub_same, ub_ne]
    rw [Sm_mx, Sm_mx]
    have h1 := jg_s (se := se) (t := t) h hI R (Nat.le_refl _)
    have h2 := h.2.2.2
    by_cases g : 0 < R ∧ goJ c se R t σ (R - 1) = true
    · have ic := h.ice (show R - 1 < R by omega)
      rw [if_pos g] at h1; omega
    · rw [if_neg g] at h1; omega
theorem ok_cr {c R W I h σ} (ho : Ok c R W I σ) : Ok c R W I (crS c R h σ) := ⟨fun i hi => ho.1 i hi, fun i hi => ho.2.1 i hi, ho.2.2.1, ho.2.2.2⟩
