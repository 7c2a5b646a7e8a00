/-! readings and MENDS -/
abbrev M4 : Type := Nat × Nat × Int32 × Nat
def cu (rl : Nat → Nat → Int32) (rf : Nat → Nat → Nat) : List M4 → Nat → Nat → Int32 × Nat
  | [], i, h => (rl i h, rf i h)
  | x :: l, i, h => if x.1 = i ∧ x.2.1 = h then x.2.2 else cu rl rf l i h
def kn (rl : Nat → Nat → Int32) (rf : Nat → Nat → Nat) (at' : Int) : List M4 → Nat → Nat → Int32
  | [], i, h => if 0 < rf i h ∧ (rf i h : Int) ≤ at' then rl i h else -1
  | x :: l, i, h => if (x.1 = i ∧ x.2.1 = h) ∧ (x.2.2.2 : Int) ≤ at' then x.2.2.1 else kn rl rf at' l i h
def nw (rl : Nat → Nat → Int32) (rf : Nat → Nat → Nat) (M : List M4) (i : Nat) : Nat → Nat
  | 0 => 0
  | h + 1 => if 0 < (cu rl rf M i (h + 1)).2 then h + 1 else nw rl rf M i h
def ne (rl : Nat → Nat → Int32) (rf : Nat → Nat → Nat) (at' : Int) (M : List M4) (i : Nat) : Nat → Nat
  | 0 => 0
  | h + 1 => if 0 ≤ (kn rl rf at' M i (h + 1)).toInt then h + 1 else ne rl rf at' M i h
/-- what holds of readings themselves -/
def BO (R hr : Nat) (rl : Nat → Nat → Int32) (rf : Nat → Nat → Nat) (M : List M4) : Prop :=
  M.length ≤ 40 ∧ (∀ x, x ∈ M → x.1 < R ∧ 1 ≤ x.2.1 ∧ x.2.1 ≤ hr ∧ 0 < x.2.2.2 ∧ x.2.2.2 ≤ hr + 1 ∧ nn x.2.2.1) ∧
  ∀ i h, i < R → 0 < rf i h → 1 ≤ h ∧ h ≤ hr ∧ h < rf i h ∧ rf i h ≤ h + 6 ∧ nn (rl i h)
def UL (rl : Nat → Nat → Int32) (rf : Nat → Nat → Nat) (pl ol fl : Nat → Int32) : List M4 → Prop
  | [] => True
  | x :: l => pl l.length = nI (x.2.1 * 24 + x.1) ∧ ol l.length = (cu rl rf l x.1 x.2.1).1 ∧ fl l.length = nI (cu rl rf l x.1 x.2.1).2 ∧ UL rl rf pl ol fl l
def BK (w : PW) (b R hr : Nat) (rl : Nat → Nat → Int32) (rf : Nat → Nat → Nat) (M : List M4) : Prop :=
  gI w (b, 62) 6 = nI M.length ∧ UL rl rf (gI w (b, 66)) (gI w (b, 67)) (gI w (b, 68)) M ∧
  (∀ i h, i < R → 1 ≤ h → h ≤ hr → gI w (b, 63) (h * 24 + i) = (cu rl rf M i h).1 ∧ gI w (b, 64) (h * 24 + i) = nI (cu rl rf M i h).2) ∧
  (∀ i h, (i < R ∨ (i < 24 ∧ h = 0)) → h ≤ hr → gI w (b, 65) (h * 24 + i) = nI (nw rl rf M i h))
def BL (b hr : Nat) : Prop := ∃ n, len b 63 = n ∧ len b 64 = n ∧ len b 65 = n ∧ (hr + 1) * 24 ≤ n ∧ n < 100000
theorem cu_le {R hr rl rf M i h} (hb : BO R hr rl rf M) (hi : i < R) (hh : h ≤ hr) : ∀ l, (∀ x, x ∈ l → x ∈ M) → (cu rl rf l i h).2 ≤ hr + 6 := by
  intro l
  induction l with
  | nil =>
    intro _
    show rf i h ≤ _
    by_cases g : 0 < rf i h
    · have := hb.2.2 i h hi g; omega
    · omega
  | cons x l ih =>
    intro hl
    unfold cu
    by_cases g : x.1 = i ∧ x.2.1 = h
    · rw [if_pos g]; have := hb.2.1 x (hl x (List.mem_cons_self ..)); omega
    · rw [if_neg g]; exact ih (fun y hy => hl y (List.mem_cons_of_mem _ hy))
theorem kn_cu {R hr rl rf M i h} {at' : Int} (hb : BO R hr rl rf M) : ∀ l, (∀ x, x ∈ l → x ∈ M) → ((cu rl rf l i h).2 : Int) ≤ at' → kn rl rf at' l i h = if 0 < (cu rl rf l i h).2 then (cu rl rf l i h).1 else -1 := by
  intro l
  induction l with
  | nil =>
    intro _ hc
    have hc' : (rf i h : Int) ≤ at' := hc
    show (if 0 < rf i h ∧ (rf i h : Int) ≤ at' then rl i h else -1) = if 0 < rf i h then rl i h else -1
    by_cases g : 0 < rf i h
    · rw [if_pos ⟨g, hc'⟩, if_pos g]
    · rw [if_neg (fun x => g x.1), if_neg g]
  | cons x l ih =>
    intro hl hc
    unfold cu at hc ⊢
    unfold kn
    by_cases g : x.1 = i ∧ x.2.1 = h
    · rw [if_pos g] at hc ⊢
      have := hb.2.1 x (hl x (List.mem_cons_self ..))
      rw [if_pos ⟨g, hc⟩, if_pos this.2.2.2.1]
    · rw [if_neg g] at hc ⊢
      rw [if_neg (fun y => g y.1)]
      exact ih (fun y hy => hl y (List.mem_cons_of_mem _ hy)) hc
theorem ix_b {h i : Nat} : nI h * 24 + nI i = nI (h * 24 + i) := by rw [show (24 : Int32) = nI 24 from rfl, nI_ml, nI_ad]
theorem nI_inj {a b : Nat} (ha : a < 2147483648) (hb : b < 2147483648) : nI a = nI b ↔ a = b := by
  rw [ti_eq, ti_nI (by omega), ti_nI (by omega)]; omega
theorem le_nIt {n : Nat} {a : Int32} (h : n < 2147483648) : (nI n ≤ a) ↔ (n : Int) ≤ a.toInt := by rw [ti_le, ti_nI (by omega)]
theorem lt_nIt {n : Nat} {a : Int32} (h : n < 2147483648) : (a < nI n) ↔ a.toInt < (n : Int) := by rw [ti_lt, ti_nI (by omega)]
theorem nI_0p : nI 0 + (-1) = -1 := by decide
theorem c_lk_loop {w b R hr rl rf M k} {i h : Nat} {a : Int32} (hb : BO R hr rl rf M) (hi : i < R) (h24 : R ≤ 24) (hh1 : 1 ≤ h) (hh2 : h ≤ hr) (h4 : hr ≤ 400) :
    ∀ l, (∀ x, x ∈ l → x ∈ M) → l.length ≤ 40 → UL rl rf (gI w (b, 66)) (gI w (b, 67)) (gI w (b, 68)) l → k (kn rl rf a.toInt l i h) w →
    Wp 9 34 [some (.inr (.inr (b, 62))), none, none, some (.inl a), some (.inl (nI (h * 24 + i))), some (.inl (cu rl rf l i h).1), some (.inl (nI (cu rl rf l i h).2)), some (.inl (nI l.length + (-1)))] [] w (kI k) := by
  intro l
  have fin : ∀ l, (∀ x, x ∈ l → x ∈ M) → k (kn rl rf a.toInt l i h) w → (nI (cu rl rf l i h).2 ≤ a ∨ l = []) → (nI (cu rl rf l i h).2 ≤ 0 → kI k (.inl (-1)) w) ∧ (0 < nI (cu rl rf l i h).2 → (a < nI (cu rl rf l i h).2 → kI k (.inl (-1)) w) ∧ (nI (cu rl rf l i h).2 ≤ a → kI k (.inl (cu rl rf l i h).1) w)) := by
    intro l hl hk hor
    have bd := cu_le hb hi hh2 l hl
    have kk : (nI (cu rl rf l i h).2 ≤ a) → kn rl rf a.toInt l i h = if 0 < (cu rl rf l i h).2 then (cu rl rf l i h).1 else -1 := fun hle => kn_cu hb l hl ((le_nIt (by omega)).mp hle)
    rw [i_le0 (by omega), i_0lt (by omega)]
    refine ⟨fun g1 => ?_, fun g1 => ⟨fun g2 => ?_, fun g2 => ?_⟩⟩
    · show k _ _
      rcases hor with g | g
      · rw [kk g, if_neg (by omega)] at hk; exact hk
      · subst g
        rw [show kn rl rf a.toInt [] i h = -1 from if_neg (fun y => by have : (cu rl rf [] i h).2 = rf i h := rfl; omega)] at hk; exact hk
    · show k _ _
      rcases hor with g | g
      · exact absurd g (Int32.not_le.mpr g2)
      · subst g
        rw [lt_nIt (by omega)] at g2
        rw [show kn rl rf a.toInt [] i h = -1 from if_neg (fun y => by have : (cu rl rf [] i h).2 = rf i h := rfl; omega)] at hk; exact hk
    · show k _ _
      rw [kk g2, if_pos g1] at hk; exact hk
  induction l with
  | nil =>
    intro hl _ _ hk
    apply v_X1_levelKnown_34
    rw [show nI ([] : List M4).length + (-1) = -1 from nI_0p]
    simp (disch := first | decide | omega) only [cl_nI, in_T, le_nI, lt_nI, nI_s1, true_and, and_true, true_implies, false_implies, implies_true, Nat.le_refl, Nat.lt_irrefl, not_false_eq_true, not_true_eq_false, eq_self, i10, i_ten, i_fv, i_fr, i_m1, i_m1']
    exact fin [] hl hk (Or.inr rfl)
  | cons x l ih =>
    intro hl hlen hu hk
    rw [List.length_cons] at hlen
    obtain ⟨u1, u2, u3, u4⟩ := hu
    have hl' : ∀ y, y ∈ l → y ∈ M := fun y hy => hl y (List.mem_cons_of_mem _ hy)
    have hx := hb.2.1 x (hl x (List.mem_cons_self ..))
    have bd := cu_le hb hi hh2 (x :: l) hl
    apply v_X1_levelKnown_34
    rw [List.length_cons, nI_p1]
    simp (disch := first | decide | omega) only [cl_nI, in_T, le_nI, lt_nI, nI_s1, true_and, and_true, true_implies, false_implies, implies_true, Nat.le_refl, Nat.lt_irrefl, not_false_eq_true, not_true_eq_false, eq_self, i10, i_ten, i_fv, i_fr, nI_0le, nI_nlt0, show l.length < 40 by omega]
    refine ⟨fun g1 => fin (x :: l) hl hk (Or.inl g1), fun g1 => ?_⟩
    rw [u1, u2, u3, nI_inj (by omega) (by omega)]
    rw [lt_nIt (by omega)] at g1
    refine ⟨fun g2 => ?_, fun g2 => ?_⟩
    · have nm : ¬ (x.1 = i ∧ x.2.1 = h) := fun y => g2 (by omega)
      rw [show cu rl rf (x :: l) i h = cu rl rf l i h from if_neg nm]
      refine ih hl' (by omega) u4 ?_
      rw [show kn rl rf a.toInt (x :: l) i h = kn rl rf a.toInt l i h from if_neg (fun y => nm y.1)] at hk; exact hk
    · have mm : x.1 = i ∧ x.2.1 = h := by omega
      have e : cu rl rf (x :: l) i h = x.2.2 := if_pos mm
      rw [e] at g1
      rw [mm.1, mm.2]
      refine ih hl' (by omega) u4 ?_
      rw [show kn rl rf a.toInt (x :: l) i h = kn rl rf a.toInt l i h from if_neg (fun y => by have := y.2; omega)] at hk; exact hk
theorem c_levelKnown {w b R hr rl rf M k} {i h : Nat} {a : Int32} (hbk : BK w b R hr rl rf M) (hbl : BL b hr) (hb : BO R hr rl rf M) (hi : i < R) (h24 : R ≤ 24) (hh1 : 1 ≤ h) (hh2 : h ≤ hr) (h4 : hr ≤ 400)
    (hk : k (kn rl rf a.toInt M i h) w) : Cl 9 [vO b 62, vI (nI h), vI (nI i), vI a] w (kI k) := by
  obtain ⟨n, n3, n4, n5, n6, n7⟩ := hbl
  obtain ⟨q1, q2, q3, q4⟩ := hbk
  have hp : h * 24 + i < n := by have : h * 24 ≤ hr * 24 := Nat.mul_le_mul_right _ hh2; omega
  apply v_X1_levelKnown_0
  rw [ix_b, n3, n4, q1]
  simp (disch := first | decide | omega) only [cl_nI, in_T, le_nI, lt_nI, nI_s1, true_and, and_true, true_implies, false_implies, implies_true, Nat.le_refl, Nat.lt_irrefl, not_false_eq_true, not_true_eq_false, eq_self, i10, i_ten, i_fv, i_fr, hp, (q3 i h hi hh1 hh2).1, (q3 i h hi hh1 hh2).2]
  rw [nI_pr]
  exact c_lk_loop hb hi h24 hh1 hh2 h4 M (fun _ hx => hx) hb.1 q2 hk
theorem nw_le {rl rf M i} : ∀ h, nw rl rf M i h ≤ h := by
  intro h
  induction h with
  | zero => exact Nat.le_refl _
  | succ h ih => unfold nw; split <;> omega
theorem nw_pos {rl rf M i} : ∀ h, 0 < nw rl rf M i h → 0 < (cu rl rf M i (nw rl rf M i h)).2 := by
  intro h
  induction h with
  | zero => intro hh; exact absurd hh (Nat.lt_irrefl _)
  | succ h ih =>
    unfold nw
    by_cases g : 0 < (cu rl rf M i (h + 1)).2
    · rw [if_pos g]; intro _; exact g
    · rw [if_neg g]; exact ih
/-- where all MENDS are KNOWN, what stands in the rows decides -/
theorem kn_all {R hr rl rf M i h} {at' : Int} (hb : BO R hr rl rf M) (ha : (hr : Int) + 1 ≤ at') : ∀ l, (∀ x, x ∈ l → x ∈ M) →
    kn rl rf at' l i h = if 0 < (cu rl rf l i h).2 ∧ ((cu rl rf l i h).2 : Int) ≤ at' then (cu rl rf l i h).1 else -1 := by
  intro l
  induction l with
  | nil => intro _; rfl
  | cons x l ih =>
    intro hl
    have hx := hb.2.1 x (hl x (List.mem_cons_self ..))
    unfold kn cu
    by_cases g : x.1 = i ∧ x.2.1 = h
    · rw [if_pos ⟨g, by omega⟩, if_pos g, if_pos ⟨hx.2.2.2.1, by omega⟩]
    · rw [if_neg (fun y => g y.1), if_neg g]; exact ih (fun y hy => hl y (List.mem_cons_of_mem _ hy))
theorem cu_nn {R hr rl rf M i h} (hb : BO R hr rl rf M) (hi : i < R) : ∀ l, (∀ x, x ∈ l → x ∈ M) → 0 < (cu rl rf l i h).2 → nn (cu rl rf l i h).1 := by
  intro l
  induction l with
  | nil => intro _ hp; exact (hb.2.2 i h hi hp).2.2.2.2
  | cons x l ih =>
    intro hl
    have hx := hb.2.1 x (hl x (List.mem_cons_self ..))
    unfold cu
    by_cases g : x.1 = i ∧ x.2.1 = h
    · rw [if_pos g]; intro _; exact hx.2.2.2.2.2
    · rw [if_neg g]; exact ih (fun y hy => hl y (List.mem_cons_of_mem _ hy))
theorem kn_sgn {R hr rl rf M i h} {at' : Int} (hb : BO R hr rl rf M) (hi : i < R) (ha : (hr : Int) + 1 ≤ at') : 0 ≤ (kn rl rf at' M i h).toInt ↔ (0 < (cu rl rf M i h).2 ∧ ((cu rl rf M i h).2 : Int) ≤ at') := by
  rw [kn_all hb ha M (fun _ hx => hx)]
  by_cases g : 0 < (cu rl rf M i h).2 ∧ ((cu rl rf M i h).2 : Int) ≤ at'
  · rw [if_pos g]
    exact ⟨fun _ => g, fun _ => cu_nn hb hi M (fun _ hx => hx) g.1⟩
  · rw [if_neg g]
    exact ⟨fun x => by rw [tlm1] at x; omega, fun x => absurd x g⟩
theorem ne_nw {R hr rl rf M i} {at' : Int} (hb : BO R hr rl rf M) (hi : i < R) (ha : (hr : Int) + 1 ≤ at') : ∀ h, ne rl rf at' M i h = ne rl rf at' M i (nw rl rf M i h) := by
  intro h
  induction h with
  | zero => rfl
  | succ h ih =>
    unfold nw
    by_cases g : 0 < (cu rl rf M i (h + 1)).2
    · rw [if_pos g]
    · rw [if_neg g]
      rw [← ih]
      show (if 0 ≤ (kn rl rf at' M i (h + 1)).toInt then h + 1 else ne rl rf at' M i h) = _
      rw [if_neg (fun x => g ((kn_sgn hb hi ha).mp x).1)]
theorem ne_le {rl rf M i} {at' : Int} : ∀ h, ne rl rf at' M i h ≤ h := by
  intro h
  induction h with
  | zero => exact Nat.le_refl _
  | succ h ih => unfold ne; split <;> omega
theorem c_nk_loop {w b R hr rl rf M k} {i : Nat} {a : Nat} (hbk : BK w b R hr rl rf M) (hbl : BL b hr) (hb : BO R hr rl rf M) (hi : i < R) (h24 : R ≤ 24) (h4 : hr ≤ 400) (ha : hr + 1 ≤ a) (ha2 : a < 1000) :
    ∀ n x, x ≤ n → x ≤ hr → (0 < x → 0 < (cu rl rf M i x).2) → k (nI (ne rl rf a M i x)) w →
    Wp 10 13 [some (.inr (.inr (b, 62))), none, some (.inl (nI i)), some (.inl (nI a)), some (.inl (nI x))] [] w (kI k) := by
  obtain ⟨nb, n3, n4, n5, n6, n7⟩ := hbl
  obtain ⟨q1, q2, q3, q4⟩ := hbk
  intro n
  induction n with
  | zero =>
    intro x hx _ _ hk
    obtain rfl : x = 0 := by omega
    apply v_X1_newestKnown_13
    simp (disch := first | decide | omega) only [cl_nI, in_T, le_nI, lt_nI, nI_s1, true_and, and_true, true_implies, false_implies, implies_true, Nat.le_refl, Nat.lt_irrefl, not_false_eq_true, not_true_eq_false, eq_self, i10, i_ten, i_fv, i_fr, i_le0, i_0lt]
    exact hk
  | succ n ih =>
    intro x hx hxr hp hk
    by_cases x0 : x = 0
    · subst x0
      apply v_X1_newestKnown_13
      simp (disch := first | decide | omega) only [cl_nI, in_T, le_nI, lt_nI, nI_s1, true_and, and_true, true_implies, false_implies, implies_true, Nat.le_refl, Nat.lt_irrefl, not_false_eq_true, not_true_eq_false, eq_self, i10, i_ten, i_fv, i_fr, i_le0, i_0lt]
      exact hk
    · obtain ⟨y, rfl⟩ : ∃ y, x = y + 1 := ⟨x - 1, by omega⟩
      have hy : (y + 1) * 24 ≤ hr * 24 := Nat.mul_le_mul_right _ hxr
      have bd := cu_le hb hi hxr M (fun _ hx => hx)
      have hp' := hp (by omega)
      apply v_X1_newestKnown_13
      simp (disch := first | decide | omega) only [cl_nI, in_T, le_nI, lt_nI, nI_s1, true_and, and_true, true_implies, false_implies, implies_true, Nat.le_refl, Nat.lt_irrefl, not_false_eq_true, not_true_eq_false, eq_self, i10, i_ten, i_fv, i_fr, i_le0, i_0lt]
      rw [nI_m1, ix_b, ix_b, n4, n5]
      simp (disch := first | decide | omega) only [cl_nI, in_T, le_nI, lt_nI, nI_s1, true_and, and_true, true_implies, false_implies, implies_true, Nat.le_refl, Nat.lt_irrefl, not_false_eq_true, not_true_eq_false, eq_self, i10, i_ten, i_fv, i_fr, show (y + 1) * 24 + i < nb by omega, show y * 24 + i < nb by omega, (q3 i (y + 1) hi (by omega) hxr).2, q4 i y (Or.inl hi) (by omega), show ¬ y + 1 ≤ 0 by omega, show 0 < y + 1 by omega]
      have e : ne rl rf a M i (y + 1) = if 0 ≤ (kn rl rf a M i (y + 1)).toInt then y + 1 else ne rl rf a M i y := rfl
      refine ⟨fun g => ?_, fun g => ?_⟩
      · show k _ _
        rw [e, if_pos ((kn_sgn hb hi (by omega)).mpr ⟨hp', by omega⟩)] at hk; exact hk
      · have hne : ne rl rf a M i (y + 1) = ne rl rf a M i (nw rl rf M i y) := by
          rw [e, if_neg (fun x => by have := ((kn_sgn hb hi (by omega)).mp x).2; omega), ne_nw hb hi (by omega)]
        have hj : jmin (nI y) (nI (nw rl rf M i y)) = nI (nw rl rf M i y) := by
          have := nw_le (rl := rl) (rf := rf) (M := M) (i := i) y
          unfold jmin
          by_cases g3 : nw rl rf M i y < y
          · rw [if_pos ((lt_nI (by omega) (by omega)).mpr g3)]
          · rw [if_neg (fun x => g3 ((lt_nI (by omega) (by omega)).mp x)), show nw rl rf M i y = y by omega]
        rw [hj]
        have := nw_le (rl := rl) (rf := rf) (M := M) (i := i) y
        refine ih (nw rl rf M i y) (by omega) (by omega) (nw_pos y) ?_
        rw [hne] at hk; exact hk
theorem c_newestKnown {w b R hr rl rf M k} {i h : Nat} {a : Nat} (hbk : BK w b R hr rl rf M) (hbl : BL b hr) (hb : BO R hr rl rf M) (hi : i < R) (h24 : R ≤ 24) (h4 : hr ≤ 400) (ha : hr + 1 ≤ a) (ha2 : a < 1000) (hh : h ≤ hr)
    (hk : k (nI (ne rl rf a M i h)) w) : Cl 10 [vO b 62, vI (nI h), vI (nI i), vI (nI a)] w (kI k) := by
  have hbl' := hbl
  obtain ⟨nb, n3, n4, n5, n6, n7⟩ := hbl'
  have hy : h * 24 ≤ hr * 24 := Nat.mul_le_mul_right _ hh
  apply v_X1_newestKnown_0
  rw [ix_b, n5]
  simp (disch := first | decide | omega) only [cl_nI, in_T, le_nI, lt_nI, nI_s1, true_and, and_true, true_implies, false_implies, implies_true, Nat.le_refl, Nat.lt_irrefl, not_false_eq_true, not_true_eq_false, eq_self, i10, i_ten, i_fv, i_fr, show h * 24 + i < nb by omega, hbk.2.2.2 i h (Or.inl hi) hh]
  have := nw_le (rl := rl) (rf := rf) (M := M) (i := i) h
  refine c_nk_loop hbk hbl hb hi h24 h4 ha ha2 h _ (by omega) (by omega) (nw_pos h) ?_
  rw [← ne_nw hb hi (by omega)]; exact hk
/-- readings and MENDS on the model's side -/
def ML (m : Nat → Int32) : List M4 → Prop
  | [] => True
  | x :: l => m (458 + 4 * l.length) = nI x.1 ∧ m (458 + 4 * l.length + 1) = nI x.2.1 ∧ m (458 + 4 * l.length + 2) = x.2.2.1 ∧ m (458 + 4 * l.length + 3) = nI x.2.2.2 ∧ ML m l
def BKM (m : Nat → Int32) (R : Nat) (rl : Nat → Nat → Int32) (rf : Nat → Nat → Nat) (M : List M4) : Prop :=
  m 293 = nI M.length ∧ ML m M ∧ ∀ i h, i < R → h < 397 → (rf i h = 0 → m (10146 + 397 * i + h) = -1) ∧
    (0 < rf i h → m (618 + 397 * i + h) = rl i h ∧ ∃ q : Nat, m (10146 + 397 * i + h) = nI q ∧ q < 1000 ∧ rf i h = if h + 1 < q then q else h + 1)
theorem ix_m {n : Nat} : (458 : Int32) + 4 * nI n = nI (458 + 4 * n) := by
  rw [show (4 : Int32) = nI 4 from rfl, nI_ml, show (458 : Int32) = nI 458 from rfl, nI_ad]
theorem nI_p3 {n : Nat} : nI n + 3 = nI (n + 3) := by rw [show (3 : Int32) = nI 3 from rfl, nI_ad]
theorem m_kn_loop {w s μ m A B R hr rl rf M k} {i h : Nat} {a : Int32} (hbm : BKM m R rl rf M) (hb : BO R hr rl rf M) (hi : i < R) (h24 : R ≤ 24) (hh : h < 397) (h4 : hr ≤ 396) :
    ∀ l, (∀ x, x ∈ l → x ∈ M) → l.length ≤ 40 → ML m l → k (kn rl rf a.toInt l i h) (eW w s μ m A B) →
    Wp 138 9 [none, some (.inr (.inr (s, 114))), some (.inl (nI i)), some (.inl (nI h)), some (.inl a), some (.inl (nI l.length + (-1))), none] [] (eW w s μ m A B) (kI k) := by
  obtain ⟨q1, q2, q3⟩ := hbm
  obtain ⟨r0, r1⟩ := q3 i h hi hh
  intro l
  induction l with
  | nil =>
    intro _ _ _ hk
    apply v_X10_known_9
    rw [show nI ([] : List M4).length + (-1) = -1 from nI_0p]
    simp (disch := first | decide | omega) only [cl_nI, in_T, le_nI, lt_nI, nI_s1, true_and, and_true, true_implies, false_implies, implies_true, Nat.le_refl, Nat.lt_irrefl, not_false_eq_true, not_true_eq_false, eq_self, i10, i_ten, i_fv, i_fr, cm_eW, cm_s, ge_m, ge_124, ge_125, ge_off, geL, enc_z, ea_0, ea_1, ea_2, ea_3, ea_4, ea_5, ea_6, ea_7, ea_8, ea_9, ea_10, ea_11, se_0, se_1, se_2, se_3, se_4, se_5, se_6, se_7, se_8, se_9, se_10, se_11, ix_0, ix_1, ix_2, ix_3, ix_4, ix_5, ix_6, ix_7, ix_8, ix_9, ix_10, ix_11, se_z, se_124, se_125, se_off, se_hi, enc_hi, ub_same, ub_ne, ub_ub, ub_comm, i_m1, i_m1', ix_r, ix_k]
    by_cases g : 0 < rf i h
    · obtain ⟨e1, q, e2, e3, e4⟩ := r1 g
      rw [e2, e1]
      simp (disch := first | decide | omega) only [cl_nI, in_T, le_nI, lt_nI, nI_s1, true_and, and_true, true_implies, false_implies, implies_true, Nat.le_refl, Nat.lt_irrefl, not_false_eq_true, not_true_eq_false, eq_self, i10, i_ten, i_fv, i_fr, nI_nlt0, nI_0le]
      refine ⟨fun g1 => ?_, fun g1 => ⟨fun g2 => ?_, fun g2 => ?_⟩⟩
      · show k _ _
        rw [lt_nIt (by omega)] at g1
        rw [show kn rl rf a.toInt [] i h = -1 from if_neg (fun y => by have := y.2; rw [e4] at this; split at this <;> omega)] at hk; exact hk
      · show k _ _
        rw [ti_le, ti_nI (by omega)] at g2
        rw [show kn rl rf a.toInt [] i h = -1 from if_neg (fun y => by have := y.2; rw [e4] at this; split at this <;> omega)] at hk; exact hk
      · show k _ _
        rw [le_nIt (by omega)] at g1
        rw [ti_lt, ti_nI (by omega)] at g2
        rw [show kn rl rf a.toInt [] i h = rl i h from if_pos ⟨g, by rw [e4]; split <;> omega⟩] at hk; exact hk
    · rw [r0 (by omega)]
      simp (disch := first | decide | omega) only [cl_nI, in_T, le_nI, lt_nI, nI_s1, true_and, and_true, true_implies, false_implies, implies_true, Nat.le_refl, Nat.lt_irrefl, not_false_eq_true, not_true_eq_false, eq_self, i10, i_ten, i_fv, i_fr, i_m1, i_m1']
      rw [show kn rl rf a.toInt [] i h = -1 from if_neg (fun y => g y.1)] at hk; exact hk
  | cons x l ih =>
    intro hl hlen hu hk
    rw [List.length_cons] at hlen
    obtain ⟨u1, u2, u3, u4, u5⟩ := hu
    have hl' : ∀ y, y ∈ l → y ∈ M := fun y hy => hl y (List.mem_cons_of_mem _ hy)
    have hx := hb.2.1 x (hl x (List.mem_cons_self ..))
    have nx : ¬ ((x.1 = i ∧ x.2.1 = h) ∧ (x.2.2.2 : Int) ≤ a.toInt) → Wp 138 9 [none, some (.inr (.inr (s, 114))), some (.inl (nI i)), some (.inl (nI h)), some (.inl a), some (.inl (nI l.length + (-1))), none] [] (eW w s μ m A B) (kI k) := by
      intro hn
      refine ih hl' (by omega) u5 ?_
      rw [show kn rl rf a.toInt (x :: l) i h = kn rl rf a.toInt l i h from if_neg hn] at hk; exact hk
    apply v_X10_known_9
    rw [List.length_cons, nI_p1, ix_m, nI_s1, nI_p2, nI_p3]
    simp (disch := first | decide | omega) only [cl_nI, in_T, le_nI, lt_nI, nI_s1, true_and, and_true, true_implies, false_implies, implies_true, Nat.le_refl, Nat.lt_irrefl, not_false_eq_true, not_true_eq_false, eq_self, i10, i_ten, i_fv, i_fr, cm_eW, cm_s, ge_m, ge_124, ge_125, ge_off, geL, enc_z, ea_0, ea_1, ea_2, ea_3, ea_4, ea_5, ea_6, ea_7, ea_8, ea_9, ea_10, ea_11, se_0, se_1, se_2, se_3, se_4, se_5, se_6, se_7, se_8, se_9, se_10, se_11, ix_0, ix_1, ix_2, ix_3, ix_4, ix_5, ix_6, ix_7, ix_8, ix_9, ix_10, ix_11, se_z, se_124, se_125, se_off, se_hi, enc_hi, ub_same, ub_ne, ub_ub, ub_comm, nI_0le, nI_nlt0, show l.length < 40 by omega, u1, u2, u3, u4]
    rw [nI_inj (by omega) (by omega), nI_inj (by omega) (by omega), lt_nIt (by omega), le_nIt (by omega)]
    refine ⟨fun g => nx (fun y => g y.1.1), fun g => ⟨fun g2 => nx (fun y => g2 y.1.2), fun g2 => ⟨fun g3 => nx (fun y => by have := y.2; omega), fun g3 => ?_⟩⟩⟩
    show k _ _
    rw [show kn rl rf a.toInt (x :: l) i h = x.2.2.1 from if_pos ⟨⟨g, g2⟩, g3⟩] at hk; exact hk
theorem m_known {w s μ m A B R hr rl rf M k} {i h : Nat} {a : Int32} (hbm : BKM m R rl rf M) (hb : BO R hr rl rf M) (hi : i < R) (h24 : R ≤ 24) (hh : h < 397) (h4 : hr ≤ 396)
    (hk : k (kn rl rf a.toInt M i h) (eW w s μ m A B)) : Cl 138 [vO 0 90, vO s 114, vI (nI i), vI (nI h), vI a] (eW w s μ m A B) (kI k) := by
  apply v_X10_known_0
  simp (disch := first | decide | omega) only [cl_nI, in_T, le_nI, lt_nI, nI_s1, true_and, and_true, true_implies, false_implies, implies_true, Nat.le_refl, Nat.lt_irrefl, not_false_eq_true, not_true_eq_false, eq_self, i10, i_ten, i_fv, i_fr, cm_eW, cm_s, ge_m, ge_124, ge_125, ge_off, geL, enc_z, ea_0, ea_1, ea_2, ea_3, ea_4, ea_5, ea_6, ea_7, ea_8, ea_9, ea_10, ea_11, se_0, se_1, se_2, se_3, se_4, se_5, se_6, se_7, se_8, se_9, se_10, se_11, ix_0, ix_1, ix_2, ix_3, ix_4, ix_5, ix_6, ix_7, ix_8, ix_9, ix_10, ix_11, se_z, se_124, se_125, se_off, se_hi, enc_hi, ub_same, ub_ne, ub_ub, ub_comm, in_293, hbm.1]
  rw [nI_pr]
  exact m_kn_loop hbm hb hi h24 hh h4 M (fun _ hx => hx) hb.1 hbm.2.1 hk
theorem m_newest {w s μ m A B R hr rl rf M k} {i h : Nat} {a : Nat} (hbm : BKM m R rl rf M) (hb : BO R hr rl rf M) (hi : i < R) (h24 : R ≤ 24) (h4 : hr ≤ 396) (ha2 : a < 1000) (hh : h < 397)
    (hk : k (if 0 < ne rl rf a M i h then nI (ne rl rf a M i h) else -1) (eW w s μ m A B)) : Cl 139 [vO 0 90, vO s 114, vI (nI i), vI (nI (h + 1)), vI (nI a)] (eW w s μ m A B) (kI k) := by
  apply v_X10_newest_0
  rw [nI_m1]
  have ta : (nI a).toInt = a := ti_nI (by omega)
  induction h with
  | zero =>
    apply v_X10_newest_5
    simp (disch := first | decide | omega) only [cl_nI, in_T, le_nI, lt_nI, nI_s1, true_and, and_true, true_implies, false_implies, implies_true, Nat.le_refl, Nat.lt_irrefl, not_false_eq_true, not_true_eq_false, eq_self, i10, i_ten, i_fv, i_fr, i_le0, i_0lt]
    exact hk
  | succ h ih =>
    apply v_X10_newest_5
    simp (disch := first | decide | omega) only [cl_nI, in_T, le_nI, lt_nI, nI_s1, true_and, and_true, true_implies, false_implies, implies_true, Nat.le_refl, Nat.lt_irrefl, not_false_eq_true, not_true_eq_false, eq_self, i10, i_ten, i_fv, i_fr, i_le0, i_0lt, show ¬ h + 1 ≤ 0 by omega, show 0 < h + 1 by omega]
    refine m_known hbm hb hi h24 hh h4 ?_
    rw [ta]
    have e : ne rl rf a M i (h + 1) = if 0 ≤ (kn rl rf a M i (h + 1)).toInt then h + 1 else ne rl rf a M i h := rfl
    refine ⟨fun g => ?_, fun g => ?_⟩
    · rw [ti_le, tl0] at g
      show k _ _
      rw [e, if_pos g, if_pos (by omega)] at hk; exact hk
    · rw [ti_lt, tl0] at g
      rw [e, if_neg (Int.not_le.mpr g)] at hk
      rw [nI_p1]
      exact ih (by omega) hk
