/-! pure rows: worlds, numbers, loops -/
theorem gI_off {w : PW} {o : Ob} {f : Nat → Int32} {g j k : Nat} (h : Nat.beq j o.2 = false) : gI (aI w o f) (g, j) k = gI w (g, j) k := by
  show (bif Nat.beq j o.2 then (fun g => bif Nat.beq g o.1 then f else w.1 j g) else w.1 j) g k = w.1 j g k
  rw [h, cond_false]
theorem gI_off' {w : PW} {o : Ob} {f : Nat → Int32} {g j : Nat} (h : Nat.beq j o.2 = false) : gI (aI w o f) (g, j) = gI w (g, j) := funext fun _ => gI_off h
theorem gI_at {w : PW} {o : Ob} {f : Nat → Int32} {k : Nat} : gI (aI w o f) o k = f k := by rw [gI_aI]
theorem gI_s {w : PW} {o : Ob} {k : Nat} {v : Int32} : gI (sI w o k v) o = ub (gI w o) k v := gI_aI
theorem gI_soff {w : PW} {o : Ob} {i : Nat} {v : Int32} {g j : Nat} (h : Nat.beq j o.2 = false) : gI (sI w o i v) (g, j) = gI w (g, j) := gI_off' h
theorem aI_aI {w : PW} {o : Ob} {f f' : Nat → Int32} : aI (aI w o f) o f' = aI w o f' := by
  unfold aI
  refine Prod.ext ?_ rfl
  funext j
  by_cases h : j = o.2
  · subst h
    simp only [beq_t, cond_true]
    funext g
    by_cases h1 : g = o.1
    · subst h1; simp only [beq_t, cond_true]
    · simp only [beq_f h1, cond_false]
  · simp only [beq_f h, cond_false]
theorem sI_aI {w : PW} {o : Ob} {f : Nat → Int32} {k : Nat} {v : Int32} : sI (aI w o f) o k v = aI w o (ub f k v) := by
  unfold sI
  rw [gI_aI, aI_aI]
theorem aI_comm {w : PW} {o o' : Ob} {f f' : Nat → Int32} (h : Nat.beq o'.2 o.2 = false) : aI (aI w o f) o' f' = aI (aI w o' f') o f := by
  have hn : o'.2 ≠ o.2 := fun e => by rw [e, beq_t] at h; cases h
  unfold aI
  refine Prod.ext ?_ rfl
  funext j
  by_cases h1 : j = o.2
  · subst h1
    simp only [beq_t, cond_true, beq_f hn.symm, cond_false]
  · by_cases h2 : j = o'.2
    · subst h2
      simp only [beq_t, cond_true, beq_f h1, cond_false]
    · simp only [beq_f h1, beq_f h2, cond_false]
theorem sI_comm {w : PW} {o o' : Ob} {f : Nat → Int32} {k : Nat} {v : Int32} (h : Nat.beq o'.2 o.2 = false) : sI (aI w o f) o' k v = aI (sI w o' k v) o f := by
  unfold sI
  rw [show gI (aI w o f) o' = gI w o' from gI_off' h, aI_comm h]
theorem aI_self {w : PW} {o : Ob} : aI w o (gI w o) = w := by
  unfold aI
  refine Prod.ext ?_ rfl
  funext j
  by_cases h : j = o.2
  · subst h
    simp only [beq_t, cond_true]
    funext g
    by_cases h1 : g = o.1
    · subst h1; simp only [beq_t, cond_true]; rfl
    · simp only [beq_f h1, cond_false]
  · simp only [beq_f h, cond_false]
theorem aL_aL {w : PW} {o : Ob} {f f' : Nat → Int64} : aL (aL w o f) o f' = aL w o f' := by
  unfold aL
  refine Prod.ext rfl ?_
  funext j
  by_cases h : j = o.2
  · subst h
    simp only [beq_t, cond_true]
    funext g
    by_cases h1 : g = o.1
    · subst h1; simp only [beq_t, cond_true]
    · simp only [beq_f h1, cond_false]
  · simp only [beq_f h, cond_false]
theorem sL_aL {w : PW} {o : Ob} {f : Nat → Int64} {k : Nat} {v : Int64} : sL (aL w o f) o k v = aL w o (ub f k v) := by
  unfold sL
  rw [gL_aL, aL_aL]
theorem aL_self {w : PW} {o : Ob} : aL w o (gL w o) = w := by
  unfold aL
  refine Prod.ext rfl ?_
  funext j
  by_cases h : j = o.2
  · subst h
    simp only [beq_t, cond_true]
    funext g
    by_cases h1 : g = o.1
    · subst h1; simp only [beq_t, cond_true]; rfl
    · simp only [beq_f h1, cond_false]
  · simp only [beq_f h, cond_false]
/-- the first i as F has them, the rest as they were -/
def mx {α : Type} (i : Nat) (F old : Nat → α) (j : Nat) : α := if j < i then F j else old j
theorem mx_0 {α : Type} {F old : Nat → α} : mx 0 F old = old := by funext j; simp [mx]
theorem mx_ub {α : Type} {F old : Nat → α} {i : Nat} {v : α} (h : v = F i) : ub (mx i F old) i v = mx (i + 1) F old := by
  funext j
  rw [ub_eq]
  unfold mx
  by_cases h1 : j = i
  · subst h1; rw [if_pos rfl, if_pos (Nat.lt_succ_self _), h]
  · rw [if_neg h1]
    by_cases h2 : j < i
    · rw [if_pos h2, if_pos (by omega)]
    · rw [if_neg h2, if_neg (by omega)]
theorem mx_no {α : Type} {F old : Nat → α} {i : Nat} (h : old i = F i) : mx i F old = mx (i + 1) F old := by
  funext j
  unfold mx
  by_cases h1 : j = i
  · subst h1; rw [if_neg (Nat.lt_irrefl _), if_pos (Nat.lt_succ_self _), h]
  · by_cases h2 : j < i
    · rw [if_pos h2, if_pos (by omega)]
    · rw [if_neg h2, if_neg (by omega)]
theorem mx_at {α : Type} {F old : Nat → α} {i j : Nat} (h : i ≤ j) : mx i F old j = old j := if_neg (by omega)
theorem mx_lt {α : Type} {F old : Nat → α} {i j : Nat} (h : j < i) : mx i F old j = F j := if_pos h
theorem aI_mx0 {w : PW} {o : Ob} {F : Nat → Int32} : aI w o (mx 0 F (gI w o)) = w := by rw [mx_0, aI_self]
theorem bb_0 {p : Prop} [Decidable p] : (bb p = 0) ↔ ¬ p := by
  unfold bb
  by_cases h : p
  · simp [h]
  · simp [h]
theorem bb_1 {p : Prop} [Decidable p] : (bb p = 1) ↔ p := by
  unfold bb
  by_cases h : p
  · simp [h]
  · simp [h]
theorem bb_01 {p : Prop} [Decidable p] : b01 (bb p) := by
  unfold bb b01
  by_cases h : p
  · simp [h]
  · simp [h]
theorem bb_t {p : Prop} [Decidable p] (h : p) : bb p = 1 := if_pos h
theorem bb_f {p : Prop} [Decidable p] (h : ¬ p) : bb p = 0 := if_neg h
theorem b01_0 : b01 0 := Or.inl rfl
theorem b01_1 : b01 1 := Or.inr rfl
theorem ti_add {a b : Int32} (h1 : -2 ^ 31 ≤ a.toInt + b.toInt) (h2 : a.toInt + b.toInt < 2 ^ 31) : (a + b).toInt = a.toInt + b.toInt := by
  rw [Int32.toInt_add]
  exact Int.bmod_eq_of_le (by omega) (by omega)
theorem ti_sub {a b : Int32} (h1 : -2 ^ 31 ≤ a.toInt - b.toInt) (h2 : a.toInt - b.toInt < 2 ^ 31) : (a - b).toInt = a.toInt - b.toInt := by
  rw [Int32.toInt_sub]
  exact Int.bmod_eq_of_le (by omega) (by omega)
theorem ti_mul {a b : Int32} (h1 : -2 ^ 31 ≤ a.toInt * b.toInt) (h2 : a.toInt * b.toInt < 2 ^ 31) : (a * b).toInt = a.toInt * b.toInt := by
  rw [Int32.toInt_mul]
  exact Int.bmod_eq_of_le (by omega) (by omega)
theorem ti_lt {a b : Int32} : a < b ↔ a.toInt < b.toInt := Int32.lt_iff_toInt_lt
theorem ti_le {a b : Int32} : a ≤ b ↔ a.toInt ≤ b.toInt := Int32.le_iff_toInt_le
theorem ti_eq {a b : Int32} : a = b ↔ a.toInt = b.toInt := Int32.toInt_inj.symm
theorem ti_b (a : Int32) : -2 ^ 31 ≤ a.toInt ∧ a.toInt < 2 ^ 31 := ⟨Int32.le_toInt a, Int32.toInt_lt a⟩
theorem ti_nI {n : Nat} (h : n < 2 ^ 31) : (nI n).toInt = n := nI_toInt h
theorem ti_cl (a : Int32) : (a.toNatClampNeg : Int) = if 0 ≤ a.toInt then a.toInt else 0 := by
  show ((a.toInt.toNat : Nat) : Int) = _
  split <;> omega
theorem cl_nI {n : Nat} (h : n < 2 ^ 31) : (nI n).toNatClampNeg = n := nI_clamp h
theorem of_in {i : Int32} {n : Nat} (h : vp_in i n) : ∃ j : Nat, j < n ∧ i = nI j := by
  obtain ⟨h1, h2⟩ := vp_in_iff.mp h
  refine ⟨i.toInt.toNat, by omega, ?_⟩
  rw [ti_eq, nI_toInt (by have := ti_b i; omega)]
  omega
theorem in_nI {j n : Nat} (h : j < n) (h2 : j < 2 ^ 31) : vp_in (nI j) n := by
  rw [vp_in_iff, nI_toInt h2]
  omega
theorem of_rng {i : Int32} {n : Nat} (h : 0 ≤ i) (h2 : i ≤ nI n - 1) (hn : 0 < n) (hn2 : n < 2 ^ 31) : ∃ j : Nat, j < n ∧ i = nI j := by
  rw [ti_le] at h h2
  have h1 : (1 : Int32).toInt = 1 := rfl
  have h0 : (0 : Int32).toInt = 0 := rfl
  rw [ti_sub (by rw [ti_nI hn2, h1]; omega) (by rw [ti_nI hn2, h1]; omega), ti_nI hn2, h1] at h2
  rw [h0] at h
  refine ⟨i.toInt.toNat, by omega, ?_⟩
  rw [ti_eq, nI_toInt (by omega)]
  omega
theorem lt_nI {a b : Nat} (ha : a < 2 ^ 31) (hb : b < 2 ^ 31) : nI a < nI b ↔ a < b := nI_ltI ha hb
theorem le_nI {a b : Nat} (ha : a < 2 ^ 31) (hb : b < 2 ^ 31) : nI a ≤ nI b ↔ a ≤ b := nI_leI ha hb
/-- a loop that counts up -/
theorem up_loop {mi pc : Nat} {L : Int32 → LV} {Q : PQ} (R : Nat) (Wd : Nat → PW) (hx : Wp mi pc (L (nI R)) [] (Wd R) Q)
    (hs : ∀ i, i < R → Wp mi pc (L (nI (i + 1))) [] (Wd (i + 1)) Q → Wp mi pc (L (nI i)) [] (Wd i) Q) : ∀ i, i ≤ R → Wp mi pc (L (nI i)) [] (Wd i) Q := by
  have h : ∀ n i, i + n = R → Wp mi pc (L (nI i)) [] (Wd i) Q := by
    intro n
    induction n with
    | zero => intro i h; rw [Nat.add_zero] at h; subst h; exact hx
    | succ n ih => intro i h; exact hs i (by omega) (ih (i + 1) (by omega))
  exact fun i hi => h (R - i) i (by omega)
/-- the same, where a fact of the world goes along -/
theorem up_loopI {mi pc : Nat} {L : Int32 → LV} {Q : PQ} (R : Nat) (I : Nat → PW → Prop) (hx : ∀ w, I R w → Wp mi pc (L (nI R)) [] w Q)
    (hs : ∀ i w, i < R → I i w → (∀ w', I (i + 1) w' → Wp mi pc (L (nI (i + 1))) [] w' Q) → Wp mi pc (L (nI i)) [] w Q) : ∀ i w, i ≤ R → I i w → Wp mi pc (L (nI i)) [] w Q := by
  have h : ∀ n i w, i + n = R → I i w → Wp mi pc (L (nI i)) [] w Q := by
    intro n
    induction n with
    | zero => intro i w h hi; rw [Nat.add_zero] at h; subst h; exact hx w hi
    | succ n ih => intro i w h hi; exact hs i w (by omega) hi (fun w' hw' => ih (i + 1) w' (by omega) hw')
  exact fun i w hi => h (R - i) i w (by omega)
theorem Cl.cons {mj : Nat} {as : List PV} {w : PW} {Q Q' : PQ} (h : Cl mj as w Q) (hq : ∀ r w', Q r w' → Q' r w') : Cl mj as w Q' := Wp.cons _ _ _ _ _ _ _ hq h
