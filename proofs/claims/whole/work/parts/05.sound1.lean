/-! the machine's world out of the pure one -/
abbrev AD : Type := Ob → Nat
def tV (ad : AD) (v : PV) : Value := match v with | .inl x => .int x | .inr (.inl x) => .long x | .inr (.inr o) => .ref (ad o)
def objs : List Ob := [(0, 0), (0, 1), (0, 2), (0, 3), (0, 4), (0, 5), (0, 6), (0, 7), (0, 8), (0, 9), (0, 10), (0, 11), (0, 12), (0, 13), (0, 14), (0, 15), (0, 16), (0, 17), (0, 18), (0, 19), (0, 20), (0, 25), (0, 26), (0, 27), (0, 28), (0, 29), (0, 30), (0, 31), (0, 32), (1, 40), (2, 40), (3, 40), (4, 40), (5, 40), (6, 40), (7, 40), (8, 40), (1, 41), (2, 41), (3, 41), (4, 41), (5, 41), (6, 41), (7, 41), (8, 41), (1, 42), (2, 42), (3, 42), (4, 42), (5, 42), (6, 42), (7, 42), (8, 42), (1, 43), (2, 43), (3, 43), (4, 43), (5, 43), (6, 43), (7, 43), (8, 43), (1, 44), (2, 44), (3, 44), (4, 44), (5, 44), (6, 44), (7, 44), (8, 44), (1, 45), (2, 45), (3, 45), (4, 45), (5, 45), (6, 45), (7, 45), (8, 45), (1, 46), (2, 46), (3, 46), (4, 46), (5, 46), (6, 46), (7, 46), (8, 46), (1, 47), (2, 47), (3, 47), (4, 47), (5, 47), (6, 47), (7, 47), (8, 47), (1, 48), (2, 48), (3, 48), (4, 48), (5, 48), (6, 48), (7, 48), (8, 48), (1, 49), (2, 49), (3, 49), (4, 49), (5, 49), (6, 49), (7, 49), (8, 49), (1, 50), (2, 50), (3, 50), (4, 50), (5, 50), (6, 50), (7, 50), (8, 50), (1, 51), (2, 51), (3, 51), (4, 51), (5, 51), (6, 51), (7, 51), (8, 51), (1, 52), (2, 52), (3, 52), (4, 52), (5, 52), (6, 52), (7, 52), (8, 52), (1, 53), (2, 53), (3, 53), (4, 53), (5, 53), (6, 53), (7, 53), (8, 53), (99, 54), (102, 54), (103, 54), (104, 54), (105, 54), (106, 54), (107, 54), (108, 54), (109, 54), (110, 54), (111, 54), (112, 54), (113, 54), (114, 54), (115, 54), (116, 54), (117, 54), (99, 55), (102, 55), (103, 55), (104, 55), (105, 55), (106, 55), (107, 55), (108, 55), (109, 55), (110, 55), (111, 55), (112, 55), (113, 55), (114, 55), (115, 55), (116, 55), (117, 55), (99, 56), (102, 56), (103, 56), (104, 56), (105, 56), (106, 56), (107, 56), (108, 56), (109, 56), (110, 56), (111, 56), (112, 56), (113, 56), (114, 56), (115, 56), (116, 56), (117, 56), (99, 57), (102, 57), (103, 57), (104, 57), (105, 57), (106, 57), (107, 57), (108, 57), (109, 57), (110, 57), (111, 57), (112, 57), (113, 57), (114, 57), (115, 57), (116, 57), (117, 57), (1, 62), (3, 62), (4, 62), (5, 62), (6, 62), (7, 62), (8, 62), (1, 63), (3, 63), (4, 63), (5, 63), (6, 63), (7, 63), (8, 63), (1, 64), (3, 64), (4, 64), (5, 64), (6, 64), (7, 64), (8, 64), (1, 65), (3, 65), (4, 65), (5, 65), (6, 65), (7, 65), (8, 65), (1, 66), (3, 66), (4, 66), (5, 66), (6, 66), (7, 66), (8, 66), (1, 67), (3, 67), (4, 67), (5, 67), (6, 67), (7, 67), (8, 67), (1, 68), (3, 68), (4, 68), (5, 68), (6, 68), (7, 68), (8, 68), (0, 70), (1, 70), (2, 70), (3, 70), (4, 70), (5, 70), (0, 71), (1, 71), (2, 71), (3, 71), (4, 71), (5, 71), (0, 80), (1, 80), (2, 80), (3, 80), (0, 81), (1, 81), (2, 81), (3, 81), (0, 82), (1, 82), (2, 82), (3, 82), (0, 90), (0, 91), (0, 92), (0, 93), (0, 94), (0, 95), (0, 96), (0, 97), (0, 98), (0, 99), (0, 100), (0, 101), (0, 102), (0, 103), (0, 104), (0, 105), (0, 106), (0, 107), (0, 108), (0, 109), (0, 110), (0, 111), (0, 112), (0, 113), (1, 114), (2, 114), (0, 116), (0, 117), (0, 118), (0, 119), (0, 120), (0, 121), (0, 122), (0, 123), (0, 124), (0, 125)]
theorem objs_nodup : objs.Nodup := by decide +kernel
def tysOf (cI cZ cJ cW cP : ClassId) : List (ClassId × FieldType) := [(cI, .int), (cZ, .boolean), (cJ, .long), (cW, .object "IceOut$Weather"), (cP, .object "IceOut$Tape")]
def fldV (ad : AD) (w : PW) (o : Ob) (ci k : Nat) : Value := match fd ci k with | none => .int (gI w o k) | some (f, j) => .ref (ad (f o.1, j))
def fldL (ad : AD) (w : PW) (o : Ob) : List Value := (List.range (cN (shc o.2))).map (fldV ad w o (shc o.2))
def cellOf (ad : AD) (cI cZ cJ cW cP : ClassId) (w : PW) (o : Ob) : va_E := match shk o.2 with
  | 1 => .inr (shc o.2, fldL ad w o)
  | 2 => .inl (cI, len o.1 o.2, .inl (gI w o))
  | 3 => .inl (cZ, len o.1 o.2, .inl (gI w o))
  | 4 => .inl (cJ, len o.1 o.2, .inr (.inl (gL w o)))
  | _ => .inl (bif Nat.beq (shc o.2) 0 then cW else cP, len o.1 o.2, .inr (.inr (.inr (.inr (fun i => some (ad (i, rfk (shc o.2))))))))
def wsOf (ad : AD) (cI cZ cJ cW cP : ClassId) (w : PW) : va_W := objs.map (fun o => (ad o, cellOf ad cI cZ cJ cW cP w o))
def okV (v : PV) : Prop := match v with | .inr (.inr o) => o ∈ objs ∨ o = (0, 33) | _ => True
def okT : List PV → Prop
  | [] => True
  | v :: t => okV v ∧ okT t
def okL (L : LV) : Prop := ∀ i v, lk L i = some v → okV v
def al (ad : AD) : Nat → LV → List (Nat × Value)
  | _, [] => []
  | i, none :: t => al ad (i + 1) t
  | i, some v :: t => (i, tV ad v) :: al ad (i + 1) t
theorem al_mem {ad : AD} {L : LV} {j : Nat} {v : PV} : ∀ {i : Nat}, lk L j = some v → (i + j, tV ad v) ∈ al ad i L := by
  induction L generalizing j with
  | nil => intro i h; cases h
  | cons a t ih =>
    intro i h
    cases j with
    | zero =>
      have h : a = some v := h
      subst h
      exact List.mem_cons_self
    | succ j =>
      have h : lk t j = some v := h
      have := ih (i := i + 1) h
      rw [show i + 1 + j = i + (j + 1) by omega] at this
      cases a with
      | none => exact this
      | some u => exact List.mem_cons_of_mem _ this
theorem al_of {ad : AD} {L : LV} : ∀ {i j : Nat} {u : Value}, (j, u) ∈ al ad i L → ∃ v, i ≤ j ∧ lk L (j - i) = some v ∧ u = tV ad v := by
  induction L with
  | nil => intro i j u h; cases h
  | cons a t ih =>
    intro i j u h
    have tl : (j, u) ∈ al ad (i + 1) t → ∃ v, i ≤ j ∧ lk (a :: t) (j - i) = some v ∧ u = tV ad v := by
      intro h
      obtain ⟨v, h1, h2, h3⟩ := ih h
      refine ⟨v, by omega, ?_, h3⟩
      rw [show j - i = (j - (i + 1)) + 1 by omega]
      exact h2
    cases a with
    | none => exact tl h
    | some v =>
      rcases List.mem_cons.mp h with e | h
      · cases e
        exact ⟨v, Nat.le_refl _, by rw [Nat.sub_self]; rfl, rfl⟩
      · exact tl h
theorem lv_get {ad : AD} {ls : Array Slot} {n j : Nat} {L : LV} {v : PV} (h : lv_has ls n (al ad 0 L)) (hj : lk L j = some v) : ls[j]? = some (.val (tV ad v)) := by
  have := h.2.2 _ (al_mem (i := 0) (ad := ad) hj)
  rwa [Nat.zero_add] at this
theorem lv_less {ls : Array Slot} {n : Nat} {l l' : List (Nat × Value)} (h : lv_has ls n l) (hs : ∀ q ∈ l', q ∈ l) : lv_has ls n l' := ⟨h.1, h.2.1, fun q hq => h.2.2 q (hs q hq)⟩
theorem lset_length {L : LV} : ∀ {i : Nat} {v : PV}, (lset L i v).length = L.length := by
  induction L with
  | nil => intro i v; rfl
  | cons a t ih =>
    intro i v
    cases i with
    | zero => rfl
    | succ i => exact congrArg (· + 1) (ih (i := i) (v := v))
theorem lk_lset {L : LV} : ∀ {i j : Nat} {v u : PV}, lk (lset L i v) j = some u → (j = i ∧ u = v) ∨ (j ≠ i ∧ lk L j = some u) := by
  induction L with
  | nil => intro i j v u h; cases h
  | cons a t ih =>
    intro i j v u h
    cases i with
    | zero =>
      cases j with
      | zero => exact Or.inl ⟨rfl, (Option.some.inj h).symm⟩
      | succ j => exact Or.inr ⟨by omega, h⟩
    | succ i =>
      cases j with
      | zero => exact Or.inr ⟨by omega, h⟩
      | succ j =>
        rcases ih (i := i) (j := j) h with ⟨rfl, e⟩ | ⟨e, h⟩
        · exact Or.inl ⟨rfl, e⟩
        · exact Or.inr ⟨by omega, h⟩
theorem okst_lt {L : LV} {i : Nat} (h : okst L i = true) : i < L.length := by
  cases i with
  | zero => exact Nat.le_of_ble_eq_true h
  | succ j => exact Nat.le_of_ble_eq_true ((Bool.and_eq_true _ _ ▸ h).2)
theorem lv_put {ad : AD} {ls : Array Slot} {n i : Nat} {L : LV} {v : PV} (h : lv_has ls n ((i, tV ad v) :: (al ad 0 L).filter (fun q => !(q.1 == i) && !(q.1 + 1 == i && q.2.category == 2)))) (hk : okst L i = true) : lv_has ls n (al ad 0 (lset L i v)) := by
  refine lv_less h ?_
  rintro ⟨j, u⟩ hq
  obtain ⟨x, -, h1, rfl⟩ := al_of hq
  rw [Nat.sub_zero] at h1
  rcases lk_lset h1 with ⟨rfl, rfl⟩ | ⟨hn, h2⟩
  · exact List.mem_cons_self
  · refine List.mem_cons_of_mem _ (List.mem_filter.mpr ⟨by simpa using al_mem (i := 0) (ad := ad) h2, ?_⟩)
    have h3 : (j == i) = false := beq_false_of_ne hn
    simp only [h3, Bool.not_false, Bool.true_and, Bool.not_eq_true', Bool.and_eq_false_imp, beq_iff_eq]
    intro e
    subst e
    have h4 : nlong (lk L j) = true := by
      have := hk
      simp only [okst, Bool.and_eq_true] at this
      exact this.1
    rw [h2] at h4
    rcases x with x | x | x
    · rfl
    · cases h4
    · rfl
theorem okL_set {L : LV} {i : Nat} {v : PV} (h : okL L) (hv : okV v) : okL (lset L i v) := fun j u hj => by
  rcases lk_lset hj with ⟨-, rfl⟩ | ⟨-, h2⟩
  · exact hv
  · exact h j u h2
theorem mask_length : ∀ {m : List Bool} {L : LV}, (mask m L).length = L.length := by
  intro m
  induction m with
  | nil => intro L; rfl
  | cons b m ih =>
    intro L
    cases L with
    | nil => cases b <;> rfl
    | cons a t => cases b <;> exact congrArg (· + 1) (ih (L := t))
theorem lk_mask : ∀ {m : List Bool} {L : LV} {j : Nat} {u : PV}, lk (mask m L) j = some u → lk L j = some u := by
  intro m
  induction m with
  | nil => intro L j u h; exact h
  | cons b m ih =>
    intro L j u h
    cases L with
    | nil => cases b <;> exact h
    | cons a t =>
      cases b <;> cases j
      · cases h
      · exact ih (L := t) h
      · exact h
      · exact ih (L := t) h
theorem al_less {ad : AD} {L L' : LV} (h : ∀ j u, lk L' j = some u → lk L j = some u) : ∀ q ∈ al ad 0 L', q ∈ al ad 0 L := by
  rintro ⟨j, u⟩ hq
  obtain ⟨x, -, h1, rfl⟩ := al_of hq
  rw [Nat.sub_zero] at h1
  simpa using al_mem (i := 0) (ad := ad) (h _ _ h1)
theorem padL_length : ∀ {n : Nat} {L : LV}, (padL n L).length = n := by
  intro n
  induction n with
  | zero => intro L; rfl
  | succ n ih => intro L; cases L <;> exact congrArg (· + 1) ih
theorem lk_padL : ∀ {n : Nat} {L : LV} {j : Nat} {u : PV}, lk (padL n L) j = some u → lk L j = some u := by
  intro n
  induction n with
  | zero => intro L j u h; cases h
  | succ n ih =>
    intro L j u h
    cases L with
    | nil =>
      cases j with
      | zero => cases h
      | succ j => exact absurd (ih (L := []) h) (by intro q; cases q)
    | cons a t =>
      cases j with
      | zero => exact h
      | succ j => exact ih (L := t) h
theorem expd_args {ad : AD} {as : List PV} : ∀ {i j : Nat} {u : PV}, lk (expd as) j = some u → (i + j, tV ad u) ∈ lv_args i (as.map (tV ad)) ∧ u ∈ as := by
  induction as with
  | nil => intro i j u h; cases h
  | cons v t ih =>
    intro i j u h
    have g1 : ∀ (hc : (tV ad v).category = 1) (h : lk (some v :: expd t) j = some u), (i + j, tV ad u) ∈ lv_args i ((v :: t).map (tV ad)) ∧ u ∈ v :: t := by
      intro hc h
      have e : lv_args i ((v :: t).map (tV ad)) = (i, tV ad v) :: lv_args (i + 1) (t.map (tV ad)) := by
        show (i, tV ad v) :: lv_args (if (tV ad v).category = 2 then i + 2 else i + 1) _ = _
        rw [hc]; rfl
      cases j with
      | zero => cases h; exact ⟨by rw [e]; exact List.mem_cons_self, List.mem_cons_self⟩
      | succ j =>
        obtain ⟨q1, q2⟩ := ih (i := i + 1) (j := j) h
        rw [show i + 1 + j = i + (j + 1) by omega] at q1
        exact ⟨by rw [e]; exact List.mem_cons_of_mem _ q1, List.mem_cons_of_mem _ q2⟩
    rcases v with x | x | x
    · exact g1 rfl h
    · have h : lk (some (.inr (.inl x)) :: none :: expd t) j = some u := h
      have e : lv_args i (((.inr (.inl x) : PV) :: t).map (tV ad)) = (i, tV ad (.inr (.inl x))) :: lv_args (i + 2) (t.map (tV ad)) := rfl
      match j, h with
      | 0, h => cases h; exact ⟨by rw [e]; exact List.mem_cons_self, List.mem_cons_self⟩
      | 1, h => cases h
      | j + 2, h =>
        obtain ⟨q1, q2⟩ := ih (i := i + 2) (j := j) h
        rw [show i + 2 + j = i + (j + 2) by omega] at q1
        exact ⟨by rw [e]; exact List.mem_cons_of_mem _ q1, List.mem_cons_of_mem _ q2⟩
    · exact g1 rfl h
theorem expd_len {ad : AD} {as : List PV} : (lg_sl (as.map (tV ad))).length = (expd as).length := by
  induction as with
  | nil => rfl
  | cons v t ih =>
    rcases v with x | x | x
    · exact congrArg (· + 1) ih
    · exact congrArg (· + 2) ih
    · exact congrArg (· + 1) ih
theorem okT_mem {as : List PV} (h : okT as) : ∀ v ∈ as, okV v := by
  induction as with
  | nil => intro v hv; cases hv
  | cons a t ih =>
    intro v hv
    rcases List.mem_cons.mp hv with rfl | hv
    · exact h.1
    · exact ih h.2 v hv
theorem okT_of {as : List PV} (h : ∀ v ∈ as, okV v) : okT as := by
  induction as with
  | nil => trivial
  | cons a t ih => exact ⟨h a List.mem_cons_self, ih fun v hv => h v (List.mem_cons_of_mem _ hv)⟩
theorem popN_spec : ∀ {n : Nat} {acc st as r : List PV}, popN n acc st = some (as, r) → ∃ ps : List PV, st = ps ++ r ∧ as = ps.reverse ++ acc ∧ ps.length = n := by
  intro n
  induction n with
  | zero => intro acc st as r h; cases h; exact ⟨[], rfl, rfl, rfl⟩
  | succ n ih =>
    intro acc st as r h
    cases st with
    | nil => cases h
    | cons v st =>
      obtain ⟨ps, h1, h2, h3⟩ := ih (acc := v :: acc) (st := st) h
      exact ⟨v :: ps, by rw [h1]; rfl, by rw [h2]; simp, by rw [List.length_cons, h3]⟩
theorem cats_sum {ad : AD} {st : List PV} : ((st.map (tV ad)).map fun v => v.category).sum = cats st := by
  induction st with
  | nil => rfl
  | cons v t ih =>
    have e : (tV ad v).category = cat v := by rcases v with x | x | x <;> rfl
    show (tV ad v).category + ((t.map (tV ad)).map fun v => v.category).sum = cat v + cats t
    rw [e, ih]
theorem ws_at {ad : AD} {cI cZ cJ cW cP : ClassId} {w : PW} {o : Ob} (ho : o ∈ objs) : ∃ q0 : Nat, objs[q0]? = some o ∧ (wsOf ad cI cZ cJ cW cP w)[q0]? = some (ad o, cellOf ad cI cZ cJ cW cP w o) := by
  obtain ⟨q0, hq⟩ := List.getElem?_of_mem ho
  exact ⟨q0, hq, by rw [wsOf, List.getElem?_map, hq]; rfl⟩
theorem ws_set {ad : AD} {cI cZ cJ cW cP : ClassId} {w w' : PW} {o : Ob} {q0 : Nat} (hq : objs[q0]? = some o) (hne : ∀ o', o' ≠ o → cellOf ad cI cZ cJ cW cP w' o' = cellOf ad cI cZ cJ cW cP w o') : (wsOf ad cI cZ cJ cW cP w).set q0 (ad o, cellOf ad cI cZ cJ cW cP w' o) = wsOf ad cI cZ cJ cW cP w' := by
  apply List.ext_getElem?
  intro i
  rw [List.getElem?_set]
  simp only [wsOf, List.length_map, List.getElem?_map]
  by_cases hi : q0 = i
  · subst hi
    have hl : q0 < objs.length := (List.getElem?_eq_some_iff.mp hq).1
    rw [if_pos rfl, if_pos hl, hq]
    rfl
  · rw [if_neg hi]
    cases h : objs[i]? with
    | none => rfl
    | some o' =>
      have hn : o' ≠ o := by
        intro e
        subst e
        exact hi ((List.getElem?_inj (List.getElem?_eq_some_iff.mp hq).1 objs_nodup).mp (hq.trans h.symm))
      show some (ad o', _) = some (ad o', _)
      rw [hne o' hn]
theorem beq_t (k : Nat) : Nat.beq k k = true := Nat.beq_refl k
theorem beq_f {a b : Nat} (h : a ≠ b) : Nat.beq a b = false := by
  cases hb : Nat.beq a b with
  | false => rfl
  | true => exact absurd (Nat.eq_of_beq_eq_true hb) h
theorem ub_eq {α : Type} {f : Nat → α} {k : Nat} {v : α} {j : Nat} : ub f k v j = if j = k then v else f j := by
  unfold ub
  by_cases h : j = k
  · rw [h, beq_t, if_pos rfl]; rfl
  · rw [beq_f h, if_neg h]; rfl
theorem ub_upd {f : Nat → Int32} {k : Nat} {v : Int32} : ub f k v = upd f k v := by funext j; rw [ub_eq]; rfl
theorem ub_updL {f : Nat → Int64} {k : Nat} {v : Int64} : ub f k v = vp_updL f k v := by funext j; rw [ub_eq]; rfl
theorem gI_aI {w : PW} {o : Ob} {f : Nat → Int32} : gI (aI w o f) o = f := by
  funext k
  show (bif Nat.beq o.2 o.2 then (fun g => bif Nat.beq g o.1 then f else w.1 o.2 g) else w.1 o.2) o.1 k = f k
  rw [beq_t, cond_true, beq_t, cond_true]
theorem gL_aL {w : PW} {o : Ob} {f : Nat → Int64} : gL (aL w o f) o = f := by
  funext k
  show (bif Nat.beq o.2 o.2 then (fun g => bif Nat.beq g o.1 then f else w.2 o.2 g) else w.2 o.2) o.1 k = f k
  rw [beq_t, cond_true, beq_t, cond_true]
theorem gI_aI_ne {w : PW} {o o' : Ob} {f : Nat → Int32} (h : o' ≠ o) : gI (aI w o f) o' = gI w o' := by
  funext k
  show (bif Nat.beq o'.2 o.2 then (fun g => bif Nat.beq g o.1 then f else w.1 o'.2 g) else w.1 o'.2) o'.1 k = w.1 o'.2 o'.1 k
  by_cases h2 : o'.2 = o.2
  · rw [show Nat.beq o'.2 o.2 = true by rw [h2]; exact beq_t _, cond_true]
    have : o'.1 ≠ o.1 := fun e => h (Prod.ext e h2)
    rw [beq_f this, cond_false]
  · rw [beq_f h2, cond_false]
theorem gL_aL_ne {w : PW} {o o' : Ob} {f : Nat → Int64} (h : o' ≠ o) : gL (aL w o f) o' = gL w o' := by
  funext k
  show (bif Nat.beq o'.2 o.2 then (fun g => bif Nat.beq g o.1 then f else w.2 o'.2 g) else w.2 o'.2) o'.1 k = w.2 o'.2 o'.1 k
  by_cases h2 : o'.2 = o.2
  · rw [show Nat.beq o'.2 o.2 = true by rw [h2]; exact beq_t _, cond_true]
    have : o'.1 ≠ o.1 := fun e => h (Prod.ext e h2)
    rw [beq_f this, cond_false]
  · rw [beq_f h2, cond_false]
theorem gL_aI {w : PW} {o o' : Ob} {f : Nat → Int32} : gL (aI w o f) o' = gL w o' := rfl
theorem gI_aL {w : PW} {o o' : Ob} {f : Nat → Int64} : gI (aL w o f) o' = gI w o' := rfl
theorem cell_aI {ad : AD} {cI cZ cJ cW cP : ClassId} {w : PW} {o : Ob} {f : Nat → Int32} : ∀ o', o' ≠ o → cellOf ad cI cZ cJ cW cP (aI w o f) o' = cellOf ad cI cZ cJ cW cP w o' := by
  intro o' h
  have e := gI_aI_ne (w := w) (f := f) h
  have e2 : gL (aI w o f) o' = gL w o' := rfl
  have e3 : fldL ad (aI w o f) o' = fldL ad w o' := by
    unfold fldL
    refine List.map_congr_left fun k _ => ?_
    simp only [fldV, e]
  unfold cellOf
  rw [e, e2, e3]
theorem cell_aL {ad : AD} {cI cZ cJ cW cP : ClassId} {w : PW} {o : Ob} {f : Nat → Int64} : ∀ o', o' ≠ o → cellOf ad cI cZ cJ cW cP (aL w o f) o' = cellOf ad cI cZ cJ cW cP w o' := by
  intro o' h
  have e := gL_aL_ne (w := w) (f := f) h
  have e2 : gI (aL w o f) o' = gI w o' := rfl
  have e3 : fldL ad (aL w o f) o' = fldL ad w o' := rfl
  unfold cellOf
  rw [e, e2, e3]
theorem fldL_s {ad : AD} {w : PW} {o : Ob} {k : Nat} {v : Int32} (hf : fd (shc o.2) k = none) : (fldL ad w o).set k (.int v) = fldL ad (sI w o k v) o := by
  have hg : ∀ i, gI (sI w o k v) o i = if i = k then v else gI w o i := fun i => by
    unfold sI
    rw [gI_aI, ub_eq]
  apply List.ext_getElem?
  intro i
  rw [List.getElem?_set]
  simp only [fldL, List.length_map, List.getElem?_map, List.length_range]
  by_cases hi : k = i
  · subst hi
    rw [if_pos rfl]
    by_cases hl : k < cN (shc o.2)
    · rw [if_pos hl, List.getElem?_range hl]
      simp [fldV, hf, hg]
    · rw [if_neg hl, List.getElem?_eq_none (by simpa using hl)]
      rfl
  · rw [if_neg hi]
    by_cases hl : i < cN (shc o.2)
    · rw [List.getElem?_range hl]
      have : i ≠ k := fun e => hi e.symm
      simp [fldV, hg, this]
    · rw [List.getElem?_eq_none (by simpa using hl)]
      rfl
def refOK (o : Ob) : Bool := match shk o.2 with
  | 1 => (List.range (cN (shc o.2))).all (fun k => match fd (shc o.2) k with | none => true | some (f, j) => decide ((f o.1, j) ∈ objs))
  | 5 => (List.range (len o.1 o.2)).all (fun i => decide ((i, rfk (shc o.2)) ∈ objs))
  | _ => true
theorem objs_ref : objs.all refOK = true := by decide +kernel
theorem fld_ok {o : Ob} {k : Nat} {f : Nat → Nat} {j : Nat} (ho : o ∈ objs) (h1 : shk o.2 = 1) (hk : k < cN (shc o.2)) (hf : fd (shc o.2) k = some (f, j)) : (f o.1, j) ∈ objs := by
  have := List.all_eq_true.mp objs_ref o ho
  rw [refOK, h1] at this
  have := List.all_eq_true.mp this k (List.mem_range.mpr hk)
  rw [hf] at this
  exact of_decide_eq_true this
theorem row_ok {o : Ob} {i : Nat} (ho : o ∈ objs) (h1 : shk o.2 = 5) (hi : i < len o.1 o.2) : (i, rfk (shc o.2)) ∈ objs := by
  have := List.all_eq_true.mp objs_ref o ho
  rw [refOK, h1] at this
  exact of_decide_eq_true (List.all_eq_true.mp this i (List.mem_range.mpr hi))
theorem objs_c : objs.all (fun o => decide (shk o.2 = 1 → shc o.2 < 11)) = true := by decide +kernel
def gT : List Cond := lw_tbl.filter goodWord
theorem gT_good : gT.all goodWord = true := List.all_eq_true.mpr fun w h => (List.mem_filter.mp h).2
theorem goodGT {w : Cond} (h : w ∈ gT) : (w.onTables && w.keeps) = true ∨ ∃ ty, w = .arrayClass ty := good_of_word (List.mem_filter.mp h).2
theorem in_gT {w : Cond} (h : w ∈ lw_tbl) (hg : goodWord w = true) : w ∈ gT := List.mem_filter.mpr ⟨h, hg⟩
theorem lkT_in {p : Nat} {w : Cond} (h : lkT[p]? = some w) : w ∈ lw_tbl := by
  have := List.mem_of_getElem? h
  rw [lkT_ok] at this
  obtain ⟨i, -, hi⟩ := List.mem_filterMap.mp this
  exact List.mem_of_getElem? hi
theorem mW_in {mi : Nat} (h : mi < 187) {w : Cond} (hw : w ∈ mW mi) : w ∈ lw_tbl := by
  have : w ∈ (List.range 187).flatMap mW := List.mem_flatMap.mpr ⟨mi, List.mem_range.mpr h, hw⟩
  rw [mW_ok] at this
  obtain ⟨i, -, hi⟩ := List.mem_filterMap.mp this
  exact List.mem_of_getElem? hi
theorem fW_in {ci : Nat} (h : ci < 11) {w : Cond} (hw : w ∈ u_ws (cR ci) (cT ci) (cN ci)) : w ∈ gT := by
  have : w ∈ (List.range 11).flatMap (fun ci => u_ws (cR ci) (cT ci) (cN ci)) := List.mem_flatMap.mpr ⟨ci, List.mem_range.mpr h, hw⟩
  rw [fW_ok] at this
  obtain ⟨i, -, hi⟩ := List.mem_filterMap.mp this
  refine in_gT (List.mem_of_getElem? hi) ?_
  obtain ⟨k, -, rfl⟩ := List.mem_map.mp hw
  unfold u_lay
  split <;> rfl
