/-! ACTS on the class's side: lists -/
abbrev A2 : Type := Int32 × Int32
abbrev A3 : Type := Int32 × Int32 × Int32
def push {α : Type} (cap : Nat) (l : List α) (x : α) : List α := if l.length < cap then l ++ [x] else l
def WL (w : PW) (ga : Nat) (l : List A2) : Prop := gI w (ga, 54) 3 = nI l.length ∧ ∀ k x, l[k]? = some x → gI w (ga, 56) k = x.1 ∧ gI w (ga, 57) k = x.2
def TL (w : PW) (ga : Nat) (l : List A3) : Prop := gI w (ga, 54) 3 = nI l.length ∧ ∀ k x, l[k]? = some x → gI w (ga, 55) k = x.1 ∧ gI w (ga, 56) k = x.2.1 ∧ gI w (ga, 57) k = x.2.2
/-- nothing changes but the Acts of a group -/
def AF (ga : Nat) (w w' : PW) : Prop := w'.2 = w.2 ∧ ∀ g j, ¬ (g = ga ∧ 54 ≤ j ∧ j ≤ 57) → gI w' (g, j) = gI w (g, j)
theorem AF.rfl' {ga w} : AF ga w w := ⟨rfl, fun _ _ _ => rfl⟩
theorem AF.tr {ga w w' w''} (h : AF ga w w') (h' : AF ga w' w'') : AF ga w w'' := ⟨h'.1.trans h.1, fun g j hh => (h'.2 g j hh).trans (h.2 g j hh)⟩
theorem sI_ne {w : PW} {g g' j j' i : Nat} {v : Int32} (h : ¬ (g = g' ∧ j = j')) : gI (sI w (g', j') i v) (g, j) = gI w (g, j) := by
  by_cases h1 : j = j'
  · subst h1; exact gI_gs (beq_f (fun e => h ⟨e, rfl⟩))
  · exact gI_so (beq_f h1)
theorem aI_ne {w : PW} {g g' j j' : Nat} {f : Nat → Int32} (h : ¬ (g = g' ∧ j = j')) : gI (aI w (g', j') f) (g, j) = gI w (g, j) := by
  by_cases h1 : j = j'
  · subst h1; exact gI_ga (beq_f (fun e => h ⟨e, rfl⟩))
  · exact gI_ao (beq_f h1)
theorem AF_s {ga w j i} {v : Int32} (h : 54 ≤ j ∧ j ≤ 57) : AF ga w (sI w (ga, j) i v) := ⟨rfl, fun g j' hh => sI_ne (fun e => hh ⟨e.1, by omega, by omega⟩)⟩
theorem AF_a {ga w j} {f : Nat → Int32} (h : 54 ≤ j ∧ j ≤ 57) : AF ga w (aI w (ga, j) f) := ⟨rfl, fun g j' hh => aI_ne (fun e => hh ⟨e.1, by omega, by omega⟩)⟩
theorem push_at {α : Type} {l : List α} {x y : α} {k : Nat} (h : (l ++ [x])[k]? = some y) : (l[k]? = some y ∧ k < l.length) ∨ (k = l.length ∧ y = x) := by
  rw [List.getElem?_append] at h
  by_cases h1 : k < l.length
  · rw [if_pos h1] at h; exact Or.inl ⟨h, h1⟩
  · rw [if_neg h1] at h
    by_cases h2 : k = l.length
    · subst h2; rw [Nat.sub_self] at h; exact Or.inr ⟨rfl, (Option.some.inj h).symm⟩
    · exfalso
      obtain ⟨n, hn⟩ : ∃ n, k - l.length = n + 1 := ⟨k - l.length - 1, by omega⟩
      rw [hn] at h; cases h
/-- what add leaves -/
def addW (w : PW) (ga : Nat) (n : Nat) (a b c : Int32) : PW := sI (sI (sI (sI w (ga, 55) n a) (ga, 56) n b) (ga, 57) n c) (ga, 54) 3 (nI (n + 1))
theorem addW_AF {w ga n a b c} : AF ga w (addW w ga n a b c) :=
  (((AF_s (by omega)).tr (AF_s (by omega))).tr (AF_s (by omega))).tr (AF_s (by omega))
theorem addW_54 {w ga n a b c} : gI (addW w ga n a b c) (ga, 54) 3 = nI (n + 1) := gI_sat
theorem addW_55 {w ga n a b c} : gI (addW w ga n a b c) (ga, 55) = ub (gI w (ga, 55)) n a := by
  unfold addW; rw [sI_ne (by omega), sI_ne (by omega), sI_ne (by omega), gI_s]
theorem addW_56 {w ga n a b c} : gI (addW w ga n a b c) (ga, 56) = ub (gI w (ga, 56)) n b := by
  unfold addW; rw [sI_ne (by omega), sI_ne (by omega), gI_s, sI_ne (by omega)]
theorem addW_57 {w ga n a b c} : gI (addW w ga n a b c) (ga, 57) = ub (gI w (ga, 57)) n c := by
  unfold addW; rw [sI_ne (by omega), gI_s, sI_ne (by omega), sI_ne (by omega)]
theorem c_addT {w ga k} {l : List A3} {a b c : Int32} (cap : Nat) (hc5 : len ga 55 = cap) (hc6 : len ga 56 = cap) (hc7 : len ga 57 = cap) (hcap : cap ≤ 40) (hl : TL w ga l) (hle : l.length ≤ cap)
    (h : ∀ w', TL w' ga (push cap l (a, b, c)) → AF ga w w' → k w') : Cl 1 [vO ga 54, vI a, vI b, vI c] w (kV k) := by
  apply v_X0_add_0
  rw [hl.1, hc5, hc6, hc7]
  refine ⟨fun h1 => ?_, fun h1 => ?_⟩
  · have h2 : cap ≤ l.length := by
      rw [bb_0] at h1
      have := Decidable.not_not.mp h1
      rwa [le_nI (by omega) (by omega)] at this
    refine h w ?_ AF.rfl'
    unfold push; rw [if_neg (by omega)]; exact hl
  · have h2 : l.length < cap := by
      rw [bb_0, le_nI (by omega) (by omega)] at h1; omega
    simp (disch := first | decide | omega) only [cl_nI, in_T, le_nI, lt_nI, nI_s1, true_and, and_true, true_implies, false_implies, implies_true, Nat.le_refl, Nat.lt_irrefl, not_false_eq_true, not_true_eq_false, eq_self, i10, i_ten, i_fv, i_fr]
    refine h (addW w ga l.length a b c) ?_ addW_AF
    unfold push; rw [if_pos h2]
    refine ⟨by rw [addW_54, List.length_append]; rfl, fun k x hx => ?_⟩
    rw [addW_55, addW_56, addW_57]
    rcases push_at hx with ⟨g1, g2⟩ | ⟨g1, g2⟩
    · rw [ub_ne (beq_f (by omega)), ub_ne (beq_f (by omega)), ub_ne (beq_f (by omega))]; exact hl.2 k x g1
    · subst g1 g2; rw [ub_same, ub_same, ub_same]; exact ⟨rfl, rfl, rfl⟩
theorem c_addW {w ga k} {l : List A2} {a b c : Int32} (cap : Nat) (hc5 : len ga 55 = cap) (hc6 : len ga 56 = cap) (hc7 : len ga 57 = cap) (hcap : cap ≤ 40) (hl : WL w ga l) (hle : l.length ≤ cap)
    (h : ∀ w', WL w' ga (push cap l (b, c)) → AF ga w w' → k w') : Cl 1 [vO ga 54, vI a, vI b, vI c] w (kV k) := by
  apply v_X0_add_0
  rw [hl.1, hc5, hc6, hc7]
  refine ⟨fun h1 => ?_, fun h1 => ?_⟩
  · have h2 : cap ≤ l.length := by
      rw [bb_0] at h1
      have := Decidable.not_not.mp h1
      rwa [le_nI (by omega) (by omega)] at this
    refine h w ?_ AF.rfl'
    unfold push; rw [if_neg (by omega)]; exact hl
  · have h2 : l.length < cap := by
      rw [bb_0, le_nI (by omega) (by omega)] at h1; omega
    simp (disch := first | decide | omega) only [cl_nI, in_T, le_nI, lt_nI, nI_s1, true_and, and_true, true_implies, false_implies, implies_true, Nat.le_refl, Nat.lt_irrefl, not_false_eq_true, not_true_eq_false, eq_self, i10, i_ten, i_fv, i_fr]
    refine h (addW w ga l.length a b c) ?_ addW_AF
    unfold push; rw [if_pos h2]
    refine ⟨by rw [addW_54, List.length_append]; rfl, fun k x hx => ?_⟩
    rw [addW_56, addW_57]
    rcases push_at hx with ⟨g1, g2⟩ | ⟨g1, g2⟩
    · rw [ub_ne (beq_f (by omega)), ub_ne (beq_f (by omega))]; exact hl.2 k x g1
    · subst g1 g2; rw [ub_same, ub_same]; exact ⟨rfl, rfl⟩
theorem push_le {α : Type} {cap : Nat} {l : List α} {x : α} (h : l.length ≤ cap) : (push cap l x).length ≤ cap := by
  unfold push
  by_cases g : l.length < cap
  · rw [if_pos g, List.length_append]; exact g
  · rw [if_neg g]; exact h
def isH (h : Int32) (x : A3) : Bool := decide (x.1 = h)
def pushH (l : List A2) (x : A3) : List A2 := push 40 l (x.2.1, x.2.2)
theorem pushH_le {l : List A2} {r : List A3} (h : l.length ≤ 40) : (r.foldl pushH l).length ≤ 40 := by
  induction r generalizing l with
  | nil => exact h
  | cons x r ih => exact ih (push_le h)
theorem len_t5 {g : Nat} (h : g ≤ 8) : len (tg g) 55 = 32 ∧ len (tg g) 56 = 32 ∧ len (tg g) 57 = 32 := by
  rcases g with _ | _ | _ | _ | _ | _ | _ | _ | _ | g <;> first | decide | omega
theorem len_w5 {g : Nat} (h : g ≤ 8) : len (wg g) 55 = 40 ∧ len (wg g) 56 = 40 ∧ len (wg g) 57 = 40 := by
  rcases g with _ | _ | _ | _ | _ | _ | _ | _ | _ | g <;> first | decide | omega
def AF2 (g : Nat) (w w' : PW) : Prop := w'.2 = w.2 ∧ ∀ g' j, ¬ ((g' = wg g ∨ g' = tg g) ∧ 54 ≤ j ∧ j ≤ 57) → gI w' (g', j) = gI w (g', j)
theorem AF2.tr {ga w w' w''} (h : AF2 ga w w') (h' : AF2 ga w' w'') : AF2 ga w w'' := ⟨h'.1.trans h.1, fun g j hh => (h'.2 g j hh).trans (h.2 g j hh)⟩
theorem AF.w2 {g w w'} (h : AF (wg g) w w') : AF2 g w w' := ⟨h.1, fun g' j hh => h.2 g' j (fun e => hh ⟨Or.inl e.1, e.2⟩)⟩
theorem AF.t2 {g w w'} (h : AF (tg g) w w') : AF2 g w w' := ⟨h.1, fun g' j hh => h.2 g' j (fun e => hh ⟨Or.inr e.1, e.2⟩)⟩
theorem wt_ne {g : Nat} : ¬ wg g = tg g := by unfold wg tg; omega
theorem tw_ne {g : Nat} : ¬ tg g = wg g := by unfold wg tg; omega
theorem c_mtf_loop {g k} {hr : Int32} (hg : g ≤ 8) : ∀ (r d : List A3) (i : Nat) (W : List A2) (w : PW), d.length ≤ i → i + r.length ≤ 32 → W.length ≤ 40 →
    gI w (tg g, 54) 3 = nI (i + r.length) → (∀ q x, d[q]? = some x → gI w (tg g, 55) q = x.1 ∧ gI w (tg g, 56) q = x.2.1 ∧ gI w (tg g, 57) q = x.2.2) →
    (∀ q x, r[q]? = some x → gI w (tg g, 55) (i + q) = x.1 ∧ gI w (tg g, 56) (i + q) = x.2.1 ∧ gI w (tg g, 57) (i + q) = x.2.2) → WL w (wg g) W →
    (∀ w', TL w' (tg g) (d ++ r.filter (fun x => !isH hr x)) → WL w' (wg g) ((r.filter (isH hr)).foldl pushH W) → AF2 g w w' → k w') →
    Wp 3 5 [some (.inr (.inr (tg g, 54))), some (.inl hr), some (.inr (.inr (wg g, 54))), some (.inl (nI d.length)), some (.inl (nI i))] [] w (kV k) := by
  obtain ⟨t5, t6, t7⟩ := len_t5 hg
  obtain ⟨w5, w6, w7⟩ := len_w5 hg
  intro r
  induction r with
  | nil =>
    intro d i W w hd hi hW hs h1 h2 hw h
    apply v_X0_moveThoseFor_5
    rw [hs, List.length_nil, Nat.add_zero]
    rw [List.length_nil] at hi
    simp (disch := first | decide | omega) only [cl_nI, in_T, le_nI, lt_nI, nI_s1, true_and, and_true, true_implies, false_implies, implies_true, Nat.le_refl, Nat.lt_irrefl, not_false_eq_true, not_true_eq_false, eq_self, i10, i_ten, i_fv, i_fr]
    refine h (sI w (tg g, 54) 3 (nI d.length)) ?_ ?_ (AF.t2 (AF_s (by omega)))
    · rw [List.filter_nil, List.append_nil]
      refine ⟨gI_sat, fun q x hx => ?_⟩
      rw [sI_ne (by omega), sI_ne (by omega), sI_ne (by omega)]; exact h1 q x hx
    · refine ⟨?_, fun q x hx => ?_⟩
      · rw [sI_ne (fun e => wt_ne e.1)]; exact hw.1
      · rw [sI_ne (by omega), sI_ne (by omega)]; exact hw.2 q x hx
  | cons x r ih =>
    intro d i W w hd hi hW hs h1 h2 hw h
    rw [List.length_cons] at hi hs
    have hx := h2 0 x rfl
    rw [Nat.add_zero] at hx
    have h2' : ∀ q y, r[q]? = some y → gI w (tg g, 55) (i + 1 + q) = y.1 ∧ gI w (tg g, 56) (i + 1 + q) = y.2.1 ∧ gI w (tg g, 57) (i + 1 + q) = y.2.2 := by
      intro q y hy
      have := h2 (q + 1) y hy
      rw [show i + (q + 1) = i + 1 + q by omega] at this; exact this
    apply v_X0_moveThoseFor_5
    rw [hs, t5, t6, t7]
    simp (disch := first | decide | omega) only [cl_nI, in_T, le_nI, lt_nI, nI_s1, true_and, and_true, true_implies, false_implies, implies_true, Nat.le_refl, Nat.lt_irrefl, not_false_eq_true, not_true_eq_false, eq_self, i10, i_ten, i_fv, i_fr, show i < i + (r.length + 1) by omega, Nat.not_le.mpr (show i < i + (r.length + 1) by omega), hx.1, hx.2.1, hx.2.2]
    refine ⟨fun g1 => ?_, fun g1 => ?_⟩
    · have e : isH hr x = false := decide_eq_false g1
      rw [show d.length + 1 = (d ++ [x]).length by rw [List.length_append]; rfl]
      have q5 : gI (sI (sI (sI w (tg g, 55) d.length x.1) (tg g, 56) d.length x.2.1) (tg g, 57) d.length x.2.2) (tg g, 55) = ub (gI w (tg g, 55)) d.length x.1 := by
        rw [sI_ne (by omega), sI_ne (by omega), gI_s]
      have q6 : gI (sI (sI (sI w (tg g, 55) d.length x.1) (tg g, 56) d.length x.2.1) (tg g, 57) d.length x.2.2) (tg g, 56) = ub (gI w (tg g, 56)) d.length x.2.1 := by
        rw [sI_ne (by omega), gI_s, sI_ne (by omega)]
      have q7 : gI (sI (sI (sI w (tg g, 55) d.length x.1) (tg g, 56) d.length x.2.1) (tg g, 57) d.length x.2.2) (tg g, 57) = ub (gI w (tg g, 57)) d.length x.2.2 := by
        rw [gI_s, sI_ne (by omega), sI_ne (by omega)]
      have q4 : gI (sI (sI (sI w (tg g, 55) d.length x.1) (tg g, 56) d.length x.2.1) (tg g, 57) d.length x.2.2) (tg g, 54) = gI w (tg g, 54) := by
        rw [sI_ne (by omega), sI_ne (by omega), sI_ne (by omega)]
      have qf : AF (tg g) w (sI (sI (sI w (tg g, 55) d.length x.1) (tg g, 56) d.length x.2.1) (tg g, 57) d.length x.2.2) := ((AF_s (by omega)).tr (AF_s (by omega))).tr (AF_s (by omega))
      generalize sI (sI (sI w (tg g, 55) d.length x.1) (tg g, 56) d.length x.2.1) (tg g, 57) d.length x.2.2 = w1 at q4 q5 q6 q7 qf ⊢
      refine ih (d ++ [x]) (i + 1) W w1 (by rw [List.length_append]; simp; omega) (by omega) hW (by rw [q4, hs, show i + (r.length + 1) = i + 1 + r.length by omega]) ?_ ?_ ?_ ?_
      · intro q y hy
        rw [q5, q6, q7]
        rcases push_at hy with ⟨g2, g3⟩ | ⟨g2, g3⟩
        · rw [ub_ne (beq_f (by omega)), ub_ne (beq_f (by omega)), ub_ne (beq_f (by omega))]; exact h1 q y g2
        · subst g2 g3; rw [ub_same, ub_same, ub_same]; exact ⟨rfl, rfl, rfl⟩
      · intro q y hy
        rw [q5, q6, q7, ub_ne (beq_f (by omega)), ub_ne (beq_f (by omega)), ub_ne (beq_f (by omega))]; exact h2' q y hy
      · refine ⟨?_, fun q y hy => ?_⟩
        · rw [qf.2 _ _ (fun e => wt_ne e.1)]; exact hw.1
        · rw [qf.2 _ _ (fun e => wt_ne e.1), qf.2 _ _ (fun e => wt_ne e.1)]; exact hw.2 q y hy
      · intro w' a1 a2 a3
        refine h w' ?_ ?_ ((AF.t2 qf).tr a3)
        · rw [List.filter_cons, e, if_pos (by rfl)]
          rw [List.append_assoc] at a1; exact a1
        · rw [List.filter_cons, e, if_neg (by decide)]; exact a2
    · have e : isH hr x = true := decide_eq_true g1
      refine c_addW 40 w5 w6 w7 (by omega) hw hW ?_
      intro w1 a1 a2
      refine ih d (i + 1) (push 40 W (x.2.1, x.2.2)) w1 (by omega) (by omega) (push_le hW) ?_ ?_ ?_ a1 ?_
      · rw [a2.2 _ _ (fun e => tw_ne e.1), hs, show i + (r.length + 1) = i + 1 + r.length by omega]
      · intro q y hy
        rw [a2.2 _ _ (fun e => tw_ne e.1), a2.2 _ _ (fun e => tw_ne e.1), a2.2 _ _ (fun e => tw_ne e.1)]; exact h1 q y hy
      · intro q y hy
        rw [a2.2 _ _ (fun e => tw_ne e.1), a2.2 _ _ (fun e => tw_ne e.1), a2.2 _ _ (fun e => tw_ne e.1)]; exact h2' q y hy
      · intro w' b1 b2 b3
        refine h w' ?_ ?_ ((AF.w2 a2).tr b3)
        · rw [List.filter_cons, e, if_neg (by decide)]; exact b1
        · rw [List.filter_cons, e, if_pos rfl]; exact b2
theorem c_mtf {g w k} {hr : Int32} {T : List A3} {W : List A2} (hg : g ≤ 8) (hT : TL w (tg g) T) (hT2 : T.length ≤ 32) (hw : WL w (wg g) W) (hW : W.length ≤ 40)
    (h : ∀ w', TL w' (tg g) (T.filter (fun x => !isH hr x)) → WL w' (wg g) ((T.filter (isH hr)).foldl pushH W) → AF2 g w w' → k w') :
    Cl 3 [vO (tg g) 54, vI hr, vO (wg g) 54] w (kV k) := by
  apply v_X0_moveThoseFor_0
  refine c_mtf_loop (d := []) (i := 0) hg T W w (Nat.le_refl _) (by omega) hW (by rw [hT.1, Nat.zero_add]) (fun q x hx => by cases hx) (fun q x hx => by rw [Nat.zero_add]; exact hT.2 q x hx) hw ?_
  intro w' a1 a2 a3
  exact h w' a1 a2 a3
