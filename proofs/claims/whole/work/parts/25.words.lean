/-! RULES: their words, and what they say -/
abbrev O3 : Type := Nat × Nat × Int32
def ib (b : Bool) : Int32 := bif b then 1 else 0
theorem ib_b01 {b : Bool} : b01 (ib b) := by
  cases b
  · exact b01_0
  · exact b01_1
theorem ib_f {b : Bool} (h : ib b = 0) : b = false := by
  cases b
  · rfl
  · exact absurd h (by decide)
theorem ib_t {b : Bool} (h : ¬ ib b = 0) : b = true := by
  cases b
  · exact absurd rfl h
  · rfl
def oln (o : Nat) : Nat := if o ≤ 2 then 3 else if o ≤ 5 then 2 else 1
def OX (R : Nat) (x : O3) : Prop := 1 ≤ x.1 ∧ x.1 ≤ 8 ∧ (x.1 ≤ 3 → x.2.1 < R)
def OC (oa pa na : Nat → Int32) : Nat → List O3 → Prop
  | _, [] => True
  | k, x :: l => oa k = nI x.1 ∧ pa k = nI x.2.1 ∧ na k = x.2.2 ∧ OC oa pa na (k + 1) l
def OM (wa : Nat → Int32) : Nat → List O3 → Prop
  | k, [] => wa k = 0 ∧ k < 1200
  | k, x :: l => wa k = nI x.1 ∧ (x.1 ≤ 3 → wa (k + 1) = nI x.2.1) ∧ (x.1 ≤ 2 → wa (k + 2) = x.2.2) ∧ (x.1 = 4 ∨ x.1 = 5 → wa (k + 1) = x.2.2) ∧ OM wa (k + oln x.1) l
theorem OM_lt {wa : Nat → Int32} : ∀ (l : List O3) (k : Nat), OM wa k l → k < 1200 := by
  intro l
  induction l with
  | nil => exact fun k h => h.2
  | cons x l ih => intro k h; have := ih _ h.2.2.2.2; omega
def OS (R : Nat) : Nat → List O3 → Prop
  | d, [] => d = 1
  | d, x :: l => OX R x ∧ (x.1 = 8 → 0 < d ∧ OS R d l) ∧ (x.1 = 6 ∨ x.1 = 7 → 1 < d ∧ OS R (d - 1) l) ∧ (x.1 ≤ 5 → d < 8 ∧ OS R (d + 1) l)
def stp (B : O3 → Bool) (x : O3) (st : List Bool) : List Bool :=
  if x.1 = 8 then (match st with | a :: t => (!a) :: t | [] => [])
  else if x.1 = 6 then (match st with | b :: a :: t => (a && b) :: t | t => t)
  else if x.1 = 7 then (match st with | b :: a :: t => (a || b) :: t | t => t)
  else B x :: st
def evs (B : O3 → Bool) : List O3 → List Bool → Bool
  | [], st => (match st with | a :: _ => a | [] => false)
  | x :: l, st => evs B l (stp B x st)
def SK (a : Nat → Int32) : List Bool → Prop
  | [] => True
  | b :: t => a t.length = ib b ∧ SK a t
theorem SK_ub {a : Nat → Int32} {v : Int32} : ∀ (t : List Bool) (k : Nat), t.length ≤ k → SK a t → SK (ub a k v) t := by
  intro t
  induction t with
  | nil => intro _ _ _; exact trivial
  | cons b t ih =>
    intro k hk h
    rw [List.length_cons] at hk
    exact ⟨by rw [ub_ne (beq_f (by omega))]; exact h.1, ih k (by omega) h.2⟩
theorem SK_top {a : Nat → Int32} {b : Bool} {t : List Bool} {v : Int32} (hv : v = ib b) (h : SK a t) : SK (ub a t.length v) (b :: t) :=
  ⟨by rw [ub_same]; exact hv, SK_ub t _ (Nat.le_refl _) h⟩
def Bx (ey jm : Nat → Int32) (hr : Nat) (wm : Int32) (rl : Nat → Nat → Int32) (rf : Nat → Nat → Nat) (M : List M4) (x : O3) : Bool :=
  if x.1 = 3 then decide (¬ ey x.2.1 = 0 ∧ 0 < jm x.2.1)
  else if x.1 = 4 then decide (x.2.2 ≤ nI (hr + 1))
  else if x.1 = 5 then decide (x.2.2 ≤ wm)
  else if x.1 = 1 then decide (0 < ne rl rf ((hr + 1 : Nat) : Int) M x.2.1 hr ∧ 10 * x.2.2 ≤ kn rl rf ((hr + 1 : Nat) : Int) M x.2.1 (ne rl rf ((hr + 1 : Nat) : Int) M x.2.1 hr))
  else decide (0 < ne rl rf ((hr + 1 : Nat) : Int) M x.2.1 (ne rl rf ((hr + 1 : Nat) : Int) M x.2.1 hr - 1) ∧ x.2.2 ≤ kn rl rf ((hr + 1 : Nat) : Int) M x.2.1 (ne rl rf ((hr + 1 : Nat) : Int) M x.2.1 hr) - kn rl rf ((hr + 1 : Nat) : Int) M x.2.1 (ne rl rf ((hr + 1 : Nat) : Int) M x.2.1 (ne rl rf ((hr + 1 : Nat) : Int) M x.2.1 hr - 1)))
theorem ne_pos {rl rf M i} {at' : Int} : ∀ h, 0 < ne rl rf at' M i h → 0 ≤ (kn rl rf at' M i (ne rl rf at' M i h)).toInt := by
  intro h
  induction h with
  | zero => intro hh; exact absurd hh (Nat.lt_irrefl _)
  | succ h ih =>
    unfold ne
    by_cases g : 0 ≤ (kn rl rf at' M i (h + 1)).toInt
    · rw [if_pos g]; intro _; exact g
    · rw [if_neg g]; exact ih
theorem ne_kn {R hr rl rf M i h} {at' : Int} (hb : BO R hr rl rf M) (hi : i < R) (ha : (hr : Int) + 1 ≤ at') (hn : 0 < ne rl rf at' M i h) : kn rl rf at' M i (ne rl rf at' M i h) = (cu rl rf M i (ne rl rf at' M i h)).1 := by
  rw [kn_all hb ha M (fun _ hx => hx), if_pos ((kn_sgn hb hi ha).mp (ne_pos h hn))]
theorem BK_fr {w w' : PW} {b R hr rl rf M} (h : ∀ j, 62 ≤ j → j ≤ 68 → gI w' (b, j) = gI w (b, j)) (hb : BK w b R hr rl rf M) : BK w' b R hr rl rf M := by
  unfold BK
  rw [h 62 (by omega) (by omega), h 63 (by omega) (by omega), h 64 (by omega) (by omega), h 65 (by omega) (by omega), h 66 (by omega) (by omega), h 67 (by omega) (by omega), h 68 (by omega) (by omega)]
  exact hb
def OEc (w : PW) (d R hr : Nat) (wm : Int32) (ey jm : Nat → Int32) (rl : Nat → Nat → Int32) (rf : Nat → Nat → Nat) (M : List M4) : Prop :=
  BK w (bg d) R hr rl rf M ∧ BL (bg d) hr ∧ BO R hr rl rf M ∧ R ≤ 24 ∧ hr ≤ 396 ∧ gI w (d, 40) 0 = nI hr ∧ gI w (d, 40) 3 = wm ∧ gI w (0, 12) = ey ∧ gI w (d, 45) = jm
theorem OEc_fr {w : PW} {d R hr wm ey jm rl rf M} {f : Nat → Int32} (h : OEc w d R hr wm ey jm rl rf M) : OEc (aI w (0, 31) f) d R hr wm ey jm rl rf M := by
  obtain ⟨h1, h2, h3, h4, h5, h6, h7, h8, h9⟩ := h
  exact ⟨BK_fr (fun j _ _ => gI_ao (beq_f (by omega))) h1, h2, h3, h4, h5, by rw [gI_ao rfl]; exact h6, by rw [gI_ao rfl]; exact h7, by rw [gI_ao rfl]; exact h8, by rw [gI_ao rfl]; exact h9⟩
theorem c_orderHolds {w d R hr wm ey jm rl rf M k} {x : O3} (he : OEc w d R hr wm ey jm rl rf M) (hx : OX R x) (h5 : x.1 ≤ 5)
    (hk : k (ib (Bx ey jm hr wm rl rf M x)) w) : Cl 32 [vO 0 29, vI (nI x.1), vI (nI x.2.1), vI x.2.2, vO d 40] w (kI k) := by
  obtain ⟨hbk, hbl, hb, h24, h4, hh, hw, hey, hjm⟩ := he
  obtain ⟨o, p, q⟩ := x
  obtain ⟨x1, x2, x3⟩ := hx
  have x1' : 1 ≤ o := x1
  have h5' : o ≤ 5 := h5
  have x3' : o ≤ 3 → p < R := x3
  have a1 : gI w (d, 40) 0 + 1 = nI (hr + 1) := by rw [hh]; exact nI_s1
  have fin : ∀ b : Bool, b = Bx ey jm hr wm rl rf M (o, p, q) → b01 (ib b) ∧ kI k (.inl (ib b)) w := fun b hb' => ⟨ib_b01, by rw [hb']; exact hk⟩
  obtain ⟨nb, n3, n4, n5, n6, n7⟩ := hbl
  have rd : ∀ n, 0 < n → n ≤ hr → p < R → vp_in (nI (n * 24 + p)) (len (bg d) 63) ∧ gI w (bg d, 63) (nI (n * 24 + p)).toNatClampNeg = (cu rl rf M p n).1 := by
    intro n hn1 hn2 hp
    have : n * 24 ≤ hr * 24 := Nat.mul_le_mul_right _ hn2
    refine ⟨by rw [n3]; exact in_nI (by omega) (by omega), ?_⟩
    rw [cl_nI (by omega)]
    exact (hbk.2.2.1 p n hp hn1 hn2).1
  have z : ∀ n, n ≤ hr → ((nI n = 0) = (n = 0)) := fun n hn => propext (nI_inj (a := n) (b := 0) (by omega) (by omega))
  show Cl 32 [vO 0 29, vI (nI o), vI (nI p), vI q, vO d 40] w (kI k)
  apply v_X6_orderHolds_0
  rw [a1, hh, hw]
  rcases (show o = 1 ∨ o = 2 ∨ o = 3 ∨ o = 4 ∨ o = 5 by omega) with rfl | rfl | rfl | rfl | rfl
  · have hp : p < R := x3' (by omega)
    refine ⟨fun _ => ⟨fun _ => ⟨fun _ => ?_, fun e => absurd e (by decide)⟩, fun e => absurd e (by decide)⟩, fun e => absurd e (by decide)⟩
    refine c_newestKnown hbk ⟨nb, n3, n4, n5, n6, n7⟩ hb hp h24 (by omega) (Nat.le_refl _) (by omega) (Nat.le_refl _) ?_
    have nl := ne_le (rl := rl) (rf := rf) (M := M) (i := p) (at' := ((hr + 1 : Nat) : Int)) hr
    have eB : Bx ey jm hr wm rl rf M (1, p, q) = decide (0 < ne rl rf ((hr + 1 : Nat) : Int) M p hr ∧ 10 * q ≤ kn rl rf ((hr + 1 : Nat) : Int) M p (ne rl rf ((hr + 1 : Nat) : Int) M p hr)) := rfl
    have nk : 0 < ne rl rf ((hr + 1 : Nat) : Int) M p hr → _ := ne_kn (h := hr) hb hp (by omega)
    rw [eB] at fin
    generalize ne rl rf ((hr + 1 : Nat) : Int) M p hr = n at *
    simp only [ix_b, z n nl]
    refine ⟨fun g => ⟨(rd n (by omega) nl hp).1, fun e => absurd rfl e, fun _ => ?_⟩, fun g => ?_⟩
    · rw [(rd n (by omega) nl hp).2, ← nk (by omega)]
      refine ⟨fun g1 => fin false ?_, fun g1 => fin true ?_⟩
      · exact (decide_eq_false fun x => Int32.not_le.mpr g1 x.2).symm
      · exact (decide_eq_true ⟨by omega, g1⟩).symm
    · exact fin false (decide_eq_false fun x => by omega).symm
  · have hp : p < R := x3' (by omega)
    refine ⟨fun _ => ⟨fun _ => ⟨fun _ => ?_, fun e => absurd e (by decide)⟩, fun e => absurd e (by decide)⟩, fun e => absurd e (by decide)⟩
    refine c_newestKnown hbk ⟨nb, n3, n4, n5, n6, n7⟩ hb hp h24 (by omega) (Nat.le_refl _) (by omega) (Nat.le_refl _) ?_
    have nl := ne_le (rl := rl) (rf := rf) (M := M) (i := p) (at' := ((hr + 1 : Nat) : Int)) hr
    have eB : Bx ey jm hr wm rl rf M (2, p, q) = decide (0 < ne rl rf ((hr + 1 : Nat) : Int) M p (ne rl rf ((hr + 1 : Nat) : Int) M p hr - 1) ∧ q ≤ kn rl rf ((hr + 1 : Nat) : Int) M p (ne rl rf ((hr + 1 : Nat) : Int) M p hr) - kn rl rf ((hr + 1 : Nat) : Int) M p (ne rl rf ((hr + 1 : Nat) : Int) M p (ne rl rf ((hr + 1 : Nat) : Int) M p hr - 1))) := rfl
    have nk : 0 < ne rl rf ((hr + 1 : Nat) : Int) M p hr → _ := ne_kn (h := hr) hb hp (by omega)
    rw [eB] at fin
    generalize ne rl rf ((hr + 1 : Nat) : Int) M p hr = n at *
    simp only [ix_b, z n nl]
    refine ⟨fun g => ⟨(rd n (by omega) nl hp).1, fun _ => ?_, fun e => absurd e (by decide)⟩, fun g => ?_⟩
    · obtain ⟨y, rfl⟩ : ∃ y, n = y + 1 := ⟨n - 1, by omega⟩
      rw [nI_m1]
      rw [show y + 1 - 1 = y from rfl] at fin
      refine c_newestKnown hbk ⟨nb, n3, n4, n5, n6, n7⟩ hb hp h24 (by omega) (Nat.le_refl _) (by omega) (show y ≤ hr by omega) ?_
      have ml := ne_le (rl := rl) (rf := rf) (M := M) (i := p) (at' := ((hr + 1 : Nat) : Int)) y
      have mk : 0 < ne rl rf ((hr + 1 : Nat) : Int) M p y → _ := ne_kn (h := y) hb hp (by omega)
      generalize ne rl rf ((hr + 1 : Nat) : Int) M p y = m at *
      simp only [ix_b]
      rw [i_le0 (by omega), i_0lt (by omega)]
      refine ⟨fun g2 => fin false (decide_eq_false fun x => by omega).symm, fun g2 => ⟨(rd m (by omega) (by omega) hp).1, ?_⟩⟩
      rw [(rd m (by omega) (by omega) hp).2, (rd (y + 1) (by omega) nl hp).2, ← nk (by omega), ← mk (by omega)]
      refine ⟨fun g1 => fin false ?_, fun g1 => fin true ?_⟩
      · exact (decide_eq_false fun x => Int32.not_le.mpr g1 x.2).symm
      · exact (decide_eq_true ⟨by omega, g1⟩).symm
    · subst g
      exact fin false (decide_eq_false fun x => absurd x.1 (Nat.lt_irrefl _)).symm
  · have hp : p < R := x3' (by omega)
    refine ⟨fun e => absurd rfl e, fun _ => ?_⟩
    have hin : vp_in (nI p) 24 := in_nI (by omega) (by omega)
    have eB : Bx ey jm hr wm rl rf M (3, p, q) = decide (¬ ey p = 0 ∧ 0 < jm p) := rfl
    rw [eB] at fin
    show vp_in (nI p) 24 ∧ _
    rw [hey, hjm, cl_nI (by omega)]
    refine ⟨hin, fun g => fin false (decide_eq_false fun x => x.1 g).symm, fun g => ⟨hin, fun g1 => fin false (decide_eq_false fun x => Int32.not_lt.mpr g1 x.2).symm, fun g1 => fin true (decide_eq_true ⟨g, g1⟩).symm⟩⟩
  · refine ⟨fun _ => ⟨fun e => absurd rfl e, fun _ => ?_⟩, fun e => absurd e (by decide)⟩
    have eB : Bx ey jm hr wm rl rf M (4, p, q) = decide (q ≤ nI (hr + 1)) := rfl
    rw [eB] at fin
    refine ⟨fun g => fin false (decide_eq_false (Int32.not_le.mpr g)).symm, fun g => fin true (decide_eq_true g).symm⟩
  · refine ⟨fun _ => ⟨fun _ => ⟨fun e => absurd rfl e, fun _ => ?_⟩, fun e => absurd e (by decide)⟩, fun e => absurd e (by decide)⟩
    have eB : Bx ey jm hr wm rl rf M (5, p, q) = decide (q ≤ wm) := rfl
    rw [eB] at fin
    refine ⟨fun g => fin false (decide_eq_false (Int32.not_le.mpr g)).symm, fun g => fin true (decide_eq_true g).symm⟩
theorem nI_o {a b : Nat} (ha : a < 9) (hb : b < 9) (h : ¬ a = b) : ¬ nI a = nI b := fun e => h ((nI_inj (by omega) (by omega)).mp e)
theorem c_words_loop {w d R hr wm ey jm rl rf M k} {r N : Nat} (he : OEc w d R hr wm ey jm rl rf M) (hr12 : r < 12) (hN : gI w (0, 17) r = nI N) (hN20 : N ≤ 20) :
    ∀ (l : List O3) (i : Nat) (st : List Bool) (f : Nat → Int32), i + l.length = N → OC (gI w (0, 18)) (gI w (0, 19)) (gI w (0, 20)) (r * 20 + i) l → OS R st.length l → SK f st → st.length ≤ 8 →
    (∀ f, k (ib (evs (Bx ey jm hr wm rl rf M) l st)) (aI w (0, 31) f)) →
    Wp 31 12 [some (.inr (.inr (0, 29))), some (.inl (nI r)), some (.inr (.inr (d, 40))), some (.inl (nI st.length)), some (.inl (nI (r * 20))), some (.inl (nI (r * 20 + i))), none] [] (aI w (0, 31) f) (kI k) := by
  intro l
  induction l with
  | nil =>
    intro i st f hi hoc hos hsk hst hk
    rw [List.length_nil] at hi
    have hos' : st.length = 1 := hos
    obtain ⟨a, rfl⟩ : ∃ a, st = [a] := by
      match st, hos' with
      | [a], _ => exact ⟨a, rfl⟩
    apply v_X6_wordsHold_12
    have g1 : r * 20 + N ≤ r * 20 + i := by omega
    simp (disch := first | decide | omega) only [cl_nI, in_T, le_nI, lt_nI, nI_s1, true_and, and_true, true_implies, false_implies, implies_true, Nat.le_refl, Nat.lt_irrefl, not_false_eq_true, not_true_eq_false, eq_self, i10, i_ten, i_fv, i_fr, gI_ao, gI_aI, hr12, hN, nI_ad, g1, Nat.not_lt.mpr g1]
    have f0 : f 0 = ib a := hsk.1
    rw [f0]
    refine ⟨fun e => absurd rfl e, fun _ => ⟨in_nI (j := 0) (by omega) (by omega), fun e => ?_, fun e => ?_⟩⟩
    · apply v_X6_wordsHold_247
      apply v_X6_wordsHold_248
      have := hk f
      rw [ib_f e] at this
      exact ⟨b01_0, this⟩
    · apply v_X6_wordsHold_248
      have := hk f
      rw [ib_t e] at this
      exact ⟨b01_1, this⟩
  | cons x l ih =>
    intro i st f hi hoc hos hsk hst hk
    rw [List.length_cons] at hi
    obtain ⟨c1, c2, c3, c4⟩ := hoc
    obtain ⟨⟨o1, o2, o3⟩, s8, s6, s5⟩ := hos
    have hx : OX R x := ⟨o1, o2, o3⟩
    have nx : ∀ st' f', OS R st'.length l → SK f' st' → st'.length ≤ 8 → stp (Bx ey jm hr wm rl rf M) x st = st' →
        Wp 31 223 [some (.inr (.inr (0, 29))), some (.inl (nI r)), some (.inr (.inr (d, 40))), some (.inl (nI st'.length)), some (.inl (nI (r * 20))), some (.inl (nI (r * 20 + i))), none] [] (aI w (0, 31) f') (kI k) := by
      intro st' f' q1 q2 q3 q4
      apply v_X6_wordsHold_223
      rw [nI_s1, show r * 20 + i + 1 = r * 20 + (i + 1) from rfl]
      refine ih (i + 1) st' f' (by omega) c4 q1 q2 q3 ?_
      intro f2
      have := hk f2
      rw [show evs (Bx ey jm hr wm rl rf M) (x :: l) st = evs (Bx ey jm hr wm rl rf M) l (stp (Bx ey jm hr wm rl rf M) x st) from rfl, q4] at this
      exact this
    have g1 : ¬ r * 20 + N ≤ r * 20 + i := by omega
    have g2 : r * 20 + i < r * 20 + N := by omega
    have hin : vp_in (nI (r * 20 + i)) 240 := in_nI (by omega) (by omega)
    apply v_X6_wordsHold_12
    simp (disch := first | decide | omega) only [cl_nI, in_T, le_nI, lt_nI, nI_s1, true_and, and_true, true_implies, false_implies, implies_true, Nat.le_refl, Nat.lt_irrefl, not_false_eq_true, not_true_eq_false, eq_self, i10, i_ten, i_fv, i_fr, gI_ao, gI_aI, hr12, hN, nI_ad, g1, g2, c1, show r * 20 + i < 240 by omega]
    refine ⟨fun n8 => ?_, fun e8 => ?_⟩
    · have n8' : ¬ x.1 = 8 := fun e => n8 (by rw [e]; rfl)
      apply v_X6_wordsHold_79
      refine ⟨fun n6 => ?_, fun e6 => ?_⟩
      · have n6' : ¬ x.1 = 6 := fun e => n6 (by rw [e]; rfl)
        apply v_X6_wordsHold_130
        refine ⟨fun n7 => ?_, fun e7 => ?_⟩
        · have n7' : ¬ x.1 = 7 := fun e => n7 (by rw [e]; rfl)
          have l5 : x.1 ≤ 5 := by omega
          obtain ⟨d8, q1⟩ := s5 l5
          apply v_X6_wordsHold_181
          simp (disch := first | decide | omega) only [cl_nI, in_T, le_nI, lt_nI, nI_s1, true_and, and_true, true_implies, false_implies, implies_true, Nat.le_refl, Nat.lt_irrefl, not_false_eq_true, not_true_eq_false, eq_self, i10, i_ten, i_fv, i_fr, gI_ao, c2, c3, show r * 20 + i < 240 by omega]
          rw [show (8 : Int32) = nI 8 from rfl, le_nI (by omega) (by omega), lt_nI (by omega) (by omega)]
          refine ⟨fun e => by omega, fun _ => ?_⟩
          refine c_orderHolds (OEc_fr he) hx l5 ?_
          refine ⟨ib_b01, ?_⟩
          rw [sI_aI]
          exact nx (Bx ey jm hr wm rl rf M x :: st) _ q1 (SK_top rfl hsk) d8 (by unfold stp; rw [if_neg n8', if_neg n6', if_neg n7'])
        · have e7' : x.1 = 7 := (nI_inj (b := 7) (by omega) (by omega)).mp e7
          obtain ⟨d1, q1⟩ := s6 (Or.inr e7')
          obtain ⟨b, a, t, rfl⟩ : ∃ b a t, st = b :: a :: t := by
            match st, d1 with
            | b :: a :: t, _ => exact ⟨b, a, t, rfl⟩
          rw [List.length_cons, List.length_cons] at hst ⊢
          have q2 : SK (ub f t.length (ib (a || b))) ((a || b) :: t) := SK_top rfl hsk.2.2
          have q3 : stp (Bx ey jm hr wm rl rf M) x (b :: a :: t) = (a || b) :: t := by
            unfold stp; rw [if_neg n8', if_neg n6', if_pos e7']
          have f1 : f (t.length + 1) = ib b := hsk.1
          have f0 : f t.length = ib a := hsk.2.1
          rw [nI_p1, nI_m1]
          simp (disch := first | decide | omega) only [cl_nI, in_T, le_nI, lt_nI, nI_s1, true_and, and_true, true_implies, false_implies, implies_true, Nat.le_refl, Nat.lt_irrefl, not_false_eq_true, not_true_eq_false, eq_self, i10, i_ten, i_fv, i_fr, gI_ao, gI_aI, f0, f1, show t.length < 8 by omega, show t.length + 1 < 8 by omega]
          have fi : ∀ v, v = ib (a || b) → Wp 31 177 [some (.inr (.inr (0, 29))), some (.inl (nI r)), some (.inr (.inr (d, 40))), some (.inl (nI (t.length + 1))), some (.inl (nI (r * 20))), some (.inl (nI (r * 20 + i))), none] [.inl v, .inl (nI t.length), .inr (.inr (0, 31))] (aI w (0, 31) f) (kI k) := by
            rintro v rfl
            apply v_X6_wordsHold_177
            refine ⟨ib_b01, in_nI (by omega) (by omega), ?_⟩
            rw [sI_aI, cl_nI (by omega)]
            exact nx ((a || b) :: t) _ q1 q2 (by rw [List.length_cons]; omega) q3
          refine ⟨fun e => ?_, fun _ => ⟨fun ga => ?_, fun ga => ⟨fun gb => ?_, fun gb => ?_⟩⟩⟩
          · rw [show (1 : Int32) = nI 1 from rfl, le_nI (by omega) (by omega)] at e; omega
          · apply v_X6_wordsHold_172
            exact fi 1 (by rw [ib_t ga]; rfl)
          · exact fi 0 (by rw [ib_f ga, ib_f gb]; rfl)
          · apply v_X6_wordsHold_172
            exact fi 1 (by rw [ib_t gb, Bool.or_true]; rfl)
      · have e6' : x.1 = 6 := (nI_inj (b := 6) (by omega) (by omega)).mp e6
        obtain ⟨d1, q1⟩ := s6 (Or.inl e6')
        obtain ⟨b, a, t, rfl⟩ : ∃ b a t, st = b :: a :: t := by
          match st, d1 with
          | b :: a :: t, _ => exact ⟨b, a, t, rfl⟩
        rw [List.length_cons, List.length_cons] at hst ⊢
        have q2 : SK (ub f t.length (ib (a && b))) ((a && b) :: t) := SK_top rfl hsk.2.2
        have q3 : stp (Bx ey jm hr wm rl rf M) x (b :: a :: t) = (a && b) :: t := by
          unfold stp; rw [if_neg n8', if_pos e6']
        have f1 : f (t.length + 1) = ib b := hsk.1
        have f0 : f t.length = ib a := hsk.2.1
        rw [nI_p1, nI_m1]
        simp (disch := first | decide | omega) only [cl_nI, in_T, le_nI, lt_nI, nI_s1, true_and, and_true, true_implies, false_implies, implies_true, Nat.le_refl, Nat.lt_irrefl, not_false_eq_true, not_true_eq_false, eq_self, i10, i_ten, i_fv, i_fr, gI_ao, gI_aI, f0, f1, show t.length < 8 by omega, show t.length + 1 < 8 by omega]
        have fi : ∀ v, v = ib (a && b) → Wp 31 126 [some (.inr (.inr (0, 29))), some (.inl (nI r)), some (.inr (.inr (d, 40))), some (.inl (nI (t.length + 1))), some (.inl (nI (r * 20))), some (.inl (nI (r * 20 + i))), none] [.inl v, .inl (nI t.length), .inr (.inr (0, 31))] (aI w (0, 31) f) (kI k) := by
          rintro v rfl
          apply v_X6_wordsHold_126
          refine ⟨ib_b01, in_nI (by omega) (by omega), ?_⟩
          rw [sI_aI, cl_nI (by omega)]
          exact nx ((a && b) :: t) _ q1 q2 (by rw [List.length_cons]; omega) q3
        refine ⟨fun e => ?_, fun _ => ⟨fun ga => ?_, fun ga => ⟨fun gb => ?_, fun gb => ?_⟩⟩⟩
        · rw [show (1 : Int32) = nI 1 from rfl, le_nI (by omega) (by omega)] at e; omega
        · apply v_X6_wordsHold_125
          exact fi 0 (by rw [ib_f ga]; rfl)
        · apply v_X6_wordsHold_125
          exact fi 0 (by rw [ib_f gb, Bool.and_false]; rfl)
        · exact fi 1 (by rw [ib_t ga, ib_t gb]; rfl)
    · have e8' : x.1 = 8 := (nI_inj (b := 8) (by omega) (by omega)).mp e8
      obtain ⟨d1, q1⟩ := s8 e8'
      obtain ⟨a, t, rfl⟩ : ∃ a t, st = a :: t := by
        match st, d1 with
        | a :: t, _ => exact ⟨a, t, rfl⟩
      rw [List.length_cons] at hst ⊢
      have q2 : SK (ub f t.length (ib (!a))) ((!a) :: t) := SK_top rfl hsk.2
      have q3 : stp (Bx ey jm hr wm rl rf M) x (a :: t) = (!a) :: t := by
        unfold stp; rw [if_pos e8']
      have f0 : f t.length = ib a := hsk.1
      rw [nI_m1]
      simp (disch := first | decide | omega) only [cl_nI, in_T, le_nI, lt_nI, nI_s1, true_and, and_true, true_implies, false_implies, implies_true, Nat.le_refl, Nat.lt_irrefl, not_false_eq_true, not_true_eq_false, eq_self, i10, i_ten, i_fv, i_fr, gI_aI, f0, show t.length < 8 by omega]
      have fi : ∀ v, v = ib (!a) → Wp 31 75 [some (.inr (.inr (0, 29))), some (.inl (nI r)), some (.inr (.inr (d, 40))), some (.inl (nI (t.length + 1))), some (.inl (nI (r * 20))), some (.inl (nI (r * 20 + i))), none] [.inl v, .inl (nI t.length), .inr (.inr (0, 31))] (aI w (0, 31) f) (kI k) := by
        rintro v rfl
        apply v_X6_wordsHold_75
        refine ⟨ib_b01, in_nI (by omega) (by omega), ?_⟩
        rw [sI_aI, cl_nI (by omega)]
        exact nx ((!a) :: t) _ q1 q2 hst q3
      refine ⟨fun e => ?_, fun _ => ⟨fun ga => ?_, fun ga => ?_⟩⟩
      · rw [i_le0 (by omega)] at e; omega
      · exact fi 0 (by rw [ib_t ga]; rfl)
      · exact fi 1 (by rw [ib_f ga]; rfl)
theorem c_wordsHold {w d R hr wm ey jm rl rf M k} {r : Nat} {l : List O3} (he : OEc w d R hr wm ey jm rl rf M) (hr12 : r < 12) (hN : gI w (0, 17) r = nI l.length) (hN20 : l.length ≤ 20)
    (hoc : OC (gI w (0, 18)) (gI w (0, 19)) (gI w (0, 20)) (r * 20) l) (hos : OS R 0 l) (hk : ∀ f, k (ib (evs (Bx ey jm hr wm rl rf M) l [])) (aI w (0, 31) f)) :
    Cl 31 [vO 0 29, vI (nI r), vO d 40] w (kI k) := by
  apply v_X6_wordsHold_0
  rw [show (20 : Int32) = nI 20 from rfl, nI_ml]
  have h := c_words_loop he hr12 hN hN20 l 0 [] (gI w (0, 31)) (Nat.zero_add _) hoc hos trivial (Nat.zero_le _) hk
  rw [aI_self] at h
  exact h
