/-! GAUGES are read at an HOUR's end, on both sides -/
def rdOK (c : Nat → Nat → Int32) (σ : Nat → Nat → Int32) (i : Nat) : Bool := decide (¬ c 9 i = -1 ∧ σ 1 i < 30)
def lagN (c : Nat → Nat → Int32) (i : Nat) : Nat := if 1 < (c 9 i).toInt then (c 9 i).toInt.toNat else 1
def rl1 (c σ : Nat → Nat → Int32) (h : Nat) (rl : Nat → Nat → Int32) (i h' : Nat) : Int32 := if h' = h then lv c (σ 0) i else rl i h'
def rf1 (c σ : Nat → Nat → Int32) (h : Nat) (rf : Nat → Nat → Nat) (i h' : Nat) : Nat := if h' = h ∧ rdOK c σ i = true then h + lagN c i else rf i h'
def WRf (b N : Nat) (w w' : PW) : Prop := w'.2 = w.2 ∧ (∀ g j, ¬ (g = b ∧ 63 ≤ j ∧ j ≤ 65) → gI w' (g, j) = gI w (g, j)) ∧ ∀ j q, 63 ≤ j → j ≤ 65 → q < N → gI w' (b, j) q = gI w (b, j) q
theorem WRf.refl {b N w} : WRf b N w w := ⟨rfl, fun _ _ _ => rfl, fun _ _ _ _ _ => rfl⟩
theorem WRf.tr {b N w w' w''} (h : WRf b N w w') (h' : WRf b N w' w'') : WRf b N w w'' := ⟨h'.1.trans h.1, fun g j hh => (h'.2.1 g j hh).trans (h.2.1 g j hh), fun j q h1 h2 h3 => (h'.2.2 j q h1 h2 h3).trans (h.2.2 j q h1 h2 h3)⟩
theorem WRf.mono {b N N' w w'} (h : WRf b N w w') (hn : N' ≤ N) : WRf b N' w w' := ⟨h.1, h.2.1, fun j q h1 h2 h3 => h.2.2 j q h1 h2 (by omega)⟩
theorem WRf_s {b N : Nat} {w : PW} {j i : Nat} {v : Int32} (h : 63 ≤ j ∧ j ≤ 65) (hi : N ≤ i) : WRf b N w (sI w (b, j) i v) := by
  refine ⟨rfl, fun g j' hh => sI_ne (fun e => hh ⟨e.1, by omega, by omega⟩), fun j' q h1 h2 h3 => ?_⟩
  by_cases g : j' = j
  · subst g; rw [gI_s, ub_ne (beq_f (by omega))]
  · rw [sI_ne (fun e => g e.2)]
theorem BK_wr {b N w w' R hr rl rf M} (hb : BK w b R hr rl rf M) (hw : WRf b N w w') (hN : (hr + 1) * 24 ≤ N) (h24 : R ≤ 24) : BK w' b R hr rl rf M := by
  obtain ⟨q1, q2, q3, q4⟩ := hb
  refine ⟨by rw [hw.2.1 b 62 (by omega)]; exact q1, by rw [hw.2.1 b 66 (by omega), hw.2.1 b 67 (by omega), hw.2.1 b 68 (by omega)]; exact q2, fun i h hi h1 h2 => ?_, fun i h hi h2 => ?_⟩
  · have : h * 24 ≤ hr * 24 := Nat.mul_le_mul_right _ h2
    rw [hw.2.2 63 _ (by omega) (by omega) (by omega), hw.2.2 64 _ (by omega) (by omega) (by omega)]
    exact q3 i h hi h1 h2
  · have : h * 24 ≤ hr * 24 := Nat.mul_le_mul_right _ h2
    rw [hw.2.2 65 _ (by omega) (by omega) (by omega)]
    exact q4 i h hi h2
/-- a written row -/
def wrow (c σ : Nat → Nat → Int32) (h : Nat) (w w' : PW) (b j : Nat) : Prop :=
  gI w' (b, 63) (h * 24 + j) = lv c (σ 0) j ∧ gI w' (b, 64) (h * 24 + j) = nI (if rdOK c σ j = true then h + lagN c j else 0) ∧
  gI w' (b, 65) (h * 24 + j) = if rdOK c σ j = true then nI h else gI w (b, 65) ((h - 1) * 24 + j)
theorem lag_e {c : Nat → Nat → Int32} {i h : Nat} (hl : -1 ≤ (c 9 i).toInt ∧ (c 9 i).toInt ≤ 6) (hh : h < 400) : nI h + jmax 1 (c 9 i) = nI (h + lagN c i) := by
  have e : jmax 1 (c 9 i) = nI (lagN c i) := by
    unfold jmax lagN
    by_cases g : (1 : Int32) < c 9 i
    · rw [ti_lt, tl1] at g
      rw [if_pos (by rw [ti_lt, tl1]; exact g), if_pos g, ti_eq, ti_nI (by omega)]; omega
    · rw [ti_lt, tl1] at g
      rw [if_neg (by rw [ti_lt, tl1]; exact g), if_neg g]; rfl
  rw [e, nI_ad]
theorem lagN_b {c : Nat → Nat → Int32} {i : Nat} (hl : -1 ≤ (c 9 i).toInt ∧ (c 9 i).toInt ≤ 6) : 1 ≤ lagN c i ∧ lagN c i ≤ 6 := by
  unfold lagN; split <;> omega
theorem c_write {w b n k} {h j : Nat} {v : Int32} {d : Nat} (n3 : len b 63 = n) (n4 : len b 64 = n) (n5 : len b 65 = n) (hn : n < 100000) (hj : j < 24) (h1 : 1 ≤ h) (hh : (h + 1) * 24 ≤ n) (hd : d < 1000)
    (hk : ∀ w', WRf b (h * 24) w w' → gI w' (b, 63) = ub (gI w (b, 63)) (h * 24 + j) v → gI w' (b, 64) = ub (gI w (b, 64)) (h * 24 + j) (nI d) → gI w' (b, 65) = ub (gI w (b, 65)) (h * 24 + j) (if 0 < d then nI h else gI w (b, 65) ((h - 1) * 24 + j)) → k w') :
    Cl 7 [vO b 62, vI (nI h), vI (nI j), vI v, vI (nI d)] w (kV k) := by
  have fin : ∀ x, x = (if 0 < d then nI h else gI w (b, 65) ((h - 1) * 24 + j)) → k (sI (sI (sI w (b, 63) (h * 24 + j) v) (b, 64) (h * 24 + j) (nI d)) (b, 65) (h * 24 + j) x) := by
    rintro x rfl
    have f1 : WRf b (h * 24) w (sI w (b, 63) (h * 24 + j) v) := WRf_s (by omega) (Nat.le_add_right _ _)
    have f2 : WRf b (h * 24) (sI w (b, 63) (h * 24 + j) v) (sI (sI w (b, 63) (h * 24 + j) v) (b, 64) (h * 24 + j) (nI d)) := WRf_s (by omega) (Nat.le_add_right _ _)
    refine hk _ ((f1.tr f2).tr (WRf_s (by omega) (Nat.le_add_right _ _))) ?_ ?_ ?_
    · rw [gI_so rfl, gI_so rfl, gI_s]
    · rw [gI_so rfl, gI_s, gI_so rfl]
    · rw [gI_s, gI_so rfl, gI_so rfl]
  apply v_X1_write_0
  have hp : h * 24 + j < n := by omega
  have e : nI (h * 24 + j) - 24 = nI ((h - 1) * 24 + j) := by
    rw [show (24 : Int32) = nI 24 from rfl, nI_sb (by omega)]; congr 1; omega
  rw [n3, n4, n5]
  simp only [ix_b]
  rw [e, cl_nI (by omega), cl_nI (by omega), i_le0 (by omega), i_0lt (by omega)]
  have i1 : vp_in (nI (h * 24 + j)) n := in_nI hp (by omega)
  refine ⟨i1, i1, fun g => ⟨in_nI (by omega) (by omega), i1, ?_⟩, fun g => ⟨i1, ?_⟩⟩
  · exact fin _ (if_neg (by omega)).symm
  · exact fin _ (if_pos g).symm
theorem c_readGauges {w g k R hr rl rf M se} {σ : Nat → Nat → Int32} (hR : gI w (0, 1) 0 = nI R) (h24 : R ≤ 24) (hck : CK (cf w) se R) (hbl : BL (bg g) (hr + 1)) (h4 : hr + 1 ≤ 396) (hh : gI w (g, 40) 0 = nI (hr + 1)) (hL : ∀ j, j < R → gI w (0, 30) j = lv (cf w) (σ 0) j) (hs : gI w (g, 42) = σ 1)
    (hbk : BK w (bg g) R hr rl rf M) (hb : BO R hr rl rf M)
    (h : ∀ w', WRf (bg g) ((hr + 1) * 24) w w' → (∀ j, j < R → wrow (cf w) σ (hr + 1) w w' (bg g) j) → k w') : Cl 48 [vO 0 29, vO g 40] w (kV k) := by
  obtain ⟨n, n3, n4, n5, n6, n7⟩ := hbl
  apply v_X6_readGauges_0
  refine cntI (L := fun x => [some (.inr (.inr (0, 29))), some (.inr (.inr (g, 40))), some (.inl x), none]) R (fun i w' => WRf (bg g) ((hr + 1) * 24) w w' ∧ ∀ j, j < i → wrow (cf w) σ (hr + 1) w w' (bg g) j) rfl ⟨WRf.refl, fun j hj => by omega⟩ ?_ ?_
  · rintro w' ⟨q1, q2⟩
    apply v_X6_readGauges_2
    rw [q1.2.1 0 1 (by omega), hR]
    exact ⟨fun _ => h w' q1 q2, fun e => absurd e (by rw [lt_nI (by omega) (by omega)]; omega)⟩
  · rintro i w' hi ⟨q1, q2⟩ hx
    have lg := (hck.2.2.2 i hi).2.2.2.2.2.2.2.2.2
    have lb := lagN_b lg
    apply v_X6_readGauges_2
    rw [q1.2.1 0 1 (by omega), hR, q1.2.1 0 11 (by omega), q1.2.1 0 30 (by omega), q1.2.1 g 40 (by omega), q1.2.1 g 42 (by omega), hh, hs, cl_nI (by omega), hL i hi, show gI w (0, 11) i = cf w 9 i from rfl, lag_e lg (by omega)]
    have i24 : vp_in (nI i) 24 := in_nI (by omega) (by omega)
    have i25 : vp_in (nI i) 25 := in_nI (by omega) (by omega)
    have fin : ∀ d : Nat, d = (if rdOK (cf w) σ i = true then hr + 1 + lagN (cf w) i else 0) → Cl 7 [.inr (.inr (bg g, 62)), .inl (nI (hr + 1)), .inl (nI i), .inl (lv (cf w) (σ 0) i), .inl (nI d)] w' (kV fun w2 => Wp 48 2 [some (.inr (.inr (0, 29))), some (.inr (.inr (g, 40))), some (.inl (nI i + 1)), none] [] w2 (kV k)) := by
      intro d hd
      refine c_write n3 n4 n5 n7 (by omega) (by omega) n6 (by rw [hd]; split <;> omega) ?_
      intro w2 p0 p1 p2 p3
      rw [nI_s1]
      refine hx _ ⟨q1.tr p0, fun j hj => ?_⟩
      unfold wrow
      rw [p1, p2, p3]
      by_cases e : j = i
      · subst e
        rw [ub_same, ub_same, ub_same]
        refine ⟨rfl, by rw [hd], ?_⟩
        by_cases g1 : rdOK (cf w) σ j = true
        · rw [if_pos g1] at hd ⊢; rw [if_pos (by omega)]
        · rw [if_neg g1] at hd ⊢; rw [if_neg (by omega)]
          exact q1.2.2 65 _ (by omega) (by omega) (by omega)
      · rw [ub_ne (beq_f (by omega)), ub_ne (beq_f (by omega)), ub_ne (beq_f (by omega))]
        exact q2 j (by omega)
    refine ⟨fun e => absurd e (by rw [le_nI (by omega) (by omega)]; omega), fun _ => ⟨i24, fun g1 => ⟨i25, fun _ => fin 0 ?_, fun e => absurd rfl e⟩, fun g1 => ⟨i24, fun g2 => ⟨i25, fun _ => fin 0 ?_, fun e => absurd rfl e⟩, fun g2 => ⟨i25, fun e => absurd e (by decide), fun _ => ⟨i24, fin _ ?_⟩⟩⟩⟩⟩
    · rw [show rdOK (cf w) σ i = false from decide_eq_false (fun x => x.1 g1)]; rfl
    · rw [show rdOK (cf w) σ i = false from decide_eq_false (fun x => Int32.not_lt.mpr g2 x.2)]; rfl
    · rw [show rdOK (cf w) σ i = true from decide_eq_true ⟨g1, g2⟩]; rfl
theorem cu_next {R hr rl rf M c σ} (hb : BO R hr rl rf M) {i h : Nat} : ∀ l, (∀ x, x ∈ l → x ∈ M) →
    cu (rl1 c σ (hr + 1) rl) (rf1 c σ (hr + 1) rf) l i h = if h = hr + 1 then (lv c (σ 0) i, if rdOK c σ i = true then hr + 1 + lagN c i else rf i h) else cu rl rf l i h := by
  intro l
  induction l with
  | nil =>
    intro _
    show (rl1 c σ (hr + 1) rl i h, rf1 c σ (hr + 1) rf i h) = _
    unfold rl1 rf1
    by_cases e : h = hr + 1
    · rw [if_pos e, if_pos e]
      by_cases g : rdOK c σ i = true
      · rw [if_pos ⟨e, g⟩, if_pos g]
      · rw [if_neg (fun x => g x.2), if_neg g]
    · rw [if_neg e, if_neg e, if_neg (fun x => e x.1)]; rfl
  | cons x l ih =>
    intro hl
    have hx := hb.2.1 x (hl x (List.mem_cons_self ..))
    unfold cu
    by_cases g : x.1 = i ∧ x.2.1 = h
    · rw [if_pos g, if_pos g, if_neg (by omega)]
    · rw [if_neg g, if_neg g]; exact ih (fun y hy => hl y (List.mem_cons_of_mem _ hy))
theorem rf_new {R hr rl rf M} (hb : BO R hr rl rf M) {i : Nat} (hi : i < R) : rf i (hr + 1) = 0 := by
  refine Nat.eq_zero_of_not_pos fun h => ?_
  have := hb.2.2 i _ hi h
  omega
theorem nw_next {R hr rl rf M c σ} (hb : BO R hr rl rf M) {i : Nat} : ∀ h, h ≤ hr → nw (rl1 c σ (hr + 1) rl) (rf1 c σ (hr + 1) rf) M i h = nw rl rf M i h := by
  intro h
  induction h with
  | zero => intro _; rfl
  | succ h ih =>
    intro hh
    unfold nw
    rw [cu_next hb M (fun _ hx => hx), ih (by omega)]
    simp only [if_neg (show ¬ h + 1 = hr + 1 by omega)]
theorem bo_next {R hr rl rf M c se σ} (hc : CK c se R) (hb : BO R hr rl rf M) (hn : ∀ i, i < R → nn (lv c (σ 0) i)) : BO R (hr + 1) (rl1 c σ (hr + 1) rl) (rf1 c σ (hr + 1) rf) M := by
  refine ⟨hb.1, fun x hx => by obtain ⟨a1, a2, a3, a4, a5, a6⟩ := hb.2.1 x hx; exact ⟨a1, a2, by omega, a4, by omega, a6⟩, fun i h hi hp => ?_⟩
  have lb := lagN_b (hc.2.2.2 i hi).2.2.2.2.2.2.2.2.2
  unfold rl1 rf1 at *
  by_cases e : h = hr + 1
  · by_cases g : rdOK c σ i = true
    · rw [if_pos ⟨e, g⟩, if_pos e]
      exact ⟨by omega, by omega, by omega, by omega, hn i hi⟩
    · rw [if_neg (fun x => g x.2)] at hp
      rw [e, rf_new hb hi] at hp; omega
  · rw [if_neg (fun x => e x.1)] at hp ⊢
    rw [if_neg e]
    have := hb.2.2 i h hi hp
    exact ⟨by omega, by omega, by omega, by omega, this.2.2.2.2⟩
theorem bk_next {w w' b R hr rl rf M c σ} (h24 : R ≤ 24) (hb : BO R hr rl rf M) (hbk : BK w b R hr rl rf M) (hw : WRf b ((hr + 1) * 24) w w') (hr1 : ∀ j, j < R → wrow c σ (hr + 1) w w' b j) :
    BK w' b R (hr + 1) (rl1 c σ (hr + 1) rl) (rf1 c σ (hr + 1) rf) M := by
  obtain ⟨q1, q2, q3, q4⟩ := BK_wr hbk hw (Nat.le_refl _) h24
  refine ⟨q1, ?_, fun i h hi h1 h2 => ?_, fun i h hi h2 => ?_⟩
  · have ul : ∀ l, (∀ x, x ∈ l → x ∈ M) → UL rl rf (gI w' (b, 66)) (gI w' (b, 67)) (gI w' (b, 68)) l → UL (rl1 c σ (hr + 1) rl) (rf1 c σ (hr + 1) rf) (gI w' (b, 66)) (gI w' (b, 67)) (gI w' (b, 68)) l := by
      intro l
      induction l with
      | nil => intro _ _; exact trivial
      | cons x l ih =>
        intro hl hu
        obtain ⟨u1, u2, u3, u4⟩ := hu
        have hx := hb.2.1 x (hl x (List.mem_cons_self ..))
        have hl' : ∀ y, y ∈ l → y ∈ M := fun y hy => hl y (List.mem_cons_of_mem _ hy)
        refine ⟨u1, ?_, ?_, ih hl' u4⟩
        · rw [cu_next hb l hl', if_neg (by omega)]; exact u2
        · rw [cu_next hb l hl', if_neg (by omega)]; exact u3
    exact ul M (fun _ hx => hx) q2
  · rw [cu_next hb M (fun _ hx => hx)]
    by_cases e : h = hr + 1
    · rw [if_pos e, e, rf_new hb hi]
      exact ⟨(hr1 i hi).1, (hr1 i hi).2.1⟩
    · rw [if_neg e]; exact q3 i h hi h1 (by omega)
  · by_cases e : h = hr + 1
    · subst e
      replace hi : i < R := by omega
      rw [(hr1 i hi).2.2]
      unfold nw
      rw [cu_next hb M (fun _ hx => hx), if_pos rfl, rf_new hb hi]
      by_cases g : rdOK c σ i = true
      · rw [if_pos g]; simp only [if_pos g]; rw [if_pos (by omega)]
      · rw [if_neg g]; simp only [if_neg g]; rw [if_neg (by omega), nw_next hb hr (Nat.le_refl _)]
        exact hbk.2.2.2 i hr (Or.inl hi) (Nat.le_refl _)
    · rw [nw_next hb h (by omega)]; exact q4 i h hi (by omega)
/-! the model's readings -/
theorem eM_off {c μ m} {h q : Nat} : ∀ n, ¬ q = 289 → (∀ i, i < n → ¬ q = 618 + 397 * i + h ∧ ¬ q = 10146 + 397 * i + h) → eM c h μ n m q = m q := by
  intro n
  induction n with
  | zero => intro _ _; rfl
  | succ n ih =>
    intro h1 h2
    have i1 := ih h1 (fun i hi => h2 i (by omega))
    have h3 := h2 n (by omega)
    have e1 : eM1 c μ n (eM c h μ n m) q = m q := by
      unfold eM1; split
      · rw [ub_ne (beq_f h1), i1]
      · exact i1
    unfold eM
    split
    · rw [ub_ne (beq_f h3.2), ub_ne (beq_f h3.1), e1]
    · exact e1
theorem eM1_ne {c μ m} {i q : Nat} (h1 : ¬ q = 289) : eM1 c μ i m q = m q := by
  unfold eM1; split
  · rw [ub_ne (beq_f h1)]
  · rfl
theorem eM_rd {c μ m} {h i : Nat} (hh : h < 397) : ∀ n, n ≤ 24 → i < n → eM c h μ n m (618 + 397 * i + h) = (if 0 ≤ c 9 i ∧ μ 1 i < 30 then lv c (μ 0) i else m (618 + 397 * i + h)) ∧
    eM c h μ n m (10146 + 397 * i + h) = (if 0 ≤ c 9 i ∧ μ 1 i < 30 then nI h + c 9 i else m (10146 + 397 * i + h)) := by
  intro n
  induction n with
  | zero => intro _ hi; omega
  | succ n ih =>
    intro hn hi
    by_cases e : i = n
    · subst e
      unfold eM
      by_cases g : 0 ≤ c 9 i ∧ μ 1 i < 30
      · rw [if_pos g, if_pos g, if_pos g]
        exact ⟨by rw [ub_ne (beq_f (by omega)), ub_same], by rw [ub_same]⟩
      · rw [if_neg g, if_neg g, if_neg g, eM1_ne (by omega), eM1_ne (by omega)]
        exact ⟨eM_off i (by omega) (fun j hj => by omega), eM_off i (by omega) (fun j hj => by omega)⟩
    · obtain ⟨q1, q2⟩ := ih (by omega) (by omega)
      unfold eM
      by_cases g : 0 ≤ c 9 n ∧ μ 1 n < 30
      · rw [if_pos g, ub_ne (beq_f (by omega)), ub_ne (beq_f (by omega)), ub_ne (beq_f (by omega)), ub_ne (beq_f (by omega)), eM1_ne (by omega), eM1_ne (by omega)]
        exact ⟨q1, q2⟩
      · rw [if_neg g, eM1_ne (by omega), eM1_ne (by omega)]
        exact ⟨q1, q2⟩
theorem bkm_next {m R hr rl rf M c d se σ μ} (hc : CK c se R) (hce : CE R c d) (hrel : Rel R σ μ) (h4 : hr + 1 ≤ 396) (hb : BO R hr rl rf M) (hbm : BKM m R rl rf M) :
    BKM (eM d (hr + 1) μ R m) R (rl1 c σ (hr + 1) rl) (rf1 c σ (hr + 1) rf) M := by
  have h24 := hc.2.1
  obtain ⟨q1, q2, q3⟩ := hbm
  have hw : ∀ j, j < R → μ 0 j = σ 0 j := fun j hj => hrel.w0 hj
  refine ⟨by rw [eM_off R (by omega) (fun i hi => by omega)]; exact q1, ?_, fun i h hi hh => ?_⟩
  · have ml : ∀ l : List M4, l.length ≤ 40 → ML m l → ML (eM d (hr + 1) μ R m) l := by
      intro l
      induction l with
      | nil => intro _ _; exact trivial
      | cons x l ih =>
        intro hl hm
        rw [List.length_cons] at hl
        obtain ⟨u1, u2, u3, u4, u5⟩ := hm
        exact ⟨by rw [eM_off R (by omega) (fun i hi => by omega)]; exact u1, by rw [eM_off R (by omega) (fun i hi => by omega)]; exact u2, by rw [eM_off R (by omega) (fun i hi => by omega)]; exact u3, by rw [eM_off R (by omega) (fun i hi => by omega)]; exact u4, ih (by omega) u5⟩
    exact ml M hb.1 q2
  · obtain ⟨r0, r1⟩ := q3 i h hi hh
    by_cases e : h = hr + 1
    · subst e
      have lg := (hc.2.2.2 i hi).2.2.2.2.2.2.2.2.2
      obtain ⟨e1, e2⟩ := eM_rd (c := d) (μ := μ) (m := m) (h := hr + 1) (i := i) (by omega) R h24 hi
      rw [e1, e2, hce 9 i (by omega) hi, (hrel i hi).2.1, hce.elv hw hi]
      have eq : (0 ≤ c 9 i ∧ σ 1 i < 30) ↔ rdOK c σ i = true := by
        unfold rdOK
        rw [decide_eq_true_eq, ti_le, tl0, ti_eq, tlm1]
        constructor
        · intro x; exact ⟨by omega, x.2⟩
        · intro x; exact ⟨by omega, x.2⟩
      unfold rl1 rf1
      rw [if_pos rfl]
      by_cases g : rdOK c σ i = true
      · rw [if_pos (eq.mpr g), if_pos (eq.mpr g), if_pos ⟨rfl, g⟩]
        have g1 := (eq.mpr g).1
        rw [ti_le, tl0] at g1
        refine ⟨fun x => by have := (lagN_b lg).1; omega, fun _ => ⟨rfl, hr + 1 + (c 9 i).toInt.toNat, ?_, by omega, ?_⟩⟩
        · have e9 : c 9 i = nI (c 9 i).toInt.toNat := by rw [ti_eq, ti_nI (by omega)]; omega
          exact (congrArg (nI (hr + 1) + ·) e9).trans nI_ad
        · unfold lagN; split <;> split <;> omega
      · rw [if_neg (fun x => g (eq.mp x)), if_neg (fun x => g (eq.mp x)), if_neg (fun x => g x.2)]
        refine ⟨r0, fun x => ?_⟩
        rw [rf_new hb hi] at x; omega
    · rw [eM_off R (by omega) (fun j hj => by omega), eM_off R (by omega) (fun j hj => by omega)]
      unfold rl1 rf1
      rw [if_neg e, if_neg (fun x => e x.1)]
      exact ⟨r0, r1⟩
