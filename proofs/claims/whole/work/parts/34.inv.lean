/-! what holds between two calls */ -/
def stc (c : Nat → Nat → Int32) (i : Nat) (σ : Nat → Nat → Int32) : Prop :=
  σ 0 i = c 4 i ∧ σ 1 i = c 5 i ∧ σ 2 i = lv c (c 4) i ∧ σ 3 i = 0 ∧ σ 4 i = 0 ∧ σ 5 i = 0 ∧ σ 6 i = 0 ∧ σ 7 i = c 6 i ∧ σ 8 i = c 8 i ∧ σ 9 i = 0 ∧ σ 10 i = -1 ∧ σ 11 i = 0
def H0 (c : Nat → Nat → Int32) (R : Nat) (A : AS) : Prop := aH A = 0 → (∀ i, i < R → stc c i (aS A)) ∧ aM A = 0 ∧ aT A = 0 ∧ ∀ r, r < 12 → aC A r = -2
def RO (c : Nat → Nat → Int32) (R : Nat) (A : AS) (M : List M4) : Prop := AO c R A ∧ BO R (aH A) (aR A) (aF A) M ∧ aH A ≤ 300 ∧ H0 c R A
abbrev TT : Type := Nat × Nat × (Nat → Int64) × Nat × AS × List M4
abbrev tS (t : TT) : Nat := t.1
abbrev tN (t : TT) : Nat := t.2.1
abbrev tE (t : TT) : Nat → Int64 := t.2.2.1
abbrev tYv (t : TT) : Nat := t.2.2.2.1
abbrev tA (t : TT) : AS := t.2.2.2.2.1
abbrev tM (t : TT) : List M4 := t.2.2.2.2.2
def LV1 (w : PW) (g R : Nat) (A : AS) (M : List M4) : Prop := KC w g [] A ∧ BK w (bg g) R (aH A) (aR A) (aF A) M
def TPc (w : PW) (R d : Nat) (t : TT) (v : Nat) : Prop := gI w (d, 70) 0 = nI (tS t) ∧ (1 ≤ tS t ∧ tS t ≤ 4 → gI w (d, 70) 1 = nI (tN t) ∧ ∀ i, i < tN t → gL w (d, 71) i = tE t i) ∧
  (tS t = 5 → gI w (d, 70) 2 = nI (tYv t) ∧ gI w (3 + d, 40) 1 = aM (tA t) ∧ (tYv t = v → LV1 w (3 + d) R (tA t) (tM t)))
def TPm (w : PW) (R d : Nat) (t : TT) (v : Nat) : Prop := gI w (0, 118) d = nI (tS t) ∧ (1 ≤ tS t ∧ tS t ≤ 4 → gI w (0, 119) d = nI (tN t) ∧ ∀ i, i < tN t → gL w (0, 120) (100 * d + i) = tE t i) ∧
  (tS t = 5 → gI w (0, 117) d = nI (tYv t) ∧ gI w (0, 116) (19675 * d + 289) = aM (tA t) ∧ (tYv t = v → KM (fun q => gI w (0, 116) (19675 * d + q)) R (tM t) (tA t)))
def TPo (c : Nat → Nat → Int32) (R v : Nat) (t : TT) : Prop := tS t ≤ 5 ∧ (1 ≤ tS t ∧ tS t ≤ 4 → tN t ≤ 100 ∧ (tS t = 1 → ∀ i, i < tN t → -128 ≤ (tE t i).toInt ∧ (tE t i).toInt ≤ 127)) ∧
  (tS t = 5 → tYv t ≤ v ∧ 0 ≤ (aM (tA t)).toInt ∧ (tYv t = v → RO c R (tA t) (tM t)))
abbrev WW : Type := Nat × (Nat → Int32) × (Nat → Int32)
abbrev MM : Type := Nat × Int32 × Int32
def PLc (w : PW) (PL : List A3) : Prop := TL w 99 PL
def PLo (R : Nat) (PL : List A3) : Prop := PL.length ≤ 8 ∧ ∀ x, x ∈ PL → (1 ≤ x.1.toInt ∧ x.1.toInt ≤ 96) ∧ actOK R x.2
def MKc (w : PW) (MK : List MM) : Prop := gI w (0, 25) 3 = nI MK.length ∧ ∀ k x, MK[k]? = some x → gI w (0, 26) k = nI x.1 ∧ gI w (0, 27) k = x.2.1 ∧ gI w (0, 28) k = x.2.2
def MKm (w : PW) (MK : List MM) : Prop := gI w (0, 90) 35 = nI MK.length ∧ ∀ k x, MK[k]? = some x → gI w (0, 111) k = nI x.1 ∧ gI w (0, 112) k = x.2.1 ∧ gI w (0, 113) k = x.2.2
def MKo (R : Nat) (MK : List MM) : Prop := MK.length ≤ 10 ∧ ∀ x, x ∈ MK → x.1 < R
def IC (w : PW) (R cr : Nat) (se : Int32) (c : Nat → Nat → Int32) (RL : List R3) (PL : List A3) (MK : List MM) (A : AS) (M : List M4) (WT : Nat → WW) (TP : Nat → TT) (v : Nat) (rf : Int32) : Prop :=
  EC w R cr se RL ∧ ceq c (cf w) ∧ PLc w PL ∧ MKc w MK ∧ LV1 w 1 R A M ∧ (∀ b, b < 4 → WTc w b (WT b).1 (WT b).2.1 (WT b).2.2) ∧ (∀ d, d < 6 → TPc w R d (TP d) v) ∧ gI w (0, 0) 9 = nI v ∧ gI w (0, 0) 10 = rf
def IM (w : PW) (R cr : Nat) (se : Int32) (c : Nat → Nat → Int32) (RL : List R3) (PL : List A3) (MK : List MM) (A : AS) (M : List M4) (WT : Nat → WW) (TP : Nat → TT) (v : Nat) (rf : Int32) : Prop :=
  EM w R cr se RL PL ∧ CE R c (cm w) ∧ MKm w MK ∧ KM (gI w (1, 114)) R M A ∧ (∀ b, b < 4 → WTm w b (WT b).1 (WT b).2.1 (WT b).2.2) ∧ (∀ d, d < 6 → TPm w R d (TP d) v) ∧ gI w (0, 90) 37 = nI v ∧ gI w (0, 90) 36 = rf
def IO (R : Nat) (c : Nat → Nat → Int32) (PL : List A3) (MK : List MM) (A : AS) (M : List M4) (WT : Nat → WW) (TP : Nat → TT) (v : Nat) : Prop :=
  PLo R PL ∧ MKo R MK ∧ RO c R A M ∧ (∀ b, b < 4 → WTo (WT b).1 (WT b).2.1 (WT b).2.2) ∧ ∀ d, d < 6 → TPo c R v (TP d)
def Inv (n : Nat) (w : PW) : Prop := ∃ R cr se c RL PL MK A M WT TP v rf, v ≤ n + 1 ∧ IC w R cr se c RL PL MK A M WT TP v rf ∧ IM w R cr se c RL PL MK A M WT TP v rf ∧ IO R c PL MK A M WT TP v
/-! frames -/
def FC (w w' : PW) : Prop := ∀ g j, 90 ≤ j → gI w' (g, j) = gI w (g, j) ∧ gL w' (g, j) = gL w (g, j)
def FN (w w' : PW) : Prop := ∀ g j, j < 90 → gI w' (g, j) = gI w (g, j) ∧ gL w' (g, j) = gL w (g, j)
theorem FC.refl {w} : FC w w := fun _ _ _ => ⟨rfl, rfl⟩
theorem FN.refl {w} : FN w w := fun _ _ _ => ⟨rfl, rfl⟩
theorem FC.tr {w w' w''} (h : FC w w') (h' : FC w' w'') : FC w w'' := fun g j hj => ⟨(h' g j hj).1.trans (h g j hj).1, (h' g j hj).2.trans (h g j hj).2⟩
theorem FN.tr {w w' w''} (h : FN w w') (h' : FN w' w'') : FN w w'' := fun g j hj => ⟨(h' g j hj).1.trans (h g j hj).1, (h' g j hj).2.trans (h g j hj).2⟩
theorem FC_a {w : PW} {g j : Nat} {f : Nat → Int32} (h : j < 90) : FC w (aI w (g, j) f) := fun g' j' hj => ⟨gI_ao (beq_f (by omega)), rfl⟩
theorem FC_s {w : PW} {g j i : Nat} {v : Int32} (h : j < 90) : FC w (sI w (g, j) i v) := FC_a h
theorem FN_a {w : PW} {g j : Nat} {f : Nat → Int32} (h : 90 ≤ j) : FN w (aI w (g, j) f) := fun g' j' hj => ⟨gI_ao (beq_f (by omega)), rfl⟩
theorem FN_s {w : PW} {g j i : Nat} {v : Int32} (h : 90 ≤ j) : FN w (sI w (g, j) i v) := FN_a h
theorem gL_off {w : PW} {g g' j j' : Nat} {f : Nat → Int64} (h : ¬ (g = g' ∧ j = j')) : gL (aL w (g', j') f) (g, j) = gL w (g, j) := by
  show (bif Nat.beq j j' then (fun x => bif Nat.beq x g' then f else w.2 j x) else w.2 j) g = w.2 j g
  by_cases e : j = j'
  · subst e
    rw [beq_t]
    show (bif Nat.beq g g' then f else w.2 j g) = _
    rw [beq_f (fun x => h ⟨x, rfl⟩)]; rfl
  · rw [beq_f e]; rfl
theorem gL_at {w : PW} {o : Ob} {f : Nat → Int64} : gL (aL w o f) o = f := by
  show (bif Nat.beq o.2 o.2 then (fun x => bif Nat.beq x o.1 then f else w.2 o.2 x) else w.2 o.2) o.1 = f
  rw [beq_t]
  show (bif Nat.beq o.1 o.1 then f else w.2 o.2 o.1) = f
  rw [beq_t]; rfl
theorem FC_l {w : PW} {g j : Nat} {f : Nat → Int64} (h : j < 90) : FC w (aL w (g, j) f) := fun g' j' hj => ⟨rfl, gL_off (by omega)⟩
theorem FN_l {w : PW} {g j : Nat} {f : Nat → Int64} (h : 90 ≤ j) : FN w (aL w (g, j) f) := fun g' j' hj => ⟨rfl, gL_off (by omega)⟩
theorem SB.fc {g N w w'} (h : SB g N w w') : FC w w' := fun g' j hj => ⟨h.2.1 g' j (by omega), by unfold gL; rw [h.1]⟩
theorem SN.fc {g w w'} (h : SN g w w') : FC w w' := (SN.sb (N := 0) h).fc
theorem MB.fm {s w w'} (h : MB s w w') : FN w w' := fun g' j hj => ⟨h.2.1 g' j (by omega), by unfold gL; rw [h.1]⟩
theorem KC_fr {w w' g P A} (h1 : ∀ j, 40 ≤ j → j ≤ 53 → gI w' (g, j) = gI w (g, j)) (h2 : ∀ j, 54 ≤ j → j ≤ 57 → gI w' (wg g, j) = gI w (wg g, j)) (h3 : ∀ j, 54 ≤ j → j ≤ 57 → gI w' (tg g, j) = gI w (tg g, j)) (h : KC w g P A) : KC w' g P A := CSt_fr h1 h2 h3 h
theorem LV1_fr {w w' g R A M} (h1 : ∀ j, 40 ≤ j → j ≤ 53 → gI w' (g, j) = gI w (g, j)) (h2 : ∀ j, 54 ≤ j → j ≤ 57 → gI w' (wg g, j) = gI w (wg g, j)) (h3 : ∀ j, 54 ≤ j → j ≤ 57 → gI w' (tg g, j) = gI w (tg g, j)) (h4 : ∀ j, 62 ≤ j → j ≤ 68 → gI w' (bg g, j) = gI w (bg g, j))
    (h : LV1 w g R A M) : LV1 w' g R A M := ⟨KC_fr h1 h2 h3 h.1, BK_fr h4 h.2⟩
theorem PLc_fr {w w' PL} (h : ∀ j, 54 ≤ j → j ≤ 57 → gI w' (99, j) = gI w (99, j)) (hp : PLc w PL) : PLc w' PL := TL_fr h hp
theorem MKc_fr {w w' MK} (h : ∀ j, 25 ≤ j → j ≤ 28 → gI w' (0, j) = gI w (0, j)) (hp : MKc w MK) : MKc w' MK := by
  unfold MKc; rw [h 25 (by omega) (by omega), h 26 (by omega) (by omega), h 27 (by omega) (by omega), h 28 (by omega) (by omega)]; exact hp
theorem MKm_fr {w w' MK} (h0 : gI w' (0, 90) 35 = gI w (0, 90) 35) (h : ∀ j, 111 ≤ j → j ≤ 113 → gI w' (0, j) = gI w (0, j)) (hp : MKm w MK) : MKm w' MK := by
  unfold MKm; rw [h0, h 111 (by omega) (by omega), h 112 (by omega) (by omega), h 113 (by omega) (by omega)]; exact hp
theorem WTc_fr {w w' b n fi ft} (h : ∀ j, 80 ≤ j → j ≤ 82 → gI w' (b, j) = gI w (b, j)) (hw : WTc w b n fi ft) : WTc w' b n fi ft := by
  unfold WTc; rw [h 80 (by omega) (by omega), h 81 (by omega) (by omega), h 82 (by omega) (by omega)]; exact hw
theorem bg3 {d : Nat} : bg (3 + d) = 3 + d := by unfold bg; rw [if_neg (by omega)]
theorem bg1 : bg 1 = 1 := rfl
theorem bg2 : bg 2 = 1 := rfl
theorem TPc_fr {w w' R d t v} (h0 : gI w' (d, 70) = gI w (d, 70)) (hl : gL w' (d, 71) = gL w (d, 71)) (h1 : ∀ j, 40 ≤ j → j ≤ 53 → gI w' (3 + d, j) = gI w (3 + d, j)) (h2 : ∀ j, 54 ≤ j → j ≤ 57 → gI w' (106 + 2 * d, j) = gI w (106 + 2 * d, j)) (h3 : ∀ j, 54 ≤ j → j ≤ 57 → gI w' (107 + 2 * d, j) = gI w (107 + 2 * d, j)) (h4 : ∀ j, 62 ≤ j → j ≤ 68 → gI w' (3 + d, j) = gI w (3 + d, j))
    (h : TPc w R d t v) : TPc w' R d t v := by
  have e1 : wg (3 + d) = 106 + 2 * d := by unfold wg; omega
  have e2 : tg (3 + d) = 107 + 2 * d := by unfold tg; omega
  obtain ⟨a1, a2, a3⟩ := h
  refine ⟨by rw [h0]; exact a1, fun x => ?_, fun x => ?_⟩
  · rw [h0, hl]; exact a2 x
  · obtain ⟨b1, b2, b3⟩ := a3 x
    exact ⟨by rw [h0]; exact b1, by rw [h1 40 (by omega) (by omega)]; exact b2, fun y => LV1_fr h1 (by rw [e1]; exact h2) (by rw [e2]; exact h3) (by rw [bg3]; exact h4) (b3 y)⟩
theorem TPm_fr {w w' R d t v} (h : ∀ j, 116 ≤ j → j ≤ 119 → gI w' (0, j) = gI w (0, j)) (hl : gL w' (0, 120) = gL w (0, 120)) (ht : TPm w R d t v) : TPm w' R d t v := by
  unfold TPm; rw [h 116 (by omega) (by omega), h 117 (by omega) (by omega), h 118 (by omega) (by omega), h 119 (by omega) (by omega), hl]; exact ht
/-- all that IC looks at, but the live book's rows -/
def inC (g j : Nat) : Prop := (g = 0 ∧ j ≤ 28) ∨ (g = 99 ∧ 54 ≤ j ∧ j ≤ 57) ∨ (g = 1 ∧ ((40 ≤ j ∧ j ≤ 53) ∨ j = 62 ∨ (66 ≤ j ∧ j ≤ 68))) ∨ ((g = 102 ∨ g = 103) ∧ 54 ≤ j ∧ j ≤ 57) ∨ (g < 4 ∧ 80 ≤ j ∧ j ≤ 82) ∨ (g < 6 ∧ j = 70) ∨
  (3 ≤ g ∧ g ≤ 8 ∧ ((40 ≤ j ∧ j ≤ 53) ∨ (62 ≤ j ∧ j ≤ 68))) ∨ (106 ≤ g ∧ g ≤ 117 ∧ 54 ≤ j ∧ j ≤ 57)
theorem IC_fr {w w' R cr se c RL PL MK A M WT TP v rf} (hf : ∀ g j, inC g j → gI w' (g, j) = gI w (g, j)) (hl : ∀ d, gL w' (d, 71) = gL w (d, 71)) (hb : BK w 1 R (aH A) (aR A) (aF A) M → BK w' 1 R (aH A) (aR A) (aF A) M)
    (h : IC w R cr se c RL PL MK A M WT TP v rf) : IC w' R cr se c RL PL MK A M WT TP v rf := by
  obtain ⟨h1, h2, h3, h4, h5, h6, h7, h8, h9⟩ := h
  refine ⟨?_, ?_, ?_, ?_, ⟨?_, hb h5.2⟩, ?_, ?_, ?_, ?_⟩
  · obtain ⟨x1, x2, x3, x4, x5, x6, x7⟩ := h1
    refine ⟨by rw [hf 0 1 (by unfold inC; omega)]; exact x1, by rw [hf 0 1 (by unfold inC; omega)]; exact x2, by rw [hf 0 1 (by unfold inC; omega)]; exact x3, x4, CK.c (fun f hf' => hf 0 (2 + f) (by unfold inC; omega)) x5, ?_, x7⟩
    unfold RUc
    rw [hf 0 14 (by unfold inC; omega), hf 0 15 (by unfold inC; omega), hf 0 16 (by unfold inC; omega), hf 0 17 (by unfold inC; omega), hf 0 18 (by unfold inC; omega), hf 0 19 (by unfold inC; omega), hf 0 20 (by unfold inC; omega)]
    exact x6
  · exact h2.tr (fun f hf' => hf 0 (2 + f) (by unfold inC; omega))
  · exact PLc_fr (fun j a b => hf 99 j (by unfold inC; omega)) h3
  · exact MKc_fr (fun j a b => hf 0 j (by unfold inC; omega)) h4
  · exact KC_fr (fun j a b => hf 1 j (by unfold inC; omega)) (fun j a b => hf 102 j (by unfold inC; omega)) (fun j a b => hf 103 j (by unfold inC; omega)) h5.1
  · exact fun b hb' => WTc_fr (fun j x y => hf b j (by unfold inC; omega)) (h6 b hb')
  · exact fun d hd => TPc_fr (hf d 70 (by unfold inC; omega)) (hl d) (fun j x y => hf _ j (by unfold inC; omega)) (fun j x y => hf _ j (by unfold inC; omega)) (fun j x y => hf _ j (by unfold inC; omega)) (fun j x y => hf _ j (by unfold inC; omega)) (h7 d hd)
  · rw [hf 0 0 (by unfold inC; omega)]; exact h8
  · rw [hf 0 0 (by unfold inC; omega)]; exact h9
theorem IC_FN {w w' R cr se c RL PL MK A M WT TP v rf} (hf : FN w w') (h : IC w R cr se c RL PL MK A M WT TP v rf) : IC w' R cr se c RL PL MK A M WT TP v rf :=
  IC_fr (fun g j hj => (hf g j (by unfold inC at hj; omega)).1) (fun d => (hf d 71 (by omega)).2) (fun hb => BK_fr (fun j _ _ => (hf 1 j (by omega)).1) hb) h
theorem IM_fr {w w' R cr se c RL PL MK A M WT TP v rf} (hf : ∀ g j, (g = 0 ∧ ((91 ≤ j ∧ j ≤ 113) ∨ (116 ≤ j ∧ j ≤ 119))) ∨ (g = 1 ∧ j = 114) → gI w' (g, j) = gI w (g, j)) (h90 : ∀ q, 30 ≤ q → q ≤ 37 → gI w' (0, 90) q = gI w (0, 90) q) (hl : gL w' (0, 120) = gL w (0, 120))
    (h : IM w R cr se c RL PL MK A M WT TP v rf) : IM w' R cr se c RL PL MK A M WT TP v rf := by
  obtain ⟨h1, h2, h3, h4, h5, h6, h7, h8⟩ := h
  refine ⟨?_, CE_fr (fun j hj => hf 0 j (by omega)) h2, MKm_fr (h90 35 (by omega) (by omega)) (fun j a b => hf 0 j (by omega)) h3, by rw [hf 1 114 (by omega)]; exact h4, fun b hb => WTm_fr (fun j hj => hf 0 j (by omega)) (h5 b hb), fun d hd => TPm_fr (fun j a b => hf 0 j (by omega)) hl (h6 d hd), by rw [h90 37 (by omega) (by omega)]; exact h7, by rw [h90 36 (by omega) (by omega)]; exact h8⟩
  obtain ⟨x1, x2, x3, x4, x5, x6, x7, x8⟩ := h1
  unfold EM RUm PLm
  rw [h90 30 (by omega) (by omega), h90 31 (by omega) (by omega), h90 32 (by omega) (by omega), h90 33 (by omega) (by omega), h90 34 (by omega) (by omega), hf 0 105 (by omega), hf 0 106 (by omega), hf 0 107 (by omega), hf 0 108 (by omega), hf 0 109 (by omega), hf 0 110 (by omega)]
  exact ⟨x1, x2, x3, x4, x5, x6, x7, x8⟩
theorem IM_FC {w w' R cr se c RL PL MK A M WT TP v rf} (hf : FC w w') (h : IM w R cr se c RL PL MK A M WT TP v rf) : IM w' R cr se c RL PL MK A M WT TP v rf :=
  IM_fr (fun g j hj => (hf g j (by omega)).1) (fun q _ _ => by rw [(hf 0 90 (by omega)).1]) (hf 0 120 (by omega)).2 h
theorem IM_MB2 {w w' R cr se c RL PL MK A M WT TP v rf} (hf : MB 2 w w') (h : IM w R cr se c RL PL MK A M WT TP v rf) : IM w' R cr se c RL PL MK A M WT TP v rf :=
  IM_fr (fun g j hj => hf.2.1 g j (by omega)) (fun q a b => hf.2.2 q (by omega)) (by unfold gL; rw [hf.1]) h
/-- a call on both sides -/
def OP (n : Nat) (w : PW) (mc mm : Nat) (as : List PV) : Prop := Cl mc (vO 0 0 :: as) w (kI fun a w1 => Cl mm (vO 0 90 :: as) w1 (kI fun b w2 => b = a ∧ Inv (n + 1) w2))
theorem Inv.mk {n w R cr se c RL PL MK A M WT TP v rf} (hv : v ≤ n + 1) (h1 : IC w R cr se c RL PL MK A M WT TP v rf) (h2 : IM w R cr se c RL PL MK A M WT TP v rf) (h3 : IO R c PL MK A M WT TP v) : Inv n w :=
  ⟨R, cr, se, c, RL, PL, MK, A, M, WT, TP, v, rf, hv, h1, h2, h3⟩
theorem Inv.up {n n' w} (h : Inv n w) (hn : n ≤ n') : Inv n' w := by
  obtain ⟨R, cr, se, c, RL, PL, MK, A, M, WT, TP, v, rf, hv, h1, h2, h3⟩ := h
  exact ⟨R, cr, se, c, RL, PL, MK, A, M, WT, TP, v, rf, by omega, h1, h2, h3⟩
