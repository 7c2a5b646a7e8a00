/-! what a State is, and an HOUR of it, in one word for both sides -/
theorem sg_c {c c' se R f t σ} (h : ceq c c') : sg c' se R f t σ = sg c se R f t σ := by
  have e0 := h 0 (by omega)
  have e3 := h 3 (by omega)
  have l : ∀ wa, lv c' wa = lv c wa := fun wa => lv_c h
  have lx' : ∀ wa, lx c' se R wa = lx c se R wa := fun wa => lx_c h
  have a1 : ∀ σ, FL c' se R σ = FL c se R σ := fun σ => by funext i; unfold FL; rw [lx', e3]
  have a2 : ∀ σ, flW c' se R σ = flW c se R σ := fun σ => by funext i; unfold flW; rw [a1]
  have a3 : ∀ σ, flowS c' se R σ = flowS c se R σ := fun σ => by unfold flowS; rw [a1, a2]
  have b1 : ∀ σ, frB c' σ = frB c σ := fun σ => by funext i; unfold frB; rw [l]
  have b2 : ∀ σ, frC c' R t σ = frC c R t σ := fun σ => by unfold frC frS; rw [b1]
  have c1 : ∀ σ, brA c' σ = brA c σ := fun σ => by funext i; unfold brA; rw [l, e0]
  have c2 : ∀ σ, brB c' σ = brB c σ := fun σ => by funext i; unfold brB; rw [l, e0]
  have c3 : ∀ σ, brS c' R σ = brS c R σ := fun σ => by unfold brS; rw [c1, c2]
  have d1 : ∀ σ, mov c' σ = mov c σ := fun σ => by funext i; unfold mov; rw [e0]
  have d2 : ∀ σ, pas c' R σ = pas c R σ := fun σ => by funext i; unfold pas mpa; rw [d1, e0]
  have d3 : ∀ σ, drF c' R σ = drF c R σ := fun σ => by funext i; unfold drF; rw [d1, d2]
  have d4 : ∀ σ, drJ c' R σ = drJ c R σ := fun σ => by funext i; unfold drJ; rw [d1, d2]
  have d5 : ∀ σ, drS c' R σ = drS c R σ := fun σ => by unfold drS; rw [d3, d4]
  have g1 : ∀ q σ, goJ c' se R q σ = goJ c se R q σ := fun q σ => by funext i; unfold goJ; rw [lx']
  have g2 : ∀ q σ, jgF c' se R q σ = jgF c se R q σ := fun q σ => by funext i; unfold jgF; rw [g1]
  have g3 : ∀ q σ, jgJ c' se R q σ = jgJ c se R q σ := fun q σ => by funext i; unfold jgJ; rw [g1]
  have g4 : ∀ q σ, jgS c' se R q σ = jgS c se R q σ := fun q σ => by unfold jgS; rw [g2, g3]
  unfold sg
  rw [g4, d5, c3, b2, a3]
theorem acS_c {c c' x σ} (h : ceq c c') : acS c' x σ = acS c x σ := by
  unfold acS; rw [h 0 (by omega)]
theorem acs_c {c c'} (h : ceq c c') : ∀ (l : List A2) (σ : Nat → Nat → Int32), l.foldl (fun σ x => acS c' x σ) σ = l.foldl (fun σ x => acS c x σ) σ := by
  intro l
  induction l with
  | nil => intro σ; rfl
  | cons x l ih => intro σ; rw [List.foldl_cons, List.foldl_cons, acS_c h, ih]
theorem rl1_c {c c' σ h rl} (he : ceq c c') : rl1 c' σ h rl = rl1 c σ h rl := by
  funext i h'; unfold rl1; rw [lv_c he]
theorem rf1_c {c c' σ h rf} (he : ceq c c') : rf1 c' σ h rf = rf1 c σ h rf := by
  funext i h'; unfold rf1 rdOK lagN; rw [he 9 (by omega)]
abbrev AS : Type := (Nat → Nat → Int32) × Nat × Int32 × Int32 × Int32 × List A2 × List A3 × (Nat → Int32) × (Nat → Nat → Int32) × (Nat → Nat → Nat)
abbrev aS (A : AS) : Nat → Nat → Int32 := A.1
abbrev aH (A : AS) : Nat := A.2.1
abbrev aM (A : AS) : Int32 := A.2.2.1
abbrev aD (A : AS) : Int32 := A.2.2.2.1
abbrev aT (A : AS) : Int32 := A.2.2.2.2.1
abbrev aW (A : AS) : List A2 := A.2.2.2.2.2.1
abbrev aK (A : AS) : List A3 := A.2.2.2.2.2.2.1
abbrev aC (A : AS) : Nat → Int32 := A.2.2.2.2.2.2.2.1
abbrev aR (A : AS) : Nat → Nat → Int32 := A.2.2.2.2.2.2.2.2.1
abbrev aF (A : AS) : Nat → Nat → Nat := A.2.2.2.2.2.2.2.2.2
def lat (hr : Nat) (x : A3) : Bool := decide ((hr : Int) < x.1.toInt)
/-- the ACTS that wait when the HOUR's RULES are looked at -/
def stW1 (P : List A3) (A : AS) : List A2 := (P.filter (isH (nI (aH A + 1)))).foldl pushH (((aK A).filter (isH (nI (aH A + 1)))).foldl pushH (aW A))
def stB (c : Nat → Nat → Int32) (M : List M4) (A : AS) : O3 → Bool := Bx (c 10) (aS A 4) (aH A) (aT A) (aR A) (aF A) M
def stW2 (c : Nat → Nat → Int32) (RL : List R3) (P : List A3) (M : List M4) (rb : Bool) (A : AS) : List A2 := bif rb then rW (stB c M A) (aC A) RL (stW1 P A) RL.length else stW1 P A
def stC (c : Nat → Nat → Int32) (RL : List R3) (M : List M4) (rb : Bool) (A : AS) : Nat → Int32 := bif rb then rC (stB c M A) (aC A) RL (aH A) RL.length else aC A
def stS (c : Nat → Nat → Int32) (se : Int32) (R cr : Nat) (f t : Int32) (W : List A2) (σ : Nat → Nat → Int32) : Nat → Nat → Int32 := sg c se R f t ((W.take (mny cr W)).foldl (fun σ x => acS c x σ) σ)
def stF (c : Nat → Nat → Int32) (se : Int32) (R cr : Nat) (RL : List R3) (P : List A3) (M : List M4) (rb : Bool) (fi ft : Nat → Int32) (n : Nat) (A : AS) : AS :=
  (crS c R (nI (aH A + 1)) (stS c se R cr (fi (wix n (aH A + 1))) (ft (wix n (aH A + 1))) (stW2 c RL P M rb A) (aS A)), aH A + 1,
    hmS c (stS c se R cr (fi (wix n (aH A + 1))) (ft (wix n (aH A + 1))) (stW2 c RL P M rb A) (aS A)) R (aM A), aD A + nI (mny cr (stW2 c RL P M rb A)), ft (wix n (aH A + 1)),
    (stW2 c RL P M rb A).drop (mny cr (stW2 c RL P M rb A)), (aK A).filter (fun x => !isH (nI (aH A + 1)) x), stC c RL M rb A,
    rl1 c (crS c R (nI (aH A + 1)) (stS c se R cr (fi (wix n (aH A + 1))) (ft (wix n (aH A + 1))) (stW2 c RL P M rb A) (aS A))) (aH A + 1) (aR A),
    rf1 c (crS c R (nI (aH A + 1)) (stS c se R cr (fi (wix n (aH A + 1))) (ft (wix n (aH A + 1))) (stW2 c RL P M rb A) (aS A))) (aH A + 1) (aF A))
/-- what is sound of it -/
def hmO (hr : Nat) (hm : Int32) : Prop := 0 ≤ hm.toInt ∧ hm.toInt ≤ 240000 * (hr : Int)
def AO (c : Nat → Nat → Int32) (R : Nat) (A : AS) : Prop :=
  Ok c R (4800000 + 9999 * (aH A : Int)) (4800 + 4800 * (aH A : Int)) (aS A) ∧ aH A ≤ 396 ∧ hmO (aH A) (aM A) ∧ (aW A).length ≤ 40 ∧ (aK A).length ≤ 24 ∧ (∀ x, x ∈ aW A → actOK R x) ∧ ∀ x, x ∈ aK A → actOK R x.2
def POK (R : Nat) (P : List A3) : Prop := ∀ x, x ∈ P → actOK R x.2
theorem push_mem {cap : Nat} {l : List A2} {x y : A2} (h : x ∈ push cap l y) : x ∈ l ∨ x = y := by
  unfold push at h
  split at h
  · rw [List.mem_append] at h
    rcases h with h | h
    · exact Or.inl h
    · exact Or.inr (List.mem_singleton.mp h)
  · exact Or.inl h
theorem pushH_mem {x : A2} : ∀ (r : List A3) (l : List A2), x ∈ r.foldl pushH l → x ∈ l ∨ ∃ y, y ∈ r ∧ x = y.2 := by
  intro r
  induction r with
  | nil => intro l h; exact Or.inl h
  | cons y r ih =>
    intro l h
    rcases ih _ h with h1 | ⟨z, h1, h2⟩
    · rcases push_mem h1 with h3 | h3
      · exact Or.inl h3
      · exact Or.inr ⟨y, List.mem_cons_self .., h3⟩
    · exact Or.inr ⟨z, List.mem_cons_of_mem _ h1, h2⟩
theorem rW_mem {B ca RL W R} (hro : RUo R RL) (hW : ∀ x, x ∈ W → actOK R x) : ∀ n, n ≤ RL.length → ∀ x, x ∈ rW B ca RL W n → actOK R x := by
  intro n
  induction n with
  | zero => intro _ x hx; exact hW x hx
  | succ n ih =>
    intro hn x hx
    unfold rW at hx
    split at hx
    · rcases push_mem hx with h | h
      · exact ih (by omega) x h
      · obtain ⟨y, _, h2, h3⟩ := rg_len (RL := RL) (i := n) (by omega)
        rw [h, h3]; exact (hro.2 y h2).1
    · exact ih (by omega) x hx
theorem W1_ok {R P c A} (hp : POK R P) (ho : AO c R A) : (stW1 P A).length ≤ 40 ∧ ∀ x, x ∈ stW1 P A → actOK R x := by
  obtain ⟨o1, o2, o3, o4, o5, o6, o7⟩ := ho
  refine ⟨pushH_le (pushH_le o4), fun x hx => ?_⟩
  rcases pushH_mem _ _ hx with h | ⟨y, h1, h2⟩
  · rcases pushH_mem _ _ h with h | ⟨y, h1, h2⟩
    · exact o6 x h
    · rw [h2]; exact o7 y (List.mem_filter.mp h1).1
  · rw [h2]; exact hp y (List.mem_filter.mp h1).1
theorem W2_ok {R P c RL M rb A} (hro : RUo R RL) (hp : POK R P) (ho : AO c R A) : (stW2 c RL P M rb A).length ≤ 40 ∧ ∀ x, x ∈ stW2 c RL P M rb A → actOK R x := by
  obtain ⟨h1, h2⟩ := W1_ok hp ho
  unfold stW2
  cases rb
  · exact ⟨h1, h2⟩
  · exact ⟨rW_le h1 _, rW_mem hro h2 _ (Nat.le_refl _)⟩
theorem acs_ok {c R W I} (hR : R ≤ 24) (hI : I ≤ 2100000) (hW : W ≤ 8900000) : ∀ (l : List A2) (σ : Nat → Nat → Int32), Ok c R W I σ → (∀ x, x ∈ l → actOK R x) → Ok c R W I (l.foldl (fun σ x => acS c x σ) σ) := by
  intro l
  induction l with
  | nil => intro σ h _; exact h
  | cons x l ih => intro σ h hx; exact ih _ (ok_act hR h hI hW (hx x (List.mem_cons_self ..))) (fun y hy => hx y (List.mem_cons_of_mem _ hy))
theorem hm_b {c R W I σ} (ho : Ok c R W I σ) {hm : Int32} {B : Int} (h0 : 0 ≤ hm.toInt) (h1 : hm.toInt ≤ B) (hB : B ≤ 200000000) : ∀ n, n ≤ R → n ≤ 24 → 0 ≤ (hmS c σ n hm).toInt ∧ (hmS c σ n hm).toInt ≤ B + 9999 * (n : Int) := by
  intro n
  induction n with
  | zero => intro _ _; exact ⟨h0, by show hm.toInt ≤ B + 9999 * ((0 : Nat) : Int); omega⟩
  | succ n ih =>
    intro hn hn2
    obtain ⟨i0, i1⟩ := ih (by omega) (by omega)
    have p := (ho.1 n (by omega)).2.2.2.2.2.2.1
    unfold hmS
    split
    · rw [ti_add (by omega) (by omega)]; omega
    · omega
theorem st_ok {c se R cr W σ f t} {hr : Nat} (hck : CK c se R) (hf : 0 ≤ f.toInt ∧ f.toInt ≤ 9999) (ht : -30 ≤ t.toInt ∧ t.toInt ≤ 30) (hr4 : hr + 1 ≤ 396) (ho : Ok c R (4800000 + 9999 * (hr : Int)) (4800 + 4800 * (hr : Int)) σ) (hW : ∀ x, x ∈ W → actOK R x) :
    Ok c R (4800000 + 9999 * ((hr + 1 : Nat) : Int)) (4800 + 4800 * ((hr + 1 : Nat) : Int)) (stS c se R cr f t W σ) := by
  have h24 := hck.2.1
  have h2 := hck.1
  unfold stS sg
  have a1 := acs_ok h24 (by omega) (by omega) (W.take (mny cr W)) σ ho (fun x hx => hW x (List.mem_of_mem_take hx))
  have a2 := ok_inf a1 h2 hf (by omega)
  have a3 := ok_flow hck a2 (by omega) (by omega) (by omega)
  have a4 := ok_fr hck a3 ht
  have a5 := ok_br a4 (by omega)
  have a6 := ok_dr a5 (by omega) h2
  have a7 := ok_jg (se := se) (t := if t < 0 then 50 else 30) a6 (by omega) h2
  have e1 : (4800000 : Int) + 9999 * ((hr + 1 : Nat) : Int) = 4800000 + 9999 * (hr : Int) + 9999 := by omega
  have e2 : (4800 : Int) + 4800 * ((hr + 1 : Nat) : Int) = 4800 + 4800 * (hr : Int) + 4800 := by omega
  rw [e1, e2]
  exact a7
theorem AO_step {c se R cr RL P M rb fi ft n A} (hck : CK c se R) (hro : RUo R RL) (hwo : WTo n fi ft) (hp : POK R P) (h4 : aH A + 1 ≤ 396) (ho : AO c R A) : AO c R (stF c se R cr RL P M rb fi ft n A) := by
  obtain ⟨w1, w2⟩ := W2_ok (c := c) (M := M) (rb := rb) hro hp ho
  obtain ⟨o1, o2, o3, o4, o5, o6, o7⟩ := ho
  obtain ⟨fb, tb⟩ := hwo.2.2 _ (wix_lt (h := aH A + 1) hwo.1)
  have ok := st_ok (cr := cr) hck fb tb h4 o1 w2
  have hb := hm_b ok (hm := aM A) o3.1 o3.2 (by omega) R (Nat.le_refl _) hck.2.1
  have r24 := hck.2.1
  refine ⟨ok_cr ok, h4, ⟨hb.1, ?_⟩, ?_, ?_, ?_, ?_⟩
  · refine Int.le_trans hb.2 ?_
    show 240000 * (aH A : Int) + 9999 * (R : Int) ≤ 240000 * ((aH A + 1 : Nat) : Int)
    omega
  · show (List.drop _ _).length ≤ 40
    rw [List.length_drop]; omega
  · show (List.filter _ _).length ≤ 24
    exact Nat.le_trans (List.length_filter_le _ _) o5
  · intro x hx; exact w2 x (List.mem_of_mem_drop hx)
  · intro x hx; exact o7 x (List.mem_filter.mp hx).1
