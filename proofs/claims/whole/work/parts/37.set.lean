/-! sets of the PLAN -/
theorem st_addT {w g k σ hr hm dn wm W T ca} {h1 a b : Int32} (hg : g ≤ 8) (hs : CSt w g σ hr hm dn wm W T ca) (hT : T.length < 32)
    (h : ∀ w', CSt w' g σ hr hm dn wm W (T ++ [(h1, a, b)]) ca → SN g w w' → k w') : Cl 1 [vO (tg g) 54, vI h1, vI a, vI b] w (kV k) := by
  obtain ⟨s0, s1, s2, s3, s4, s5, s6, s7⟩ := hs
  obtain ⟨t5, t6, t7⟩ := len_t5 hg
  refine c_addT 32 t5 t6 t7 (by omega) s6 (by omega) ?_
  intro w' a1 a2
  unfold push at a1; rw [if_pos hT] at a1
  have f : ∀ j, j < 54 → gI w' (g, j) = gI w (g, j) := fun j hj => a2.2 g j (fun e => by omega)
  refine h w' ⟨fun q hq => by rw [f _ (by omega)]; exact s0 q hq, by rw [f _ (by omega)]; exact s1, by rw [f _ (by omega)]; exact s2, by rw [f _ (by omega)]; exact s3, by rw [f _ (by omega)]; exact s4, WL_fr (fun j _ _ => a2.2 _ _ (fun e => wt_ne e.1)) s5, a1, by rw [f _ (by omega)]; exact s7⟩ (AF.t2 a2).sn
theorem selL_le {set fr : Int32} : ∀ (l : List A3) (k : Nat), (selL set fr k l).length ≤ l.length := by
  intro l
  induction l with
  | nil => intro _; exact Nat.le_refl _
  | cons x l ih =>
    intro k
    have := ih (k + 1)
    show (if bit set k = true then _ else _ : List A3).length ≤ _
    rw [List.length_cons]
    split
    · rw [List.length_cons]; omega
    · omega
theorem selL_mem {set fr : Int32} {y : A3} : ∀ (l : List A3) (k : Nat), y ∈ selL set fr k l → ∃ x, x ∈ l ∧ y = (fr + x.1, x.2) := by
  intro l
  induction l with
  | nil => intro _ h; cases h
  | cons x l ih =>
    intro k h
    have e : selL set fr k (x :: l) = if bit set k = true then (fr + x.1, x.2) :: selL set fr (k + 1) l else selL set fr (k + 1) l := rfl
    rw [e] at h
    split at h
    · rcases List.mem_cons.mp h with h1 | h1
      · exact ⟨x, List.mem_cons_self .., h1⟩
      · obtain ⟨z, z1, z2⟩ := ih _ h1; exact ⟨z, List.mem_cons_of_mem _ z1, z2⟩
    · obtain ⟨z, z1, z2⟩ := ih _ h; exact ⟨z, List.mem_cons_of_mem _ z1, z2⟩
theorem selL_ok {R PL} {set fr : Int32} (h : PLo R PL) : POK R (selL set fr 0 PL) := by
  intro y hy
  obtain ⟨x, x1, rfl⟩ := selL_mem _ _ hy
  exact (h.2 x x1).2
theorem selL_lat {R PL} {set : Int32} {hr : Nat} (h : PLo R PL) (h4 : hr ≤ 300) : (selL set (nI hr) 0 PL).filter (lat hr) = selL set (nI hr) 0 PL := by
  apply List.filter_eq_self.mpr
  intro y hy
  obtain ⟨x, x1, rfl⟩ := selL_mem _ _ hy
  have := (h.2 x x1).1
  unfold lat
  have e : (nI hr + x.1).toInt = hr + x.1.toInt := by rw [ti_add (by rw [ti_nI (by omega)]; omega) (by rw [ti_nI (by omega)]; omega), ti_nI (by omega)]
  show decide ((hr : Int) < (nI hr + x.1).toInt) = true
  rw [e]
  exact decide_eq_true (by omega)
theorem c_takeSet_loop {w g k set} {hr : Nat} {PL : List A3} (hg : g ≤ 8) (hp : PLc w PL) (hp8 : PL.length ≤ 8) : ∀ (l : List A3) (i : Nat) (w1 : PW) (σ : Nat → Nat → Int32) (hm dn wm : Int32) (W : List A2) (T : List A3) (ca : Nat → Int32), i + l.length = PL.length → (∀ q x, l[q]? = some x → PL[i + q]? = some x) → T.length + l.length ≤ 32 →
    CSt w1 g σ (nI hr) hm dn wm W T ca → SN g w w1 → (∀ w', CSt w' g σ (nI hr) hm dn wm W (T ++ selL set (nI hr) i l) ca → SN g w w' → k w') →
    Wp 108 2 [some (.inr (.inr (0, 0))), some (.inr (.inr (g, 40))), some (.inl set), some (.inl (nI i))] [] w1 (kV k) := by
  intro l
  have gg : ∀ w1 j, SN g w w1 → 54 ≤ j → j ≤ 57 → gI w1 (99, j) = gI w (99, j) := fun w1 j hn a b => hn.2 99 j (by unfold wg tg; omega)
  induction l with
  | nil =>
    intro i w1 σ hm dn wm W T ca hi hx hT hs hn hk
    rw [List.length_nil] at hi
    apply v_X9_takeSet_2
    rw [gg w1 54 hn (by omega) (by omega), hp.1]
    refine ⟨fun _ => hk w1 (by rw [show selL set (nI hr) i [] = [] from rfl, List.append_nil]; exact hs) hn, fun e => absurd e (by rw [lt_nI (by omega) (by omega)]; omega)⟩
  | cons x l ih =>
    intro i w1 σ hm dn wm W T ca hi hx hT hs hn hk
    rw [List.length_cons] at hi hT
    have hx0 := hx 0 x rfl
    rw [Nat.add_zero] at hx0
    obtain ⟨p1, p2, p3⟩ := hp.2 i x hx0
    have hx' : ∀ q y, l[q]? = some y → PL[i + 1 + q]? = some y := fun q y hy => by
      have := hx (q + 1) y hy
      rw [show i + (q + 1) = i + 1 + q by omega] at this; exact this
    have i8 : vp_in (nI i) 8 := in_nI (by omega) (by omega)
    have e : selL set (nI hr) i (x :: l) = if bit set i = true then (nI hr + x.1, x.2) :: selL set (nI hr) (i + 1) l else selL set (nI hr) (i + 1) l := rfl
    apply v_X9_takeSet_2
    rw [gg w1 54 hn (by omega) (by omega), gg w1 55 hn (by omega) (by omega), gg w1 56 hn (by omega) (by omega), gg w1 57 hn (by omega) (by omega), hp.1, cl_nI (by omega), p1, p2, p3, hs.2.1]
    refine ⟨fun e => absurd e (by rw [le_nI (by omega) (by omega)]; omega), fun _ => ⟨fun g1 => ?_, fun g1 => ⟨i8, i8, i8, ?_⟩⟩⟩
    · rw [nI_s1]
      refine ih (i + 1) w1 σ hm dn wm W T ca (by omega) hx' (by omega) hs hn ?_
      have : bit set i = false := decide_eq_false g1
      rw [e, this] at hk; exact hk
    · refine st_addT hg hs (by omega) ?_
      intro w2 q1 q2
      rw [nI_s1]
      refine ih (i + 1) w2 σ hm dn wm W (T ++ [(nI hr + x.1, x.2.1, x.2.2)]) ca (by omega) hx' (by rw [List.length_append]; simp; omega) q1 (hn.tr q2) ?_
      intro w3 q3 q4
      refine hk w3 ?_ q4
      rw [e, if_pos (show bit set i = true from decide_eq_true g1)]
      rw [List.append_assoc] at q3; exact q3
theorem c_takeSet {w g k set σ hm dn wm W T ca} {hr : Nat} {PL : List A3} (hg : g ≤ 8) (hp : PLc w PL) (hp8 : PL.length ≤ 8) (hT : T.length ≤ 24) (hs : CSt w g σ (nI hr) hm dn wm W T ca)
    (hk : ∀ w', CSt w' g σ (nI hr) hm dn wm W (T ++ selL set (nI hr) 0 PL) ca → SN g w w' → k w') : Cl 108 [vO 0 0, vO g 40, vI set] w (kV k) := by
  apply v_X9_takeSet_0
  exact c_takeSet_loop hg hp hp8 PL 0 w σ hm dn wm W T ca (Nat.zero_add _) (fun q x hx => by rw [Nat.zero_add]; exact hx) (by omega) hs SN.refl hk
/-! TRIALS -/
theorem stF_hm {c se R cr RL P M rb fi ft n A} (hck : CK c se R) (hro : RUo R RL) (hwo : WTo n fi ft) (hp : POK R P) (h4 : aH A + 1 ≤ 396) (ho : AO c R A) : (aM A).toInt ≤ (aM (stF c se R cr RL P M rb fi ft n A)).toInt := by
  obtain ⟨w1, w2⟩ := W2_ok (c := c) (M := M) (rb := rb) hro hp ho
  obtain ⟨o1, o2, o3, o4, o5, o6, o7⟩ := ho
  obtain ⟨fb, tb⟩ := hwo.2.2 _ (wix_lt (h := aH A + 1) hwo.1)
  have ok := st_ok (cr := cr) hck fb tb h4 o1 w2
  have key : ∀ q, q ≤ R → q ≤ 24 → (aM A).toInt ≤ (hmS c (stS c se R cr (fi (wix n (aH A + 1))) (ft (wix n (aH A + 1))) (stW2 c RL P M rb A) (aS A)) q (aM A)).toInt := by
    intro q
    induction q with
    | zero => intro _ _; exact Int.le_refl _
    | succ q ih =>
      intro hn hn2
      have i1 := ih (by omega) (by omega)
      have hb := hm_b ok (hm := aM A) o3.1 o3.2 (by omega) q (by omega) (by omega)
      have p := (ok.1 q (by omega)).2.2.2.2.2.2.1
      unfold hmS
      split
      · rw [ti_add (by omega) (by omega)]; omega
      · omega
  exact key R (Nat.le_refl _) hck.2.1
def trF (c : Nat → Nat → Int32) (se : Int32) (R cr : Nat) (RL : List R3) (PL : List A3) (M : List M4) (A : AS) (ww : WW) (set : Int32) : AS → AS := stF c se R cr RL (selL set (nI (aH A)) 0 PL) M true ww.2.1 ww.2.2 ww.1
/-- the HARM of a TRIAL -/
def hv (c : Nat → Nat → Int32) (se : Int32) (R cr : Nat) (RL : List R3) (PL : List A3) (M : List M4) (A : AS) (ww : WW) (set : Int32) (k : Nat) : Int32 := aM (itF (trF c se R cr RL PL M A ww set) k A) - aM A
theorem tr_ok {c se R cr RL PL M A} {ww : WW} {set : Int32} (hck : CK c se R) (hro : RUo R RL) (hwo : WTo ww.1 ww.2.1 ww.2.2) (hpl : PLo R PL) (hr : RO c R A M) : ∀ k, k ≤ 96 →
    aH (itF (trF c se R cr RL PL M A ww set) k A) = aH A + k ∧ AO c R (itF (trF c se R cr RL PL M A ww set) k A) ∧ BO R (aH A + k) (aR (itF (trF c se R cr RL PL M A ww set) k A)) (aF (itF (trF c se R cr RL PL M A ww set) k A)) M :=
  fun k hk => it_ok hck hro hwo (selL_ok hpl) hr.1 hr.2.1 k (by have := hr.2.2.1; omega)
theorem tr_mono {c se R cr RL PL M A} {ww : WW} {set : Int32} (hck : CK c se R) (hro : RUo R RL) (hwo : WTo ww.1 ww.2.1 ww.2.2) (hpl : PLo R PL) (hr : RO c R A M) : ∀ k k', k ≤ k' → k' ≤ 96 →
    (aM (itF (trF c se R cr RL PL M A ww set) k A)).toInt ≤ (aM (itF (trF c se R cr RL PL M A ww set) k' A)).toInt := by
  intro k k' hk
  induction hk with
  | refl => intro _; exact Int.le_refl _
  | step hk ih =>
    rename_i m
    intro h96
    obtain ⟨i1, i2, i3⟩ := tr_ok (cr := cr) (set := set) hck hro hwo hpl hr m (by omega)
    refine Int.le_trans (ih (by omega)) ?_
    exact stF_hm hck hro hwo (selL_ok hpl) (by have := hr.2.2.1; omega) i2
theorem hv_b {c se R cr RL PL M A} {ww : WW} {set : Int32} (hck : CK c se R) (hro : RUo R RL) (hwo : WTo ww.1 ww.2.1 ww.2.2) (hpl : PLo R PL) (hr : RO c R A M) {k : Nat} (hk : k ≤ 96) :
    (hv c se R cr RL PL M A ww set k).toInt = (aM (itF (trF c se R cr RL PL M A ww set) k A)).toInt - (aM A).toInt ∧ 0 ≤ (hv c se R cr RL PL M A ww set k).toInt ∧ (hv c se R cr RL PL M A ww set k).toInt ≤ 100000000 := by
  obtain ⟨i1, i2, i3⟩ := tr_ok (cr := cr) (set := set) hck hro hwo hpl hr k hk
  have m1 := tr_mono (cr := cr) (set := set) hck hro hwo hpl hr 0 k (Nat.zero_le _) hk
  have b1 := i2.2.2.1
  have b0 := hr.1.2.2.1
  have m1' : (aM A).toInt ≤ (aM (itF (trF c se R cr RL PL M A ww set) k A)).toInt := m1
  rw [i1] at b1
  unfold hmO at b1 b0
  have h300 := hr.2.2.1
  have e : (hv c se R cr RL PL M A ww set k).toInt = (aM (itF (trF c se R cr RL PL M A ww set) k A)).toInt - (aM A).toInt := by
    unfold hv; exact ti_sub (by omega) (by omega)
  rw [e]; omega
