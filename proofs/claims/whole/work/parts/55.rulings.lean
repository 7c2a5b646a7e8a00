/-! RULES' ROWS, OLD AND NEW -/
theorem OC_eq {oa pa na oa' pa' na' : Nat → Int32} : ∀ (l : List O3) (k : Nat), (∀ q, k ≤ q → q < k + l.length → oa' q = oa q ∧ pa' q = pa q ∧ na' q = na q) → OC oa pa na k l → OC oa' pa' na' k l := by
  intro l
  induction l with
  | nil => intro _ _ _; exact trivial
  | cons x l ih =>
    intro k h ho
    rw [List.length_cons] at h
    obtain ⟨h1, h2, h3, h4⟩ := ho
    obtain ⟨e1, e2, e3⟩ := h k (Nat.le_refl _) (by omega)
    exact ⟨e1.trans h1, e2.trans h2, e3.trans h3, ih _ (fun q a b => h q (by omega) (by omega)) h4⟩
theorem OM_eq {wa wa' : Nat → Int32} : ∀ (l : List O3) (k : Nat), (∀ q, k ≤ q → q ≤ k + 3 * l.length → wa' q = wa q) → OM wa k l → OM wa' k l := by
  intro l
  induction l with
  | nil => intro k h ho; exact ⟨(h k (Nat.le_refl _) (by omega)).trans ho.1, ho.2⟩
  | cons x l ih =>
    intro k h ho
    rw [List.length_cons] at h
    obtain ⟨h1, h2, h3, h4, h5⟩ := ho
    have ob := oln_b x.1
    exact ⟨(h _ (Nat.le_refl _) (by omega)).trans h1, fun y => (h _ (by omega) (by omega)).trans (h2 y), fun y => (h _ (by omega) (by omega)).trans (h3 y), fun y => (h _ (by omega) (by omega)).trans (h4 y), ih _ (fun q a b => h q (by omega) (by omega)) h5⟩
theorem prs_q {T : Nat → Int64} {N R : Nat} : ∀ f p d q, p ≤ N → prs T N R f p d = .inl q → q ≤ N := by
  intro f
  induction f with
  | zero => intro p d q hp h; cases h; exact hp
  | succ f ih =>
    intro p d q hp h
    by_cases h1 : N ≤ p
    · rw [prs_end h1] at h; cases h; exact Nat.le_refl _
    · by_cases h2 : (T p).toInt = 0
      · rw [prs_0 h1 h2] at h
        by_cases h3 : d = 1
        · rw [if_pos h3] at h; cases h
        · rw [if_neg h3] at h; cases h; exact hp
      · by_cases h3 : (1 ≤ (T p).toInt ∧ (T p).toInt ≤ 8) ∧ p + oln (oc T p) - 1 < N ∧ snd T R (oc T p) p ∧ dpo (oc T p) d
        · rw [prs_y h1 h2 h3] at h
          have h5 := h3.2.1
          clear h3
          have ob := (oln_b (oc T p)).1
          cases e : prs T N R f (p + oln (oc T p)) (dpn (oc T p) d) with
          | inl q' => rw [e] at h; cases h; exact ih _ _ _ (by omega) e
          | inr l' => rw [e] at h; cases h
        · rw [prs_n h1 h2 h3] at h; cases h; exact hp
def AC (A : AS) (r : Nat) : AS := (aS A, aH A, aM A, aD A, aT A, aW A, aK A, ub (aC A) r (-2), aR A, aF A)
theorem KM_aC {m m' : Nat → Int32} {R M A r} (h : KM m R M A) (hb : M.length ≤ 40) (h24 : R ≤ 24) (hW : (aW A).length ≤ 40) (hK : (aK A).length ≤ 24) (hm : ∀ k, ¬ (446 ≤ k ∧ k < 458) → m' k = m k) (hc : ∀ q, q < 12 → m' (446 + q) = ub (fun z => m (446 + z)) r (-2) q) : KM m' R M (AC A r) := by
  obtain ⟨k1, k2, k3, k4, k5, k6, k7, k8, k9, k10⟩ := h
  refine KM_mk (fun i hi => ?_) ((hm _ (by omega)).trans k2) ((hm _ (by omega)).trans k3) ((hm _ (by omega)).trans k4) ((hm _ (by omega)).trans k5) ⟨(hm _ (by omega)).trans k6.1, fun q x hx => ?_⟩ ⟨(hm _ (by omega)).trans k7.1, fun q x hx => ?_⟩ (fun q hq => ?_) (BKM_fr (fun q hq1 _ => hm q (by omega)) hb h24 k9) k10
  · have e : ∀ f, f < 12 → m' (12 * i + f) = m (12 * i + f) := fun f hf => hm _ (by omega)
    have := k1 i hi
    simp only [e 0 (by omega), e 1 (by omega), e 2 (by omega), e 3 (by omega), e 4 (by omega), e 5 (by omega), e 6 (by omega), e 7 (by omega), e 8 (by omega), e 9 (by omega), e 10 (by omega), e 11 (by omega)]
    exact this
  · have hq : q < (aW A).length := (List.getElem?_eq_some_iff.mp hx).1
    rw [hm _ (by omega), hm _ (by omega)]; exact k6.2 q x hx
  · have hq : q < (aK A).length := (List.getElem?_eq_some_iff.mp hx).1
    rw [hm _ (by omega), hm _ (by omega), hm _ (by omega)]; exact k7.2 q x hx
  · rw [hc q hq, ub_eq, ub_eq]
    by_cases x : q = r
    · rw [if_pos x, if_pos x]
    · rw [if_neg x, if_neg x]; exact k8 q hq
theorem RO_aC {c R A M r} (h : RO c R A M) : RO c R (AC A r) M := by
  obtain ⟨h1, h2, h3, h4⟩ := h
  refine ⟨h1, h2, h3, fun x => ?_⟩
  obtain ⟨a1, a2, a3, a4⟩ := h4 x
  refine ⟨a1, a2, a3, fun q hq => ?_⟩
  show ub (aC A) r (-2) q = -2
  rw [ub_eq]
  by_cases y : q = r
  · rw [if_pos y]
  · rw [if_neg y]; exact a4 q hq
theorem m_wrongRow {w R cr se c RL PL MK A M WT TP v rf} {k : Int32 → PW → Prop} {d : Nat} (hd : d < 6) (im : IM w R cr se c RL PL MK A M WT TP v rf) (p1 : tS (TP d) ≤ 5) (h0 : tS (TP d) = 1 → k 0 w) (h11 : tS (TP d) = 0 → k (-11) w) (h12 : ¬ tS (TP d) = 0 → ¬ tS (TP d) = 1 → k (-12) w) :
    Cl 126 [vO 0 90, vI (nI d), vI 1] w (kI k) := by
  have u1 := (im.2.2.2.2.2.1 d hd).1
  have i6 : vp_in (nI d) 6 := in_nI hd (by omega)
  have dv : ∀ q, q ≤ 5 → ((nI (tS (TP d)) = nI q) ↔ tS (TP d) = q) := fun q hq => nI_inj (by omega) (by omega)
  apply v_X10_wrongRow_0
  rw [cl_nI (by omega), u1]
  exact ⟨i6, fun x => ⟨i6, fun y => h0 ((dv 1 (by omega)).mp y), fun y => h12 (fun z => x ((dv 0 (by omega)).mpr z)) (fun z => y ((dv 1 (by omega)).mpr z))⟩, fun x => h11 ((dv 0 (by omega)).mp x)⟩
theorem m_rloop {w : PW} {k : Int32 → PW → Prop} {a N r : Nat} (ha : a < 6) (hN : N ≤ 100) (hr : r < 12) (hs : gI w (0, 119) a = nI N) (h33 : gI w (0, 90) 33 = nI r)
    (hk : ∀ w3, w3 = aI w (0, 107) (va_cpy (fun q => (gL w (0, 120) q).toInt32) (gI w (0, 107)) (100 * a) (100 * r) N) → k (nI r) (sI (sI (sI w3 (1, 114) (446 + r) (-2)) (0, 90) 33 (nI (r + 1))) (0, 90) 37 (gI w (0, 90) 37 + 1))) :
    Wp 136 100 [t9, none, none, i9 (nI a), none, none, i9 0] [] w (kI k) := by
  have iva : vp_in (nI a) 6 := in_nI ha (by omega)
  refine cntI (L := fun x => [t9, none, none, i9 (nI a), none, none, i9 x]) N (fun i w' => w' = aI w (0, 107) (va_cpy (fun q => (gL w (0, 120) q).toInt32) (gI w (0, 107)) (100 * a) (100 * r) i)) rfl (by rw [va_cpy_0, aI_self]) ?_ ?_
  · rintro w' rfl
    apply v_X10_rule_100
    have e46 : (446 : Int32) + nI r = nI (446 + r) := by rw [show (446 : Int32) = nI 446 from rfl, nI_ad]
    rw [cl_nI (by omega), aI_ne (g := 0) (j := 119) (by omega), aI_ne (g := 0) (j := 90) (by omega), hs, h33, e46, cl_nI (by omega), nI_s1]
    refine ⟨iva, fun _ => ⟨in_nI (by omega) (by omega), ?_⟩, fun e => absurd e (by rw [lt_nI (by omega) (by omega)]; omega)⟩
    have e1 : nI (r + 1) - 1 = nI r := by rw [show (1 : Int32) = nI 1 from rfl, nI_sb (by omega)]; rfl
    rw [e1]
    exact hk _ rfl
  · rintro i w' hi' rfl hx
    apply v_X10_rule_100
    rw [cl_nI (by omega), aI_ne (g := 0) (j := 119) (by omega), aI_ne (g := 0) (j := 90) (by omega), hs, h33, ix_100, ix_100, cl_nI (by omega), cl_nI (by omega), nI_s1 (i := i)]
    refine ⟨iva, fun e => absurd e (by rw [le_nI (by omega) (by omega)]; omega), fun _ => ⟨in_nI (by omega) (by omega), in_nI (by omega) (by omega), hx _ ?_⟩⟩
    rw [sI_aI, ← va_cpy_ub]
    rfl
