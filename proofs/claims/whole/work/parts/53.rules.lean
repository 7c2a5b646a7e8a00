/-! A RULE TAKEN IN -/
section
variable {T : Nat → Int64} {N R : Nat}
set_option maxHeartbeats 60000 in
theorem prs_inv {f p d : Nat} {l : List O3} (h : prs T N R (f + 1) p d = .inr l) : p < N ∧ (((T p).toInt = 0 ∧ d = 1 ∧ l = []) ∨
    (¬ (T p).toInt = 0 ∧ (1 ≤ (T p).toInt ∧ (T p).toInt ≤ 8) ∧ p + oln (oc T p) - 1 < N ∧ (Unit → snd T R (oc T p) p) ∧ (Unit → dpo (oc T p) d) ∧ ∃ l', l = oxx T p :: l' ∧ prs T N R f (p + oln (oc T p)) (dpn (oc T p) d) = .inr l')) := by
  by_cases h1 : N ≤ p
  · rw [prs_end h1] at h; exact absurd h (by intro x; cases x)
  · refine ⟨by omega, ?_⟩
    by_cases h2 : (T p).toInt = 0
    · rw [prs_0 h1 h2] at h
      by_cases h3 : d = 1
      · rw [if_pos h3] at h; cases h; exact Or.inl ⟨h2, h3, rfl⟩
      · rw [if_neg h3] at h; cases h
    · by_cases h3 : (1 ≤ (T p).toInt ∧ (T p).toInt ≤ 8) ∧ p + oln (oc T p) - 1 < N ∧ snd T R (oc T p) p ∧ dpo (oc T p) d
      · rw [prs_y h1 h2 h3] at h
        cases e : prs T N R f (p + oln (oc T p)) (dpn (oc T p) d) with
        | inl q => rw [e] at h; cases h
        | inr l' =>
          rw [e] at h
          have : oxx T p :: l' = l := by injection h
          exact Or.inr ⟨h2, h3.1, h3.2.1, fun _ => h3.2.2.1, fun _ => h3.2.2.2, l', this.symm, rfl⟩
      · rw [prs_n h1 h2 h3] at h; cases h
theorem oxx_1 {p : Nat} : (oxx T p).1 = oc T p := rfl
set_option maxHeartbeats 60000 in
theorem prs_ok (hN : N ≤ 100) (hR : R ≤ 24) (hb : Tb T N) : ∀ f p d l, prs T N R f p d = .inr l → p + l.length < N ∧ OS R d l ∧ ∀ (wa : Nat → Int32) (r : Nat), (∀ q, q < N → wa (r + q) = (T q).toInt32) → r + N ≤ 1200 → OM wa (r + p) l := by
  intro f
  induction f with
  | zero => intro p d l h; cases h
  | succ f ih =>
    intro p d l h
    obtain ⟨h1, h2⟩ := prs_inv h
    have hbp := hb p h1
    rcases h2 with ⟨a1, a2, rfl⟩ | ⟨a1, a2, a3, a4, a5, l', rfl, a6⟩
    · refine ⟨h1, a2, fun wa r hw hr => ⟨?_, by omega⟩⟩
      rw [hw _ h1, ti_eq, t32 (by omega), a1]; rfl
    · obtain ⟨u1, u2, u3⟩ := ih _ _ _ a6
      have K1 : 1 ≤ oc T p := by unfold oc; omega
      have K8 : oc T p ≤ 8 := by unfold oc; omega
      have ob := (oln_b (oc T p)).1
      have pc : Unit → oc T p ≤ 3 → (oxx T p).2.1 = (T (p + 1)).toInt.toNat := fun _ h => if_pos h
      have pn : Unit → (oc T p = 1 ∨ oc T p = 2 ∨ oc T p = 4 ∨ oc T p = 5) → (oxx T p).2.2 = (T (p + oln (oc T p) - 1)).toInt32 := fun _ h => if_pos h
      refine ⟨by rw [List.length_cons]; omega, ⟨⟨K1, K8, fun h => ?_⟩, fun h => ?_, fun h => ?_, fun h => ?_⟩, fun wa r hw hr => ⟨?_, fun h => ?_, fun h => ?_, fun h => ?_, ?_⟩⟩
      · rw [oxx_1] at h
        have := (a4 ()).1 h
        rw [pc () h]; omega
      · rw [oxx_1] at h
        rw [show dpn (oc T p) d = d by unfold dpn; rw [if_pos h]] at u2
        exact ⟨(a5 ()).1 h, u2⟩
      · rw [oxx_1] at h
        rw [show dpn (oc T p) d = d - 1 by unfold dpn; rw [if_neg (by omega), if_neg (by omega)]] at u2
        exact ⟨(a5 ()).2.1 h, u2⟩
      · rw [oxx_1] at h
        rw [show dpn (oc T p) d = d + 1 by unfold dpn; rw [if_neg (by omega), if_pos h]] at u2
        exact ⟨(a5 ()).2.2 h, u2⟩
      · rw [hw _ h1]; exact kd a2
      · rw [oxx_1] at h
        have o := o3_ h
        have e1 : p + 1 < N := by omega
        have hb1 := hb _ e1
        have := (a4 ()).1 h
        rw [Nat.add_assoc, hw _ e1, pc () h, ti_eq, t32 (by omega), ti_nI (by omega)]
        omega
      · rw [oxx_1] at h
        have o := o12_ (K := oc T p) (by omega)
        rw [Nat.add_assoc, hw _ (by omega), pn () (by omega), o, show p + 3 - 1 = p + 2 by omega]
      · rw [oxx_1] at h
        have o : oln (oc T p) = 2 := by unfold oln; rw [if_neg (by omega), if_pos (by omega)]
        rw [Nat.add_assoc, hw _ (by omega), pn () (by omega), o, show p + 2 - 1 = p + 1 by omega]
      · have := u3 wa r hw hr
        rw [oxx_1, Nat.add_assoc]; exact this
set_option maxHeartbeats 60000 in
theorem c_count {w : PW} {k : Int32 → PW → Prop} {g : Nat} (hN : N ≤ 100) (hR : R ≤ 24) (hs : gI w (g, 70) 1 = nI N) (ht : ∀ q, q < N → gL w (g, 71) q = T q) (hb : Tb T N) : ∀ f p d c l, c ≤ p → prs T N R f p d = .inr l → k (nI (c + l.length)) w →
    Wp 22 4 [some (.inr (.inr (g, 70))), i9 (nI c), i9 (nI p)] [] w (kI k) := by
  intro f
  induction f with
  | zero => intro p d c l _ h; cases h
  | succ f ih =>
    intro p d c l hcp h hk
    obtain ⟨h1, h2⟩ := prs_inv h
    have hbp := hb p h1
    apply v_X4_ordersIn_4
    have ivp : vp_in (nI p) 100 := in_nI (by omega) (by omega)
    have z : lg_cmp (T p) (Int32.toInt64 0) = 0 ↔ (T p).toInt = 0 := by rw [lg_cmp_eq, ← Int64.toInt_inj, Int32.toInt_toInt64, tl0]
    rw [hs, cl_nI (by omega), ht p h1, z]
    refine ⟨fun e => absurd e (by rw [le_nI (by omega) (by omega)]; omega), fun _ => ⟨ivp, fun e => ?_, fun e => ⟨ivp, ?_⟩⟩⟩
    · rcases h2 with ⟨a1, a2, rfl⟩ | ⟨a1, a2, a3, a4, a5, l', rfl, a6⟩
      · exact hk
      · exact absurd e a1
    · rcases h2 with ⟨a1, a2, rfl⟩ | ⟨a1, a2, a3, a4, a5, l', rfl, a6⟩
      · exact absurd a1 e
      · have K1 : 1 ≤ oc T p := by unfold oc; omega
        have K8 : oc T p ≤ 8 := by unfold oc; omega
        have ob := (oln_b (oc T p)).1
        rw [kd a2, lenO_e K1 K8, nI_ad, nI_s1]
        refine ih _ _ _ _ (by omega) a6 ?_
        rw [show c + 1 + l'.length = c + (oxx T p :: l').length by rw [List.length_cons]; omega]
        exact hk
end
