/-! A RULE TAKEN IN BY THE CLASS -/
def ADq (q : Nat) (w w' : PW) : Prop := (∀ g j, ¬ (g = 0 ∧ 18 ≤ j ∧ j ≤ 20) → gI w' (g, j) = gI w (g, j)) ∧ w'.2 = w.2 ∧ ∀ j z, 18 ≤ j → j ≤ 20 → z < q → gI w' (0, j) z = gI w (0, j) z
theorem ADq.refl {q w} : ADq q w w := ⟨fun _ _ _ => rfl, rfl, fun _ _ _ _ _ => rfl⟩
theorem ADq.tr {q w w' w''} (h : ADq q w w') (h' : ADq q w' w'') : ADq q w w'' := ⟨fun g j hh => (h'.1 g j hh).trans (h.1 g j hh), h'.2.1.trans h.2.1, fun j z a b c => (h'.2.2 j z a b c).trans (h.2.2 j z a b c)⟩
theorem ADq_s {q j i : Nat} {w : PW} {v : Int32} (h : 18 ≤ j ∧ j ≤ 20) (hi : q ≤ i) : ADq q w (sI w (0, j) i v) := ⟨fun g j' hh => sI_ne (by omega), rfl, fun j' z a b c => by
  by_cases e : j' = j
  · subst e; rw [gI_sN (beq_f (by omega))]
  · rw [sI_ne (by omega)]⟩
theorem ADq.mono {q q' w w'} (h : ADq q' w w') (hq : q ≤ q') : ADq q w w' := ⟨h.1, h.2.1, fun j z a b c => h.2.2 j z a b (by omega)⟩
set_option maxHeartbeats 200000 in
theorem c_add {T : Nat → Int64} {N R : Nat} {k : PW → Prop} {g r L : Nat} (hN : N ≤ 100) (hR : R ≤ 24) (hb : Tb T N) (hr : r < 12) (hL : 20 * r + L ≤ 240) : ∀ f p d l q w, prs T N R f p d = .inr l → q + l.length = 20 * r + L → gI w (0, 14) 6 = nI r → gI w (0, 17) r = nI L → (∀ q, q < N → gL w (g, 71) q = T q) →
    (∀ w', ADq q w w' → OC (gI w' (0, 18)) (gI w' (0, 19)) (gI w' (0, 20)) q l → k (sI w' (0, 14) 6 (nI (r + 1)))) →
    Wp 23 45 [some (.inr (.inr (0, 14))), none, none, some (.inr (.inr (g, 70))), i9 (nI p), i9 (nI q), none] [] w (kV k) := by
  intro f
  induction f with
  | zero => intro p d l q w h; cases h
  | succ f ih =>
    intro p d l q w h hq h14 h17 ht hk
    obtain ⟨h1, h2⟩ := prs_inv h
    have hbp := hb p h1
    apply v_X4_add_45
    have e20 : nI r * 20 + nI L = nI (20 * r + L) := by rw [show (20 : Int32) = nI 20 from rfl, nI_ml, nI_ad]; congr 1; omega
    rw [h14, cl_nI (by omega), h17, e20, nI_s1]
    refine ⟨in_nI (by omega) (by omega), fun e => ?_, fun e => ?_⟩
    · rw [le_nI (by omega) (by omega)] at e
      have : l = [] := List.eq_nil_of_length_eq_zero (by omega)
      subst this
      exact hk w ADq.refl trivial
    rw [lt_nI (by omega) (by omega)] at e
    rcases h2 with ⟨a1, a2, rfl⟩ | ⟨a1, a2, a3, a4, a5, l', rfl, a6⟩
    · rw [List.length_nil] at hq; omega
    rw [List.length_cons] at hq
    have K1 : 1 ≤ oc T p := by unfold oc; omega
    have K8 : oc T p ≤ 8 := by unfold oc; omega
    have ob := oln_b (oc T p)
    have ivq : vp_in (nI q) 240 := in_nI (by omega) (by omega)
    have next : ∀ cell num : Int32, cell = nI (oxx T p).2.1 → num = (oxx T p).2.2 → Wp 23 45 [some (.inr (.inr (0, 14))), none, none, some (.inr (.inr (g, 70))), i9 (nI p + nI (oln (oc T p))), i9 (nI q + 1), none] [] (sI (sI (sI w (0, 18) q (nI (oc T p))) (0, 19) q cell) (0, 20) q num) (kV k) := by
      intro cell num hc hn
      have ad : ADq q w (sI (sI (sI w (0, 18) q (nI (oc T p))) (0, 19) q cell) (0, 20) q num) := ((ADq_s (by omega) (Nat.le_refl _)).tr (ADq_s (by omega) (Nat.le_refl _))).tr (ADq_s (by omega) (Nat.le_refl _))
      have v1 : gI (sI (sI (sI w (0, 18) q (nI (oc T p))) (0, 19) q cell) (0, 20) q num) (0, 18) q = nI (oc T p) := by rw [sI_ne (by omega), sI_ne (by omega), gI_sat]
      have v2 : gI (sI (sI (sI w (0, 18) q (nI (oc T p))) (0, 19) q cell) (0, 20) q num) (0, 19) q = cell := by rw [sI_ne (by omega), gI_sat]
      have v3 : gI (sI (sI (sI w (0, 18) q (nI (oc T p))) (0, 19) q cell) (0, 20) q num) (0, 20) q = num := gI_sat
      rw [nI_ad, nI_s1]
      generalize sI (sI (sI w (0, 18) q (nI (oc T p))) (0, 19) q cell) (0, 20) q num = w1 at ad v1 v2 v3
      refine ih _ _ l' _ w1 a6 (by omega) (by rw [ad.1 0 14 (by omega)]; exact h14) (by rw [ad.1 0 17 (by omega)]; exact h17) (fun z hz => by unfold gL; rw [ad.2.1]; exact ht z hz) (fun w' x1 x2 => hk w' (ad.tr (x1.mono (by omega))) ⟨?_, ?_, ?_, x2⟩)
      · rw [x1.2.2 18 q (by omega) (by omega) (by omega), v1]; rfl
      · rw [x1.2.2 19 q (by omega) (by omega) (by omega), v2]; exact hc
      · rw [x1.2.2 20 q (by omega) (by omega) (by omega), v3]; exact hn
    have n164 : ∀ cell num : Int32, cell = nI (oxx T p).2.1 → num = (oxx T p).2.2 → Wp 23 164 [some (.inr (.inr (0, 14))), none, none, some (.inr (.inr (g, 70))), i9 (nI p), i9 (nI q), i9 (nI (oln (oc T p)))] [j9 num, j9 (nI q), .inr (.inr (0, 20))] (sI (sI w (0, 18) q (nI (oc T p))) (0, 19) q cell) (kV k) := fun cell num hc hn => by
      apply v_X4_add_164
      rw [cl_nI (by omega)]
      exact ⟨ivq, next cell num hc hn⟩
    have n127 : ∀ cell : Int32, cell = nI (oxx T p).2.1 → Wp 23 127 [some (.inr (.inr (0, 14))), none, none, some (.inr (.inr (g, 70))), i9 (nI p), i9 (nI q), i9 (nI (oln (oc T p)))] [j9 cell, j9 (nI q), .inr (.inr (0, 19))] (sI w (0, 18) q (nI (oc T p))) (kV k) := fun cell hc => by
      apply v_X4_add_127
      rw [cl_nI (by omega), gI_sat]
      have xp : nI p + nI (oln (oc T p)) - 1 = nI (p + oln (oc T p) - 1) := by rw [show (1 : Int32) = nI 1 from rfl, nI_ad, nI_sb (by omega)]
      rw [xp, cl_nI (by omega)]
      refine ⟨ivq, ivq, bbi (fun y => ⟨in_nI (by omega) (by omega), n164 cell _ hc ?_⟩) (fun y => n164 cell _ hc ?_)⟩
      · have := (num_e K8).mp y
        show (gL w (g, 71) _).toInt32 = _
        rw [ht _ a3]
        exact (if_pos this).symm
      · exact (if_neg (fun z => y ((num_e K8).mpr z))).symm
    rw [cl_nI (by omega), cl_nI (by omega), ht p h1, gI_sat, kd a2, lenO_e K1 K8]
    refine ⟨in_nI (by omega) (by omega), ivq, ivq, ivq, bbi (fun y => ?_) (fun y => n127 0 ?_)⟩
    · have c3 := (cell_e K1 K8).mp y
      have o := o3_ c3
      have e1 : p + 1 < N := by omega
      have hb1 := hb _ e1
      have h4 := (a4 ()).1 c3
      rw [nI_s1, cl_nI (by omega), ht _ e1]
      refine ⟨in_nI (by omega) (by omega), n127 _ ?_⟩
      rw [show (oxx T p).2.1 = (T (p + 1)).toInt.toNat from if_pos c3, ti_eq, t32 (by omega), ti_nI (by omega)]; omega
    · rw [show (oxx T p).2.1 = 0 from if_neg (fun z => y ((cell_e K1 K8).mpr z))]; rfl
