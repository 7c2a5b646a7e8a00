/-! FITS: are the marks met -/
def mtb (f : Nat → Int32) (MK : List MM) : Bool := MK.all (fun x => decide (x.2.1 ≤ f x.1 ∧ f x.1 ≤ x.2.2))
theorem c_metBy {w : PW} {k : Int32 → PW → Prop} {a R : Nat} {MK : List MM} (hm : MKc w MK) (ho : MKo R MK) (h24 : R ≤ 24) (hk : k (ib (mtb (gI w (a, 51)) MK)) w) : Cl 14 [vO 0 25, vO a 51] w (kI k) := by
  apply v2_X2_areMetBy_0
  have l10 := ho.1
  have main : ∀ z i, i + z = MK.length → k (ib (mtb (gI w (a, 51)) (MK.drop i))) w → Wp 14 2 [some (.inr (.inr (0, 25))), some (.inr (.inr (a, 51))), some (.inl (nI i))] [] w (kI k) := by
    intro z
    induction z with
    | zero =>
      intro i hi h
      obtain rfl : i = MK.length := by omega
      apply v2_X2_areMetBy_2
      rw [hm.1]
      rw [List.drop_length] at h
      exact ⟨fun _ => ⟨b01_1, h⟩, fun e => absurd e (by rw [lt_nI (by omega) (by omega)]; omega)⟩
    | succ z ih =>
      intro i hi h
      have hl : i < MK.length := by omega
      rw [List.drop_eq_getElem_cons hl] at h
      have hx : MK[i]? = some MK[i] := List.getElem?_eq_getElem hl
      obtain ⟨x1, x2, x3⟩ := hm.2 i _ hx
      have xr := ho.2 _ (List.mem_of_getElem? hx)
      apply v2_X2_areMetBy_2
      rw [hm.1, cl_nI (by omega), x1, x2, x3, cl_nI (by omega)]
      have i10 : vp_in (nI i) 10 := in_nI (by omega) (by omega)
      refine ⟨fun e => absurd e (by rw [le_nI (by omega) (by omega)]; omega), fun _ => ⟨i10, in_nI (by omega) (by omega), i10, i10, bbj (fun g => ?_) (fun g => ⟨b01_0, ?_⟩)⟩⟩
      · rw [nI_s1]
        refine ih (i + 1) (by omega) ?_
        have e : mtb (gI w (a, 51)) (MK[i] :: MK.drop (i + 1)) = mtb (gI w (a, 51)) (MK.drop (i + 1)) := by
          unfold mtb; rw [List.all_cons, decide_eq_true g, Bool.true_and]
        rw [e] at h; exact h
      · have e : mtb (gI w (a, 51)) (MK[i] :: MK.drop (i + 1)) = false := by
          unfold mtb; rw [List.all_cons, decide_eq_false g, Bool.false_and]
        rw [e] at h; exact h
  exact main MK.length 0 (Nat.zero_add _) hk
