/-! FITS: the marks, in the model -/
theorem ix_12c {c f : Nat} : (12 : Int32) * nI c + nI f = nI (12 * c + f) := by rw [show (12 : Int32) = nI 12 from rfl, nI_ml, nI_ad]
theorem m_metBy {w : PW} {k : Int32 → PW → Prop} {R : Nat} {MK : List MM} (hm : MKm w MK) (ho : MKo R MK) (h24 : R ≤ 24) (hk : k (ib (mtb (fun c => gI w (2, 114) (12 * c + 10)) MK)) w) : Wp 174 59 [t9, none, none, i9 1, i9 0] [] w (kI k) := by
  have l10 := ho.1
  have main : ∀ z i b, i + z = MK.length → k (ib (b && mtb (fun c => gI w (2, 114) (12 * c + 10)) (MK.drop i))) w → Wp 174 59 [t9, none, none, i9 (ib b), i9 (nI i)] [] w (kI k) := by
    intro z
    induction z with
    | zero =>
      intro i b hi h
      obtain rfl : i = MK.length := by omega
      apply v_X10_fits_59
      rw [hm.1]
      rw [List.drop_length] at h
      cases b with
      | false => exact ⟨fun _ => ⟨fun _ => h, fun x => absurd rfl x⟩, fun e => absurd e (by rw [lt_nI (by omega) (by omega)]; omega)⟩
      | true => exact ⟨fun _ => ⟨fun x => absurd x (by decide), fun _ => h⟩, fun e => absurd e (by rw [lt_nI (by omega) (by omega)]; omega)⟩
    | succ z ih =>
      intro i b hi h
      have hl : i < MK.length := by omega
      have hx : MK[i]? = some MK[i] := List.getElem?_eq_getElem hl
      obtain ⟨x1, x2, x3⟩ := hm.2 i _ hx
      have xr := ho.2 _ (List.mem_of_getElem? hx)
      apply v_X10_fits_59
      rw [hm.1, cl_nI (by omega), x1, x2, x3, show (10 : Int32) = nI 10 from rfl, ix_12c, cl_nI (by omega), nI_s1]
      have i10 : vp_in (nI i) 10 := in_nI (by omega) (by omega)
      refine ⟨fun e => absurd e (by rw [le_nI (by omega) (by omega)]; omega), fun _ => ?_⟩
      cases b with
      | false => exact ⟨fun _ => ih (i + 1) false (by omega) h, fun x => absurd rfl x⟩
      | true =>
        rw [List.drop_eq_getElem_cons hl] at h
        refine ⟨fun x => absurd x (by decide), fun _ => ⟨i10, in_nI (by omega) (by omega), i10, i10, bbi (fun g => ?_) (fun g => ?_)⟩⟩
        · refine ih (i + 1) true (by omega) ?_
          have e : mtb (fun c => gI w (2, 114) (12 * c + 10)) (MK[i] :: MK.drop (i + 1)) = mtb (fun c => gI w (2, 114) (12 * c + 10)) (MK.drop (i + 1)) := by
            unfold mtb; rw [List.all_cons, decide_eq_true g, Bool.true_and]
          rw [e] at h; exact h
        · refine ih (i + 1) false (by omega) ?_
          have e : mtb (fun c => gI w (2, 114) (12 * c + 10)) (MK[i] :: MK.drop (i + 1)) = false := by
            unfold mtb; rw [List.all_cons, decide_eq_false g, Bool.false_and]
          rw [e] at h; exact h
  exact main MK.length 0 true (Nat.zero_add _) hk
