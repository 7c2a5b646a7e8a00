/-! FITS: the hours run over -/
theorem c_fitsrun {w : PW} {k : Int32 → PW → Prop} {A : AS} {R cr : Nat} {se : Int32} {RL : List R3} {M : List M4} {c : Nat → Nat → Int32} {MK : List MM} {n wi N : Nat} {fi ft : Nat → Int32} (he : EC w R cr se RL) (hc : ceq c (cf w)) (hwi : wi < 4) (hwt : WTc w wi n fi ft) (hwo : WTo n fi ft) (hmk : MKc w MK) (hmo : MKo R MK) (hN : N ≤ 96) (h0 : aH A + N ≤ 396) (ho : AO c R A) (hb : BO R (aH A) (aR A) (aF A) M) (hkc : KC w 2 [] A)
    (hk : ∀ w', SN 2 w w' → k (ib (mtb (aS (itF (stF c se R cr RL [] M false fi ft n) N A) 10) MK)) w') :
    Wp 86 29 [some (.inr (.inr (0, 0))), some (.inl (nI wi)), some (.inl (nI N)), some (.inl 0)] [] w (kI k) := by
  have hck : CK c se R := CK.c hc.symm he.2.2.2.2.1
  have hro := he.2.2.2.2.2.2
  refine cntI (L := fun x => [some (.inr (.inr (0, 0))), some (.inl (nI wi)), some (.inl (nI N)), some (.inl x)]) N (fun i w' => KC w' 2 [] (itF (stF c se R cr RL [] M false fi ft n) i A) ∧ SN 2 w w') rfl ⟨hkc, SN.refl⟩ ?_ ?_
  · rintro w' ⟨q1, q2⟩
    apply v_X9_fits_29
    refine ⟨fun _ => ?_, fun e => absurd e (by rw [lt_nI (by omega) (by omega)]; omega)⟩
    refine c_metBy (MKc_fr (fun j x y => q2.2 0 j (by unfold wg tg; omega)) hmk) hmo hck.2.1 ?_
    have e51 : gI w' (2, 51) = aS (itF (stF c se R cr RL [] M false fi ft n) N A) 10 := q1.1 10 (by omega)
    rw [e51]
    have := hk w' q2
    cases eb : mtb (aS (itF (stF c se R cr RL [] M false fi ft n) N A) 10) MK with
    | false => rw [eb] at this; exact ⟨fun _ => this, fun x => absurd rfl x⟩
    | true => rw [eb] at this; exact ⟨fun x => absurd x (by decide), fun _ => this⟩
  · rintro i w' hi ⟨q1, q2⟩ hx
    obtain ⟨i1, i2, i3⟩ := it_ok (cr := cr) (rb := false) hck hro hwo POK_nil ho hb i (by omega)
    apply v_X9_fits_29
    rw [cl_nI (by omega), nI_s1]
    refine ⟨fun e => absurd e (by rw [le_nI (by omega) (by omega)]; omega), fun _ => ⟨in_nI (by omega) (by omega), ?_⟩⟩
    refine C_st0 (g := 2) (M := M) (by omega) (EC_of (fun j hj => q2.2 0 j (by unfold wg tg; omega)) he) (hc.tr (fun f hf => q2.2 0 (2 + f) (by unfold wg tg; omega))) (WTc_sn q2 hwt) hwo POK_nil (Nat.zero_le _) (by omega) i2 q1 ?_
    intro w2 p1 p2
    exact hx w2 ⟨p1, q2.tr p2⟩
