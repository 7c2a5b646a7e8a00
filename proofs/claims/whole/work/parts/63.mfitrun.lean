/-! FITS: the hours run over, in the model -/
theorem mtb_eq {f f' : Nat → Int32} {R : Nat} {MK : List MM} (ho : MKo R MK) (h : ∀ i, i < R → f' i = f i) : mtb f' MK = mtb f MK := by
  have h2 := ho.2
  clear ho
  unfold mtb
  induction MK with
  | nil => rw [List.all_nil, List.all_nil]
  | cons x l ih =>
    rw [List.all_cons, List.all_cons, ih (fun y hy => h2 y (List.mem_cons_of_mem _ hy)), h x.1 (h2 x (List.mem_cons_self ..))]
theorem m_fitsrun {w : PW} {k : Int32 → PW → Prop} {A : AS} {R cr : Nat} {se : Int32} {RL : List R3} {PL : List A3} {M : List M4} {c : Nat → Nat → Int32} {MK : List MM} {n wi N : Nat} {fi ft : Nat → Int32} (he : EM w R cr se RL PL) (hck : CK c se R) (hce : CE R c (cm w)) (hwi : wi < 4) (hwt : WTm w wi n fi ft) (hwo : WTo n fi ft) (hmk : MKm w MK) (hmo : MKo R MK) (h1 : 1 ≤ N) (hN : N ≤ 96) (h0 : aH A + N ≤ 396) (ho : AO c R A) (hb : BO R (aH A) (aR A) (aF A) M) (hkm : KM (gI w (2, 114)) R M A)
    (hk : ∀ w', MB 2 w w' → k (ib (mtb (aS (itF (stF c se R cr RL [] M false fi ft n) N A) 10) MK)) w') :
    Wp 174 31 [t9, i9 (nI wi), i9 (nI N), i9 0, none] [] w (kI k) := by
  have hro := he.2.2.2.2.2.1
  refine cntI (L := fun x => [t9, i9 (nI wi), i9 (nI N), i9 x, none]) N (fun i w' => KM (gI w' (2, 114)) R M (itF (stF c se R cr RL [] M false fi ft n) i A) ∧ MB 2 w w') rfl ⟨hkm, MB.refl⟩ ?_ ?_
  · rintro w' ⟨q1, q2⟩
    obtain ⟨i1, i2, i3⟩ := it_ok (cr := cr) (rb := false) hck hro hwo POK_nil ho hb N (by omega)
    apply v_X10_fits_31
    refine ⟨fun _ => ?_, fun e => absurd e (by rw [lt_nI (by omega) (by omega)]; omega)⟩
    refine m_metBy (MKm_fr (q2.2.2 35 (by omega)) (fun j x y => q2.2.1 0 j (by omega)) hmk) hmo hck.2.1 ?_
    have rel := q1.1
    have hc := q1.2.2.2.2.2.2.2.2.2
    rw [mtb_eq (f := aS (itF (stF c se R cr RL [] M false fi ft n) N A) 10) hmo (fun i hi => (rel i hi).2.2.2.2.2.2.2.2.2.2.2.1 (hc (by omega) i hi))]
    exact hk w' q2
  · rintro i w' hi ⟨q1, q2⟩ hx
    obtain ⟨i1, i2, i3⟩ := it_ok (cr := cr) (rb := false) hck hro hwo POK_nil ho hb i (by omega)
    rw [← i1] at i3
    apply v_X10_fits_31
    rw [nI_s1]
    refine ⟨fun e => absurd e (by rw [le_nI (by omega) (by omega)]; omega), fun _ => ?_⟩
    refine M_step (rb := false) (P := []) (set := 0) (fr := 0) ?_ (EM_mb q2 he) hck (CE_fr (fun j hj => q2.2.1 0 j (by omega)) hce) hwi (WTm_fr (fun j hj => q2.2.1 0 j (by omega)) hwt) hwo POK_nil (by omega) i2 i3 q1 ?_
    · exact (selL_0 PL 0 (by have := he.2.2.2.2.2.2.2; omega)).symm
    intro w2 p1 p2
    exact hx w2 ⟨p1, q2.tr p2⟩
