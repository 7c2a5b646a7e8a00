/-! the class's world put together */ -/
theorem cell_ad2 {ad ad' : AD} {cI cZ cJ cW cP cW' cP' : ClassId} {w : PW} {T : List Ob} {o : Ob} (hr : refsIn T o) (h : ∀ x, x ∈ T → ad' x = ad x) : cellOf ad' cI cZ cJ cW' cP' w o = cellOf ad cI cZ cJ cW cP w o := by
  have e1 := cell_ad (cI := cI) (cZ := cZ) (cJ := cJ) (cW := cW') (cP := cP') (w := w) hr h
  rw [e1]
  obtain ⟨h1, h2⟩ := hr
  unfold cellOf
  rcases h2 with e | e | e | e <;> (rw [e]; rfl)
theorem WS_ad2 {ad ad' : AD} {cI cZ cJ cW cP cW' cP' : ClassId} {w : PW} {S T : List Ob} (hr : ∀ o, o ∈ S → refsIn T o) (hT : ∀ o, o ∈ S → o ∈ T) (h : ∀ x, x ∈ T → ad' x = ad x) : WS ad' cI cZ cJ cW' cP' w S = WS ad cI cZ cJ cW cP w S := by
  unfold WS
  refine List.map_congr_left (fun o ho => ?_)
  rw [h o (hT o ho), cell_ad2 (hr o ho) h]
def refsB (T : List Ob) (o : Ob) : Bool := (bif Nat.beq (shk o.2) 1 then (List.range (cN (shc o.2))).all (fun k => match fd (shc o.2) k with | none => true | some (f, j) => T.contains (f o.1, j)) else true) && (Nat.beq (shk o.2) 1 || Nat.beq (shk o.2) 2 || Nat.beq (shk o.2) 3 || Nat.beq (shk o.2) 4)
theorem refsB_ok {T : List Ob} {o : Ob} (h : refsB T o = true) : refsIn T o := by
  unfold refsB at h
  rw [Bool.and_eq_true] at h
  obtain ⟨h1, h2⟩ := h
  refine ⟨fun e k f j hk hf => ?_, ?_⟩
  · rw [e, show Nat.beq 1 1 = true from rfl, cond_true, List.all_eq_true] at h1
    have := h1 k (List.mem_range.mpr hk)
    rw [hf] at this
    exact List.contains_iff_mem.mp this
  · simp only [Bool.or_eq_true, Nat.beq_eq] at h2
    rcases h2 with ((h2 | h2) | h2) | h2
    · exact Or.inl h2
    · exact Or.inr (Or.inl h2)
    · exact Or.inr (Or.inr (Or.inl h2))
    · exact Or.inr (Or.inr (Or.inr h2))
theorem refsA {S T : List Ob} (h : S.all (refsB T) = true) : ∀ o, o ∈ S → refsIn T o := fun o ho => refsB_ok (List.all_eq_true.mp h o ho)
/-- which constructor's call made an object -/
def ky (o : Ob) : Nat :=
  bif Nat.beq o.2 0 || Nat.beq o.2 13 || Nat.beq o.2 32 || Nat.beq o.2 33 then 0
  else bif Nat.blt o.2 13 then 1
  else bif Nat.blt o.2 25 then 6
  else bif Nat.blt o.2 29 then 8
  else bif Nat.blt o.2 33 then 12
  else bif Nat.blt o.2 54 then (bif Nat.beq o.1 1 then 10 else bif Nat.beq o.1 2 then 11 else 10 + o.1)
  else bif Nat.blt o.2 62 then (bif Nat.beq o.1 99 then 7 else bif Nat.blt o.1 104 then 10 else bif Nat.blt o.1 106 then 11 else 13 + (o.1 - 106) / 2)
  else bif Nat.blt o.2 70 then (bif Nat.beq o.1 1 then 9 else 10 + o.1)
  else bif Nat.blt o.2 80 then 13 + o.1
  else 2 + o.1
def adF (F : List AD) (a0 : AD) : AD := fun o => F.getD (ky o) a0 o
theorem adF_at {F : List AD} {a0 a : AD} {k : Nat} {T : List Ob} (h : T.all (fun x => Nat.beq (ky x) k) = true) (hF : F.getD k a0 = a) : ∀ x, x ∈ T → adF F a0 x = a x := by
  intro x hx
  have := List.all_eq_true.mp h x hx
  unfold adF
  rw [Nat.eq_of_beq_eq_true this, hF]
def S3l : List Ob := [(0, 1), (0, 2), (0, 3), (0, 4), (0, 5), (0, 6), (0, 7), (0, 8), (0, 9), (0, 10), (0, 11), (0, 12)]
def S4l : List Ob := [(0, 14), (0, 15), (0, 16), (0, 17), (0, 18), (0, 19), (0, 20)]
def S2l : List Ob := [(0, 25), (0, 26), (0, 27), (0, 28)]
def S6l : List Ob := [(0, 29), (0, 30), (0, 31)]
def S8l (g : Nat) : List Ob := [(g, 80), (g, 81), (g, 82)]
def LL : List Ob := ((((((((((((((((S3l ++ S8l 0) ++ S8l 1) ++ S8l 2) ++ S8l 3) ++ S4l) ++ SA 99) ++ S2l) ++ SBk 1) ++ SS 1) ++ SS 2) ++ S6l) ++ STp 0) ++ STp 1) ++ STp 2) ++ STp 3) ++ STp 4) ++ STp 5
def objsL : List Ob := (0, 0) :: (0, 13) :: (0, 32) :: LL
theorem objsL_perm : objsL.Perm objsC := List.isPerm_iff.mp (by decide +kernel)
theorem r_S3 : ∀ o, o ∈ S3l → refsIn S3l o := refsA (by decide +kernel)
theorem r_S4 : ∀ o, o ∈ S4l → refsIn S4l o := refsA (by decide +kernel)
theorem r_S2 : ∀ o, o ∈ S2l → refsIn S2l o := refsA (by decide +kernel)
theorem r_S6 : ∀ o, o ∈ S6l → refsIn (S6l ++ [(0, 1), (0, 14)]) o := refsA (by decide +kernel)
theorem r_S8 (b : Nat) (hb : b < 4) : ∀ o, o ∈ S8l b → refsIn (S8l b) o := by
  have : (List.range 4).all (fun b => (S8l b).all (refsB (S8l b))) = true := by decide +kernel
  exact refsA (List.all_eq_true.mp this b (List.mem_range.mpr hb))
theorem r_ST (d : Nat) (hd : d < 6) : ∀ o, o ∈ STp d → refsIn (STp d) o := by
  have : (List.range 6).all (fun b => (STp b).all (refsB (STp b))) = true := by decide +kernel
  exact refsA (List.all_eq_true.mp this d (List.mem_range.mpr hd))
theorem ky_S8 (b : Nat) (hb : b < 4) : (S8l b).all (fun x => Nat.beq (ky x) (2 + b)) = true := by
  have : (List.range 4).all (fun b => (S8l b).all (fun x => Nat.beq (ky x) (2 + b))) = true := by decide +kernel
  exact List.all_eq_true.mp this b (List.mem_range.mpr hb)
theorem ky_ST (d : Nat) (hd : d < 6) : (STp d).all (fun x => Nat.beq (ky x) (13 + d)) = true := by
  have : (List.range 6).all (fun d => (STp d).all (fun x => Nat.beq (ky x) (13 + d))) = true := by decide +kernel
  exact List.all_eq_true.mp this d (List.mem_range.mpr hd)
/-- all parts at once -/
theorem LL_ad {aR w0 w1 w2 w3 aU aP aK aB aL aT aS t0 t1 t2 t3 t4 t5 a0 : AD} {cI cZ cJ cW cP cW' cP' : ClassId} (hL : aL (1, 62) = aB (1, 62)) (hT : aT (1, 62) = aB (1, 62)) (hS1 : aS (0, 1) = aR (0, 1)) (hS2 : aS (0, 14) = aU (0, 14)) :
    WS (adF [a0, aR, w0, w1, w2, w3, aU, aP, aK, aB, aL, aT, aS, t0, t1, t2, t3, t4, t5] a0) cI cZ cJ cW' cP' z0 LL =
      ((((((((((((((((WS aR cI cZ cJ cW cP z0 S3l ++ WS w0 cI cZ cJ cW cP z0 (S8l 0)) ++ WS w1 cI cZ cJ cW cP z0 (S8l 1)) ++ WS w2 cI cZ cJ cW cP z0 (S8l 2)) ++ WS w3 cI cZ cJ cW cP z0 (S8l 3)) ++ WS aU cI cZ cJ cW cP z0 S4l) ++ WS aP cI cZ cJ cW cP z0 (SA 99)) ++ WS aK cI cZ cJ cW cP z0 S2l) ++ WS aB cI cZ cJ cW cP z0 (SBk 1)) ++ WS aL cI cZ cJ cW cP z0 (SS 1)) ++ WS aT cI cZ cJ cW cP z0 (SS 2)) ++ WS aS cI cZ cJ cW cP z0 S6l) ++ WS t0 cI cZ cJ cW cP z0 (STp 0)) ++ WS t1 cI cZ cJ cW cP z0 (STp 1)) ++ WS t2 cI cZ cJ cW cP z0 (STp 2)) ++ WS t3 cI cZ cJ cW cP z0 (STp 3)) ++ WS t4 cI cZ cJ cW cP z0 (STp 4)) ++ WS t5 cI cZ cJ cW cP z0 (STp 5) := by
  generalize hF : [a0, aR, w0, w1, w2, w3, aU, aP, aK, aB, aL, aT, aS, t0, t1, t2, t3, t4, t5] = F
  have f1 : F.getD 1 a0 = aR := by subst hF; rfl
  have f2 : F.getD 2 a0 = w0 := by subst hF; rfl
  have f3 : F.getD 3 a0 = w1 := by subst hF; rfl
  have f4 : F.getD 4 a0 = w2 := by subst hF; rfl
  have f5 : F.getD 5 a0 = w3 := by subst hF; rfl
  have f6 : F.getD 6 a0 = aU := by subst hF; rfl
  have f7 : F.getD 7 a0 = aP := by subst hF; rfl
  have f8 : F.getD 8 a0 = aK := by subst hF; rfl
  have f9 : F.getD 9 a0 = aB := by subst hF; rfl
  have f10 : F.getD 10 a0 = aL := by subst hF; rfl
  have f11 : F.getD 11 a0 = aT := by subst hF; rfl
  have f12 : F.getD 12 a0 = aS := by subst hF; rfl
  have f13 : F.getD 13 a0 = t0 := by subst hF; rfl
  have f14 : F.getD 14 a0 = t1 := by subst hF; rfl
  have f15 : F.getD 15 a0 = t2 := by subst hF; rfl
  have f16 : F.getD 16 a0 = t3 := by subst hF; rfl
  have f17 : F.getD 17 a0 = t4 := by subst hF; rfl
  have f18 : F.getD 18 a0 = t5 := by subst hF; rfl
  have b62 : adF F a0 (1, 62) = aB (1, 62) := adF_at (T := [(1, 62)]) (by decide +kernel) f9 _ (List.mem_singleton.mpr rfl)
  have b01 : adF F a0 (0, 1) = aR (0, 1) := adF_at (T := [(0, 1)]) (by decide +kernel) f1 _ (List.mem_singleton.mpr rfl)
  have b14 : adF F a0 (0, 14) = aU (0, 14) := adF_at (T := [(0, 14)]) (by decide +kernel) f6 _ (List.mem_singleton.mpr rfl)
  unfold LL
  simp only [WS_app]
  rw [WS_ad2 (S := S3l) r_S3 (fun _ h => h) (adF_at (by decide +kernel) f1), WS_ad2 (S := S8l 0) (r_S8 0 (by omega)) (fun _ h => h) (adF_at (ky_S8 0 (by omega)) f2), WS_ad2 (S := S8l 1) (r_S8 1 (by omega)) (fun _ h => h) (adF_at (ky_S8 1 (by omega)) f3), WS_ad2 (S := S8l 2) (r_S8 2 (by omega)) (fun _ h => h) (adF_at (ky_S8 2 (by omega)) f4), WS_ad2 (S := S8l 3) (r_S8 3 (by omega)) (fun _ h => h) (adF_at (ky_S8 3 (by omega)) f5),
    WS_ad2 (S := S4l) r_S4 (fun _ h => h) (adF_at (by decide +kernel) f6), WS_ad2 (S := SA 99) SA_refs (fun _ h => h) (adF_at (by decide +kernel) f7), WS_ad2 (S := S2l) r_S2 (fun _ h => h) (adF_at (by decide +kernel) f8), WS_ad2 (S := SBk 1) SBk_refs (fun _ h => h) (adF_at (by decide +kernel) f9),
    WS_ad2 (S := SS 1) SS_refs (fun _ h => List.mem_append_left _ h) (fun x hx => (List.mem_append.mp hx).elim (adF_at (k := 10) (by decide +kernel) f10 x) (fun h => by rw [List.mem_singleton.mp h, bg1, b62, hL])),
    WS_ad2 (S := SS 2) SS_refs (fun _ h => List.mem_append_left _ h) (fun x hx => (List.mem_append.mp hx).elim (adF_at (k := 11) (by decide +kernel) f11 x) (fun h => by rw [List.mem_singleton.mp h, bg2, b62, hT])),
    WS_ad2 (S := S6l) r_S6 (fun _ h => List.mem_append_left _ h) (fun x hx => (List.mem_append.mp hx).elim (adF_at (k := 12) (by decide +kernel) f12 x) (fun h => by
      rcases List.mem_cons.mp h with h | h
      · rw [h, b01, hS1]
      · rw [List.mem_singleton.mp h, b14, hS2])),
    WS_ad2 (S := STp 0) (r_ST 0 (by omega)) (fun _ h => h) (adF_at (ky_ST 0 (by omega)) f13), WS_ad2 (S := STp 1) (r_ST 1 (by omega)) (fun _ h => h) (adF_at (ky_ST 1 (by omega)) f14), WS_ad2 (S := STp 2) (r_ST 2 (by omega)) (fun _ h => h) (adF_at (ky_ST 2 (by omega)) f15), WS_ad2 (S := STp 3) (r_ST 3 (by omega)) (fun _ h => h) (adF_at (ky_ST 3 (by omega)) f16), WS_ad2 (S := STp 4) (r_ST 4 (by omega)) (fun _ h => h) (adF_at (ky_ST 4 (by omega)) f17), WS_ad2 (S := STp 5) (r_ST 5 (by omega)) (fun _ h => h) (adF_at (ky_ST 5 (by omega)) f18)]
