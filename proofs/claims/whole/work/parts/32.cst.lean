/-! an HOUR of a State, on the class's side */ -/
def SB (g N : Nat) (w w' : PW) : Prop := w'.2 = w.2 ∧
  (∀ g' j, ¬ ((g' = g ∧ 40 ≤ j ∧ j ≤ 53) ∨ ((g' = wg g ∨ g' = tg g) ∧ 54 ≤ j ∧ j ≤ 57) ∨ (g' = 0 ∧ (j = 30 ∨ j = 31)) ∨ (g' = bg g ∧ 63 ≤ j ∧ j ≤ 65)) → gI w' (g', j) = gI w (g', j)) ∧
  ∀ j q, 63 ≤ j → j ≤ 65 → q < N → gI w' (bg g, j) q = gI w (bg g, j) q
theorem SB.refl {g N w} : SB g N w w := ⟨rfl, fun _ _ _ => rfl, fun _ _ _ _ _ => rfl⟩
theorem SB.tr {g N w w' w''} (h : SB g N w w') (h' : SB g N w' w'') : SB g N w w'' := ⟨h'.1.trans h.1, fun g' j hh => (h'.2.1 g' j hh).trans (h.2.1 g' j hh), fun j q h1 h2 h3 => (h'.2.2 j q h1 h2 h3).trans (h.2.2 j q h1 h2 h3)⟩
theorem SB.mono {g N N' w w'} (h : SB g N w w') (hn : N' ≤ N) : SB g N' w w' := ⟨h.1, h.2.1, fun j q h1 h2 h3 => h.2.2 j q h1 h2 (by omega)⟩
theorem SN.sb {g N w w'} (h : SN g w w') : SB g N w w' := ⟨h.1, fun g' j hh => h.2 g' j (by omega), fun j q h1 h2 _ => by rw [h.2 (bg g) j (by omega)]⟩
theorem WRf.sb {g N w w'} (h : WRf (bg g) N w w') : SB g N w w' := ⟨h.1, fun g' j hh => h.2.1 g' j (by omega), h.2.2⟩
theorem SB.ceq {g N w w'} (h : SB g N w w') : ceq (cf w) (cf w') := fun f hf => h.2.1 0 (2 + f) (by omega)
def KC (w : PW) (g : Nat) (P : List A3) (A : AS) : Prop := CSt w g (aS A) (nI (aH A)) (aM A) (aD A) (aT A) (aW A) (aK A ++ P.filter (lat (aH A))) (aC A)
/-- what is told, on the class's side -/
def EC (w : PW) (R cr : Nat) (se : Int32) (RL : List R3) : Prop := gI w (0, 1) 0 = nI R ∧ gI w (0, 1) 1 = se ∧ gI w (0, 1) 2 = nI cr ∧ cr ≤ 6 ∧ CK (cf w) se R ∧ RUc w RL ∧ RUo R RL
theorem EC_fr {w w' R cr se RL} (h : ∀ j, j < 30 → gI w' (0, j) = gI w (0, j)) (he : EC w R cr se RL) : EC w' R cr se RL := by
  obtain ⟨h1, h2, h3, h4, h5, h6, h7⟩ := he
  refine ⟨by rw [h 1 (by omega)]; exact h1, by rw [h 1 (by omega)]; exact h2, by rw [h 1 (by omega)]; exact h3, h4, CK.c (fun f hf => h (2 + f) (by omega)) h5, ?_, h7⟩
  unfold RUc
  rw [h 14 (by omega), h 15 (by omega), h 16 (by omega), h 17 (by omega), h 18 (by omega), h 19 (by omega), h 20 (by omega)]
  exact h6
theorem lat_is {hr : Nat} {x : A3} (h4 : hr + 1 ≤ 396) : isH (nI (hr + 1)) x = decide (x.1.toInt = (hr : Int) + 1) := by
  unfold isH
  apply decide_eq_decide.mpr
  rw [ti_eq, ti_nI (by omega)]; omega
theorem P_is {P : List A3} {hr : Nat} (h4 : hr + 1 ≤ 396) : (P.filter (lat hr)).filter (isH (nI (hr + 1))) = P.filter (isH (nI (hr + 1))) := by
  rw [List.filter_filter]
  congr 1
  funext x
  rw [lat_is h4]; unfold lat
  by_cases g : x.1.toInt = (hr : Int) + 1
  · rw [decide_eq_true g, decide_eq_true (show (hr : Int) < x.1.toInt by omega)]; rfl
  · rw [decide_eq_false g]; rfl
theorem P_no {P : List A3} {hr : Nat} (h4 : hr + 1 ≤ 396) : (P.filter (lat hr)).filter (fun x => !isH (nI (hr + 1)) x) = P.filter (lat (hr + 1)) := by
  rw [List.filter_filter]
  congr 1
  funext x
  rw [lat_is h4]; unfold lat
  by_cases g : x.1.toInt = (hr : Int) + 1
  · rw [decide_eq_true g, decide_eq_false (show ¬ ((hr + 1 : Nat) : Int) < x.1.toInt by omega)]; rfl
  · rw [decide_eq_false g]
    show decide _ = _
    apply decide_eq_decide.mpr
    omega
theorem KC_le {w g P A c R} (hk : KC w g P A) (ho : AO c R A) (hp : P.length ≤ 8) : (aK A ++ P.filter (lat (aH A))).length ≤ 32 := by
  have h1 := List.length_filter_le (lat (aH A)) P
  have h2 := ho.2.2.2.2.1
  rw [List.length_append]; omega
theorem c_st40 {w g b k P A R se cr n fi ft RL M} {rb : Bool} {ca T} (hg : g ≤ 8) (he : EC w R cr se RL) (hwt : WTc w b n fi ft) (hwo : WTo n fi ft) (hp : POK R P) (h4 : aH A + 1 ≤ 396) (ho : AO (cf w) R A)
    (hs : CSt w g (aS A) (nI (aH A)) (aM A) (aD A) (aT A) (stW2 (cf w) RL P M rb A) T ca)
    (hk : ∀ w', CSt w' g (aS (stF (cf w) se R cr RL P M rb fi ft n A)) (nI (aH A + 1)) (aM (stF (cf w) se R cr RL P M rb fi ft n A)) (aD (stF (cf w) se R cr RL P M rb fi ft n A)) (aT (stF (cf w) se R cr RL P M rb fi ft n A))
        (aW (stF (cf w) se R cr RL P M rb fi ft n A)) T ca → SN g w w' → (∀ j, j < R → gI w' (0, 30) j = lv (cf w) (aS (stF (cf w) se R cr RL P M rb fi ft n A) 0) j) →
        (ib rb = 0 → k w') ∧ (¬ ib rb = 0 → Cl 48 [vO 0 29, vO g 40] w' (kV k))) :
    Wp 29 40 [some (.inr (.inr (0, 29))), some (.inr (.inr (g, 40))), some (.inr (.inr (b, 80))), some (.inl (ib rb)), some (.inl (nI (aH A + 1))), some (.inl (ft (wix n (aH A + 1))))] [] w (kV k) := by
  obtain ⟨e1, e2, e3, e4, e5, e6, e7⟩ := he
  obtain ⟨w1, w2⟩ := W2_ok (c := cf w) (M := M) (rb := rb) e7 hp ho
  refine c_step40 hg hs w1 e1 e2 e3 e4 e5 h4 hwt hwo w2 ho.1 (by omega) (by omega) (by omega) ?_
  intro w' c hc q1 q2 q3
  rw [crS_c hc, sg_c hc, hmS_c hc] at q1
  rw [crS_c hc, sg_c hc, lv_c hc] at q3
  exact hk w' q1 q2 q3
theorem BL_le {b h h' : Nat} (hb : BL b h) (hh : h' ≤ h) : BL b h' := by
  obtain ⟨nb, n3, n4, n5, n6, n7⟩ := hb
  have : (h' + 1) * 24 ≤ (h + 1) * 24 := Nat.mul_le_mul_right _ (by omega)
  exact ⟨nb, n3, n4, n5, Nat.le_trans this n6, n7⟩
theorem C_step1 {w g b k P A R se cr n fi ft RL M} (hg : g ≤ 8) (he : EC w R cr se RL) (hwt : WTc w b n fi ft) (hwo : WTo n fi ft) (hp : POK R P) (hp8 : P.length ≤ 8) (h4 : aH A + 1 ≤ 396) (ho : AO (cf w) R A) (hkc : KC w g P A)
    (hbk : BK w (bg g) R (aH A) (aR A) (aF A) M) (hbl : BL (bg g) (aH A + 1)) (hb : BO R (aH A) (aR A) (aF A) M)
    (hk : ∀ w', KC w' g P (stF (cf w) se R cr RL P M true fi ft n A) → BK w' (bg g) R (aH A + 1) (aR (stF (cf w) se R cr RL P M true fi ft n A)) (aF (stF (cf w) se R cr RL P M true fi ft n A)) M → SB g ((aH A + 1) * 24) w w' → k w') :
    Cl 29 [vO 0 29, vO g 40, vO b 80, vI 1] w (kV k) := by
  have h24 := he.2.2.2.2.1.2.1
  have o4 := ho.2.2.2.1
  have hbl0 : BL (bg g) (aH A) := BL_le hbl (Nat.le_succ _)
  apply v_X6_step_0
  have eh : gI w (g, 40) 0 + 1 = nI (aH A + 1) := by rw [hkc.2.1, nI_s1]
  rw [eh]
  refine c_warmthAt hwt hwo.1 hwo.2.1 (by omega) (by omega) ?_
  refine st_mtf hg hkc (KC_le hkc ho hp8) o4 ?_
  intro w2 q1 q2
  rw [List.filter_append, List.filter_append, List.foldl_append, P_is h4, P_no h4] at q1
  refine ⟨fun e => absurd e (by decide), fun _ => ?_⟩
  have cq : ceq (cf w) (cf w2) := q2.ceq
  have he2 : EC w2 R cr se RL := EC_fr (fun j hj => q2.2 0 j (by omega)) he
  obtain ⟨w1l, w1o⟩ := W1_ok (P := P) hp ho
  refine st_rules (R := R) (rl := aR A) (rf := aF A) (M := M) (RL := RL) (ey := cf w 10) hg q1 w1l (BK_fr (fun j _ _ => q2.2 _ _ (by omega)) hbk) hbl0 hb h24 (by omega) (cq 10 (by omega)) he2.2.2.2.2.2.1 he2.2.2.2.2.2.2 ?_
  intro w3 q3 q4
  have q34 : SN g w w3 := q2.tr q4
  have cq3 : ceq (cf w) (cf w3) := q34.ceq
  have he3 : EC w3 R cr se RL := EC_fr (fun j hj => q34.2 0 j (by omega)) he
  have eW2 : ∀ c, ceq (cf w) c → stW2 c RL P M true A = stW2 (cf w) RL P M true A := fun c hc => by unfold stW2 stB; rw [hc 10 (by omega)]
  have eF : stF (cf w3) se R cr RL P M true fi ft n A = stF (cf w) se R cr RL P M true fi ft n A := by
    unfold stF stS stC stB
    rw [eW2 _ cq3, crS_c cq3, sg_c cq3, acs_c cq3, hmS_c cq3, rl1_c cq3, rf1_c cq3, cq3 10 (by omega)]
  refine c_st40 (rb := true) (M := M) hg he3 (WTc_sn q34 hwt) hwo hp h4 ⟨Ok.c cq3 ho.1, ho.2⟩ (by rw [eW2 _ cq3]; exact q3) ?_
  intro w4 q5 q6 q7
  rw [eF] at q5 q7
  refine ⟨fun e => absurd e (by decide), fun _ => ?_⟩
  have q46 : SN g w w4 := q34.tr q6
  have cq4 : ceq (cf w) (cf w4) := q46.ceq
  have hck4 : CK (cf w4) se R := CK.c cq4 he.2.2.2.2.1
  refine c_readGauges (R := R) (σ := aS (stF (cf w) se R cr RL P M true fi ft n A)) (by rw [q46.2 0 1 (by omega)]; exact he.1) h24 hck4 hbl h4 q5.2.1 (fun j hj => by rw [q7 j hj, lv_c cq3, lv_c cq4]) (q5.1 1 (by omega))
    (BK_fr (fun j _ _ => q46.2 _ _ (by omega)) hbk) hb ?_
  intro w5 q8 q9
  have q58 : SB g ((aH A + 1) * 24) w4 w5 := q8.sb
  refine hk w5 ?_ ?_ ((q46.sb).tr q58)
  · exact CSt_fr (fun j _ _ => q8.2.1 _ _ (by omega)) (fun j _ _ => q8.2.1 _ _ (by omega)) (fun j _ _ => q8.2.1 _ _ (by omega)) q5
  · have := bk_next h24 hb (BK_fr (fun j _ _ => q46.2 _ _ (by omega)) hbk) q8 q9
    rw [rl1_c cq4, rf1_c cq4] at this
    exact this
theorem C_step0 {w g b k P A R se cr n fi ft RL M} (hg : g ≤ 8) (he : EC w R cr se RL) (hwt : WTc w b n fi ft) (hwo : WTo n fi ft) (hp : POK R P) (hp8 : P.length ≤ 8) (h4 : aH A + 1 ≤ 396) (ho : AO (cf w) R A) (hkc : KC w g P A)
    (hk : ∀ w', KC w' g P (stF (cf w) se R cr RL P M false fi ft n A) → SN g w w' → k w') :
    Cl 29 [vO 0 29, vO g 40, vO b 80, vI 0] w (kV k) := by
  have o4 := ho.2.2.2.1
  apply v_X6_step_0
  have eh : gI w (g, 40) 0 + 1 = nI (aH A + 1) := by rw [hkc.2.1, nI_s1]
  rw [eh]
  refine c_warmthAt hwt hwo.1 hwo.2.1 (by omega) (by omega) ?_
  refine st_mtf hg hkc (KC_le hkc ho hp8) o4 ?_
  intro w2 q1 q2
  rw [List.filter_append, List.filter_append, List.foldl_append, P_is h4, P_no h4] at q1
  refine ⟨fun _ => ?_, fun e => absurd rfl e⟩
  have cq : ceq (cf w) (cf w2) := q2.ceq
  have he2 : EC w2 R cr se RL := EC_fr (fun j hj => q2.2 0 j (by omega)) he
  have eF : stF (cf w2) se R cr RL P M false fi ft n A = stF (cf w) se R cr RL P M false fi ft n A := by
    unfold stF stS stC stW2 stB
    rw [crS_c cq, sg_c cq, acs_c cq, hmS_c cq, rl1_c cq, rf1_c cq, cq 10 (by omega)]
  refine c_st40 (rb := false) (M := M) hg he2 (WTc_sn q2 hwt) hwo hp h4 ⟨Ok.c cq ho.1, ho.2⟩ q1 ?_
  intro w4 q5 q6 q7
  rw [eF] at q5
  exact ⟨fun _ => hk w4 q5 (q2.tr q6), fun e => absurd rfl e⟩
