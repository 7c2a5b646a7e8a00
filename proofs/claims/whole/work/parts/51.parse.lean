/-! A RULE'S WORDS, READ FROM A TAPE */ -/
abbrev oc (T : Nat → Int64) (p : Nat) : Nat := (T p).toInt.toNat
abbrev snd (T : Nat → Int64) (R K p : Nat) : Prop := (K ≤ 3 → 0 ≤ (T (p + 1)).toInt ∧ (T (p + 1)).toInt < (R : Int)) ∧ (K = 1 ∨ K = 2 ∨ K = 4 → 0 ≤ (T (p + oln K - 1)).toInt)
abbrev dpo (K d : Nat) : Prop := (K = 8 → 0 < d) ∧ (K = 6 ∨ K = 7 → 1 < d) ∧ (K ≤ 5 → d < 8)
def dpn (K d : Nat) : Nat := if K = 8 then d else if K ≤ 5 then d + 1 else d - 1
def oxx (T : Nat → Int64) (p : Nat) : O3 := (oc T p, (if oc T p ≤ 3 then (T (p + 1)).toInt.toNat else 0), (if oc T p = 1 ∨ oc T p = 2 ∨ oc T p = 4 ∨ oc T p = 5 then (T (p + oln (oc T p) - 1)).toInt32 else 0))
def cns (x : O3) : Nat ⊕ List O3 → Nat ⊕ List O3
  | .inl q => .inl q
  | .inr l => .inr (x :: l)
def prs (T : Nat → Int64) (N R : Nat) : Nat → Nat → Nat → Nat ⊕ List O3
  | 0, p, _ => .inl p
  | f + 1, p, d =>
    if N ≤ p then .inl N else if (T p).toInt = 0 then (if d = 1 then .inr [] else .inl p) else
    if (1 ≤ (T p).toInt ∧ (T p).toInt ≤ 8) ∧ p + oln (oc T p) - 1 < N ∧ snd T R (oc T p) p ∧ dpo (oc T p) d then cns (oxx T p) (prs T N R f (p + oln (oc T p)) (dpn (oc T p) d)) else .inl p
def fv : Nat ⊕ List O3 → Int32
  | .inl q => nI q
  | .inr _ => -1
def mv (c : Nat) : Nat ⊕ List O3 → Int32
  | .inl q => -1 - nI q
  | .inr l => nI (c + l.length)
theorem fv_cns {x r} : fv (cns x r) = fv r := by cases r <;> rfl
theorem mv_cns {x r c} : mv c (cns x r) = mv (c + 1) r := by
  cases r
  · rfl
  · show nI _ = nI _; congr 1; show c + (_ + 1) = _; omega
section
variable {T : Nat → Int64} {N R : Nat}
theorem prs_end {f p d} (h : N ≤ p) : prs T N R (f + 1) p d = .inl N := if_pos h
theorem prs_0 {f p d} (h : ¬ N ≤ p) (h0 : (T p).toInt = 0) : prs T N R (f + 1) p d = if d = 1 then .inr [] else .inl p := (if_neg h).trans (if_pos h0)
theorem prs_y {f p d} (h : ¬ N ≤ p) (h0 : ¬ (T p).toInt = 0) (h1 : (1 ≤ (T p).toInt ∧ (T p).toInt ≤ 8) ∧ p + oln (oc T p) - 1 < N ∧ snd T R (oc T p) p ∧ dpo (oc T p) d) : prs T N R (f + 1) p d = cns (oxx T p) (prs T N R f (p + oln (oc T p)) (dpn (oc T p) d)) := (if_neg h).trans ((if_neg h0).trans (if_pos h1))
theorem prs_n {f p d} (h : ¬ N ≤ p) (h0 : ¬ (T p).toInt = 0) (h1 : ¬ ((1 ≤ (T p).toInt ∧ (T p).toInt ≤ 8) ∧ p + oln (oc T p) - 1 < N ∧ snd T R (oc T p) p ∧ dpo (oc T p) d)) : prs T N R (f + 1) p d = .inl p := (if_neg h).trans ((if_neg h0).trans (if_neg h1))
end
theorem oln_b (K : Nat) : 1 ≤ oln K ∧ oln K ≤ 3 := by unfold oln; split; omega; split <;> omega
theorem lenO_e {K : Nat} (h1 : 1 ≤ K) (h8 : K ≤ 8) : lenO (nI K) = nI (oln K) := by
  rcases (show K = 1 ∨ K = 2 ∨ K = 3 ∨ K = 4 ∨ K = 5 ∨ K = 6 ∨ K = 7 ∨ K = 8 by omega) with rfl | rfl | rfl | rfl | rfl | rfl | rfl | rfl <;> decide
theorem cell_e {K : Nat} (h1 : 1 ≤ K) (h8 : K ≤ 8) : ((1 : Int32) ≤ nI K ∧ nI K ≤ 3) ↔ K ≤ 3 := by
  rw [show (1 : Int32) = nI 1 from rfl, show (3 : Int32) = nI 3 from rfl, le_nI (by omega) (by omega), le_nI (by omega) (by omega)]; omega
theorem num_e {K : Nat} (h8 : K ≤ 8) : (nI K = (1 : Int32) ∨ nI K = 2 ∨ nI K = 4 ∨ nI K = 5) ↔ (K = 1 ∨ K = 2 ∨ K = 4 ∨ K = 5) := by
  rw [show (1 : Int32) = nI 1 from rfl, show (2 : Int32) = nI 2 from rfl, show (4 : Int32) = nI 4 from rfl, show (5 : Int32) = nI 5 from rfl, nI_inj (by omega) (by omega), nI_inj (by omega) (by omega), nI_inj (by omega) (by omega), nI_inj (by omega) (by omega)]
theorem c_sound {w k T} {g N R p K : Nat} (h1 : 1 ≤ K) (h8 : K ≤ 8) (hN : N ≤ 100) (hp : p < N) (hR : R ≤ 24) (hs : gI w (g, 70) 1 = nI N) (ht : ∀ q, q < N → gL w (g, 71) q = T q)
    (k1 : p + oln K - 1 < N → snd T R K p → k 1 w) (k0 : ¬ (p + oln K - 1 < N ∧ snd T R K p) → k 0 w) : Cl 21 [vO g 70, vI (nI p), vI (nI K), vI (nI R)] w (kI k) := by
  have ob := oln_b K
  apply v_X4_areNumbersSound_0
  have e1 : nI (p + oln K) - 1 = nI (p + oln K - 1) := by rw [show (1 : Int32) = nI 1 from rfl, nI_sb (by omega)]
  rw [lenO_e h1 h8, nI_ad, e1, hs, lt_nI (by omega) (by omega), le_nI (by omega) (by omega)]
  refine ⟨fun e => ?_, fun e => ⟨b01_0, k0 (fun x => absurd x.1 (by omega))⟩⟩
  have iv : vp_in (nI (p + oln K - 1)) 100 := in_nI (by omega) (by omega)
  rw [cl_nI (by omega), ht _ e, lg_l, lg_ge, tl0]
  have fn : (K ≤ 3 → 0 ≤ (T (p + 1)).toInt ∧ (T (p + 1)).toInt < (R : Int)) → (bb (nI K = (1 : Int32) ∨ nI K = 2 ∨ nI K = 4 ∨ nI K = 5) = 0 → b01 1 ∧ kI k (.inl 1) w) ∧ (¬ bb (nI K = (1 : Int32) ∨ nI K = 2 ∨ nI K = 4 ∨ nI K = 5) = 0 → (nI K = 5 → b01 1 ∧ kI k (.inl 1) w) ∧ (¬ nI K = 5 → vp_in (nI (p + oln K - 1)) 100 ∧ ((T (p + oln K - 1)).toInt < 0 → b01 0 ∧ kI k (.inl 0) w) ∧ (0 ≤ (T (p + oln K - 1)).toInt → b01 1 ∧ kI k (.inl 1) w))) := by
    intro hc
    have n5 : nI K = 5 ↔ K = 5 := by rw [show (5 : Int32) = nI 5 from rfl, nI_inj (by omega) (by omega)]
    refine bbi (fun g1 => ⟨fun g2 => ⟨b01_1, k1 e ⟨hc, fun x => absurd (n5.mp g2) (by omega)⟩⟩, fun g2 => ⟨iv, fun g3 => ⟨b01_0, k0 (fun x => ?_)⟩, fun g3 => ⟨b01_1, k1 e ⟨hc, fun _ => g3⟩⟩⟩⟩) (fun g1 => ⟨b01_1, k1 e ⟨hc, fun x => absurd ((num_e h8).mpr (by omega)) g1⟩⟩)
    have a1 := (num_e h8).mp g1
    have a2 : ¬ K = 5 := fun y => g2 (n5.mpr y)
    have := x.2.2 (by omega)
    omega
  refine bbi (fun g1 => ?_) (fun g1 => fn (fun x => absurd ((cell_e h1 h8).mpr x) g1))
  have K3 := (cell_e h1 h8).mp g1
  have o2 : 2 ≤ oln K := by unfold oln; split; omega; split <;> omega
  have iv1 : vp_in (nI (p + 1)) 100 := in_nI (by omega) (by omega)
  rw [nI_s1, cl_nI (by omega), ht _ (by omega), lg_l, lg_ge, lg_l, lg_ge, tl0, ti_nI (by omega)]
  exact ⟨iv1, fun g2 => ⟨b01_0, k0 (fun x => by have := (x.2.1 K3).1; omega)⟩, fun g2 => ⟨iv1, fun g3 => fn (fun _ => ⟨g2, g3⟩), fun g3 => ⟨b01_0, k0 (fun x => by have := (x.2.1 K3).2; omega)⟩⟩⟩
def Tb (T : Nat → Int64) (N : Nat) : Prop := ∀ q, q < N → -128 ≤ (T q).toInt ∧ (T q).toInt ≤ 127
theorem kd {T : Nat → Int64} {p : Nat} (h : 1 ≤ (T p).toInt ∧ (T p).toInt ≤ 8) : (T p).toInt32 = nI (oc T p) := by
  rw [ti_eq, t32 (by omega), ti_nI (by unfold oc; omega)]; unfold oc; omega
theorem c_fault {w k T} {g N R : Nat} (hN : N ≤ 100) (hR : R ≤ 24) (hs : gI w (g, 70) 1 = nI N) (ht : ∀ q, q < N → gL w (g, 71) q = T q) (hb : Tb T N) : ∀ f p d : Nat, p ≤ N → N < p + f → d ≤ 8 → k (fv (prs T N R f p d)) w →
    Wp 20 4 [some (.inr (.inr (g, 70))), some (.inl (nI R)), some (.inl (nI d)), some (.inl (nI p)), none, none] [] w (kI k) := by
  intro f
  induction f with
  | zero => intro p d h1 h2; omega
  | succ f ih =>
    intro p d h1 h2 hd hk
    apply v_X4_firstFault_4
    rw [hs, le_nI (by omega) (by omega), lt_nI (by omega) (by omega)]
    refine ⟨fun e => ?_, fun e => ?_⟩
    · rw [prs_end e] at hk; exact hk
    have he : ¬ N ≤ p := by omega
    have hbp := hb p e
    have ivp : vp_in (nI p) 100 := in_nI (by omega) (by omega)
    have l1 : (1 : Int32).toInt = 1 := rfl
    have l6 : (6 : Int32).toInt = 6 := rfl
    have l8 : (8 : Int32).toInt = 8 := rfl
    rw [cl_nI (by omega), ht p e]
    have z0 : (T p).toInt32 = 0 ↔ (T p).toInt = 0 := by rw [ti_eq, t32 (by omega), tl0]
    refine ⟨ivp, fun g0 => ?_, fun g0 => ?_⟩
    · have g0' : ¬ (T p).toInt = 0 := fun x => g0 (z0.mpr x)
      rw [ti_lt, ti_le, ti_lt, ti_le, t32 (by omega), l1, l8]
      have bad : ¬ ((1 ≤ (T p).toInt ∧ (T p).toInt ≤ 8) ∧ p + oln (oc T p) - 1 < N ∧ snd T R (oc T p) p ∧ dpo (oc T p) d) → kI k (.inl (nI p)) w := fun x => by
        rw [prs_n he g0' x] at hk; exact hk
      refine ⟨fun x => bad (by omega), fun g1 => ⟨fun x => bad (by omega), fun g8 => ?_⟩⟩
      have hr : 1 ≤ (T p).toInt ∧ (T p).toInt ≤ 8 := ⟨g1, g8⟩
      have K1 : 1 ≤ oc T p := by unfold oc; omega
      have K8 : oc T p ≤ 8 := by unfold oc; omega
      rw [kd hr]
      refine c_sound K1 K8 hN e hR hs ht (fun s1 s2 => ⟨fun _ => ?_, fun x => absurd x (by decide)⟩) (fun s => ⟨fun x => absurd rfl x, fun _ => bad (fun x => s ⟨x.2.1, x.2.2.1⟩)⟩)
      have n8 : nI (oc T p) = 8 ↔ oc T p = 8 := by rw [show (8 : Int32) = nI 8 from rfl, nI_inj (by omega) (by omega)]
      have go : dpo (oc T p) d → Wp 20 4 [some (.inr (.inr (g, 70))), some (.inl (nI R)), some (.inl (nI (dpn (oc T p) d))), some (.inl (nI p + nI (oln (oc T p)))), none, none] [] w (kI k) := fun hd' => by
        rw [nI_ad]
        have ob := oln_b (oc T p)
        refine ih _ _ (by omega) (by omega) ?_ ?_
        · obtain ⟨u1, u2, u3⟩ := hd'
          unfold dpn; split; omega; split <;> omega
        · rw [prs_y he g0' ⟨hr, s1, s2, hd'⟩, fv_cns] at hk; exact hk
      rw [ht p e, kd hr, lenO_e K1 K8]
      have c6 : nI (oc T p) < 6 ↔ oc T p < 6 := by rw [show (6 : Int32) = nI 6 from rfl, lt_nI (by omega) (by omega)]
      have c6' : 6 ≤ nI (oc T p) ↔ 6 ≤ oc T p := by rw [show (6 : Int32) = nI 6 from rfl, le_nI (by omega) (by omega)]
      have d2 : nI d < 2 ↔ d < 2 := by rw [show (2 : Int32) = nI 2 from rfl, lt_nI (by omega) (by omega)]
      have d2' : 2 ≤ nI d ↔ 2 ≤ d := by rw [show (2 : Int32) = nI 2 from rfl, le_nI (by omega) (by omega)]
      have d1 : nI d < 1 ↔ d < 1 := by rw [show (1 : Int32) = nI 1 from rfl, lt_nI (by omega) (by omega)]
      have d1' : 1 ≤ nI d ↔ 1 ≤ d := by rw [show (1 : Int32) = nI 1 from rfl, le_nI (by omega) (by omega)]
      have x0 : nI d - 0 + 1 = nI (d + 1) := by rw [show (0 : Int32) = nI 0 from rfl, nI_sb (by omega), nI_s1]; rfl
      have x1 : 1 ≤ d → nI d - 1 + 1 = nI d := fun h => by rw [show (1 : Int32) = nI 1 from rfl, nI_sb h, nI_ad]; congr 1; omega
      have x2 : 2 ≤ d → nI d - 2 + 1 = nI (d - 1) := fun h => by rw [show (2 : Int32) = nI 2 from rfl, nI_sb h, nI_s1]; congr 1; omega
      have t8 : ∀ n : Nat, n < 1000 → ((nI n ≤ 8) ↔ n ≤ 8) := fun n h => by rw [show (8 : Int32) = nI 8 from rfl, le_nI (by omega) (by omega)]
      have t8' : ∀ n : Nat, n < 1000 → ((8 < nI n) ↔ 8 < n) := fun n h => by rw [show (8 : Int32) = nI 8 from rfl, lt_nI (by omega) (by omega)]
      refine ⟨fun g => ⟨fun g6 => ⟨fun x => absurd (nI_ge0 (a := d) (by omega)) (Int32.not_le.mpr x), fun _ => ?_⟩, fun g6 => ⟨fun x => bad (fun y => ?_), fun y2 => ?_⟩⟩, fun g => ⟨fun x => bad (fun y => ?_), fun y1 => ?_⟩⟩
      · have g6' := c6.mp g6
        rw [x0, t8 _ (by omega), t8' _ (by omega)]
        refine ⟨fun x => ⟨ivp, ?_⟩, fun x => bad (fun y => by have := y.2.2.2.2.2 (by omega); omega)⟩
        have := go ⟨fun z => by omega, fun z => by omega, fun z => by omega⟩
        rw [show dpn (oc T p) d = d + 1 by unfold dpn; rw [if_neg (by omega), if_pos (by omega)]] at this
        exact this
      · have a1 := d2.mp x; have a2 := c6'.mp g6; have a3 : ¬ oc T p = 8 := fun z => g (n8.mpr z)
        have := y.2.2.2.2.1 (by omega)
        omega
      · have a1 := d2'.mp y2; have a2 := c6'.mp g6; have a3 : ¬ oc T p = 8 := fun z => g (n8.mpr z)
        rw [x2 a1, t8 _ (by omega), t8' _ (by omega)]
        refine ⟨fun x => ⟨ivp, ?_⟩, fun x => absurd x (by omega)⟩
        have := go ⟨fun z => by omega, fun z => by omega, fun z => by omega⟩
        rw [show dpn (oc T p) d = d - 1 by unfold dpn; rw [if_neg (by omega), if_neg (by omega)]] at this
        exact this
      · have a1 := d1.mp x
        have := y.2.2.2.1 (n8.mp g)
        omega
      · have a1 := d1'.mp y1; have a3 := n8.mp g
        rw [x1 a1, t8 _ (by omega), t8' _ (by omega)]
        refine ⟨fun x => ⟨ivp, ?_⟩, fun x => absurd x (by omega)⟩
        have := go ⟨fun z => by omega, fun z => by omega, fun z => by omega⟩
        rw [show dpn (oc T p) d = d by unfold dpn; rw [if_pos a3]] at this
        exact this
    · have g0' := z0.mp g0
      rw [prs_0 he g0'] at hk
      have d1 : nI d = 1 ↔ d = 1 := by rw [show (1 : Int32) = nI 1 from rfl, nI_inj (by omega) (by omega)]
      refine ⟨fun x => ?_, fun x => ?_⟩
      · rw [if_neg (fun y => x (d1.mpr y))] at hk; exact hk
      · rw [if_pos (d1.mp x)] at hk; exact hk
