/-! A RULE'S WORDS, READ BY THE MODEL -/
abbrev t9 : Option PV := some (.inr (.inr (0, 90)))
abbrev i9 (x : Int32) : Option PV := some (.inl x)
abbrev j9 (x : Int32) : PV := .inl x
section
variable {w : PW} {k : Int32 → PW → Prop} {a c d p K : Nat}
theorem mo_282n {l1 l2 l3 l6 : Int32} (h : k (-1 - nI p) w) : Wp 134 282 [t9, i9 l1, i9 l2, i9 l3, i9 (nI p), none, i9 l6, i9 0] [] w (kI k) := by
  apply v_X10_orders_282
  exact ⟨fun x => absurd rfl x, fun _ => h⟩
theorem mo_282y {l1 l2 l3 l6 : Int32} (h : Wp 134 7 [t9, i9 l1, i9 (l2 + 1), i9 l3, i9 (nI p + (l6 + 1)), none, none, none] [] w (kI k)) : Wp 134 282 [t9, i9 l1, i9 l2, i9 l3, i9 (nI p), none, i9 l6, i9 1] [] w (kI k) := by
  apply v_X10_orders_282
  exact ⟨fun _ => h, fun x => absurd x (by decide)⟩
theorem mo_196 {s0 l6 : Int32} (hK : 1 ≤ K) (h8 : K ≤ 8) (hd : d ≤ 8) (hs : s0 = 0 ∨ s0 = 1)
    (hn : ¬ (s0 = 1 ∧ dpo K d) → k (-1 - nI p) w)
    (hy : s0 = 1 → dpo K d → Wp 134 7 [t9, i9 (nI a), i9 (nI c + 1), i9 (nI (dpn K d)), i9 (nI p + (l6 + 1)), none, none, none] [] w (kI k)) :
    Wp 134 196 [t9, i9 (nI a), i9 (nI c), i9 (nI d), i9 (nI p), i9 (nI K), i9 l6, none] [j9 s0] w (kI k) := by
  have kq : ∀ q : Nat, q ≤ 8 → (nI K = nI q ↔ K = q) := fun q hq => nI_inj (by omega) (by omega)
  have k6 : nI K = 6 ↔ K = 6 := kq 6 (by omega)
  have k7 : nI K = 7 ↔ K = 7 := kq 7 (by omega)
  have k8 : nI K = 8 ↔ K = 8 := kq 8 (by omega)
  have dl : ∀ q : Nat, q ≤ 8 → (nI d ≤ nI q ↔ d ≤ q) := fun q hq => le_nI (by omega) (by omega)
  have dg : ∀ q : Nat, q ≤ 8 → (nI q < nI d ↔ q < d) := fun q hq => lt_nI (by omega) (by omega)
  have s01 : ¬ s0 = 0 → s0 = 1 := fun x => hs.elim (fun y => absurd y x) id
  have s10 : s0 = 0 → ¬ s0 = 1 := fun x y => by rw [x] at y; exact absurd y (by decide)
  have p212 : K = 6 ∨ K = 7 → Wp 134 212 [t9, i9 (nI a), i9 (nI c), i9 (nI d), i9 (nI p), none, i9 l6, i9 s0] [] w (kI k) := by
    intro h67
    have bad : ¬ (s0 = 1 ∧ dpo K d) → Wp 134 226 [t9, i9 (nI a), i9 (nI c), i9 (nI d), i9 (nI p), none, i9 l6, none] [] w (kI k) := fun x => by
      apply v_X10_orders_226
      apply v_X10_orders_227
      exact mo_282n (hn x)
    apply v_X10_orders_212
    refine ⟨fun x => bad (fun y => s10 x y.1), fun x => ⟨fun y => bad (fun z => ?_), fun y => ?_⟩⟩
    · have u := (dl 1 (by omega)).mp y
      have := z.2.2.1 h67
      omega
    · have u := (dg 1 (by omega)).mp y
      apply v_X10_orders_227
      apply mo_282y
      have := hy (s01 x) ⟨fun _ => by omega, fun _ => by omega, fun _ => by omega⟩
      rw [show dpn K d = d - 1 by unfold dpn; rw [if_neg (by omega), if_neg (by omega)]] at this
      rw [show nI d + (-1) = nI (d - 1) by rw [← nI_sb (by omega)]; show _ = nI d - 1; grind]
      exact this
  apply v_X10_orders_196
  refine ⟨fun x => p212 (Or.inl (k6.mp x)), fun x6 => ⟨fun x7 => ⟨fun x8 => ?_, fun x8 => ?_⟩, fun x => p212 (Or.inr (k7.mp x))⟩⟩
  · have K5 : K ≤ 5 := by
      have a1 : ¬ K = 6 := fun z => x6 (k6.mpr z)
      have a2 : ¬ K = 7 := fun z => x7 (k7.mpr z)
      have a3 : ¬ K = 8 := fun z => x8 (k8.mpr z)
      omega
    have bad : ¬ (s0 = 1 ∧ dpo K d) → Wp 134 276 [t9, i9 (nI a), i9 (nI c), i9 (nI d), i9 (nI p), none, i9 l6, none] [] w (kI k) := fun x => by
      apply v_X10_orders_276
      apply v_X10_orders_277
      exact mo_282n (hn x)
    refine ⟨fun x => bad (fun y => s10 x y.1), fun x => ⟨fun y => bad (fun z => ?_), fun y => ?_⟩⟩
    · have u := (le_nI (a := 8) (b := d) (by omega) (by omega)).mp y
      have := z.2.2.2 K5
      omega
    · have u := (lt_nI (a := d) (b := 8) (by omega) (by omega)).mp y
      apply v_X10_orders_277
      apply mo_282y
      have := hy (s01 x) ⟨fun _ => by omega, fun _ => by omega, fun _ => by omega⟩
      rw [show dpn K d = d + 1 by unfold dpn; rw [if_neg (by omega), if_pos (by omega)]] at this
      rw [nI_s1 (i := d)]
      exact this
  · have e8 := k8.mp x8
    have bad : ¬ (s0 = 1 ∧ dpo K d) → Wp 134 255 [t9, i9 (nI a), i9 (nI c), i9 (nI d), i9 (nI p), none, i9 l6, none] [] w (kI k) := fun x => by
      apply v_X10_orders_255
      apply v_X10_orders_256
      exact mo_282n (hn x)
    refine ⟨fun x => bad (fun y => s10 x y.1), fun x => ⟨fun y => bad (fun z => ?_), fun y => ?_⟩⟩
    · have u := (dl 0 (by omega)).mp y
      have := z.2.1 e8
      omega
    · have u := (dg 0 (by omega)).mp y
      apply v_X10_orders_256
      apply mo_282y
      have := hy (s01 x) ⟨fun _ => by omega, fun _ => by omega, fun _ => by omega⟩
      rw [show dpn K d = d by unfold dpn; rw [if_pos e8]] at this
      exact this
theorem kq_ {K q : Nat} (h : K ≤ 8) (hq : q ≤ 8) : nI K = nI q ↔ K = q := nI_inj (by omega) (by omega)
theorem o12_ {K : Nat} (h : K = 1 ∨ K = 2) : oln K = 3 := by unfold oln; rw [if_pos (by omega)]
theorem o4_ {K : Nat} (h : K = 4) : oln K = 2 := by unfold oln; rw [if_neg (by omega), if_pos (by omega)]
theorem o3_ {K : Nat} (h : K ≤ 3) : 2 ≤ oln K := by unfold oln; split; omega; split <;> omega
theorem dv_p {K d : Nat} (h : d ≤ 8) (h2 : dpo K d) : dpn K d ≤ 8 := by obtain ⟨u1, u2, u3⟩ := h2; unfold dpn; split; omega; split <;> omega
theorem mo_sound {w : PW} {k : Int32 → PW → Prop} {T : Nat → Int64} {a c d p K N R : Nat} (hK : K = oc T p) (h1 : 1 ≤ K) (h8 : K ≤ 8) (hd : d ≤ 8) (ha : a < 6) (hN : N ≤ 100) (hp : p + oln K - 1 < N) (hR : 2 ≤ R ∧ R ≤ 24) (hr : gI w (0, 90) 30 = nI R) (ht : ∀ q, q < N → gL w (0, 120) (100 * a + q) = T q) (hb : Tb T N)
    (hn : Unit → ¬ (snd T R K p ∧ dpo K d) → k (-1 - nI p) w)
    (hy : Unit → snd T R K p → dpo K d → Wp 134 7 [t9, i9 (nI a), i9 (nI c + 1), i9 (nI (dpn K d)), i9 (nI p + (nI (oln K - 1) + 1)), none, none, none] [] w (kI k)) :
    (3 < K → Wp 134 137 [t9, i9 (nI a), i9 (nI c), i9 (nI d), i9 (nI p), i9 (nI K), i9 (nI (oln K - 1)), none] [] w (kI k)) ∧
    (K ≤ 3 → vp_in (nI (100 * a + (p + 1))) 600 ∧ (¬ ((T (p + 1)).toInt < 0 ∨ (R : Int) ≤ (T (p + 1)).toInt) → Wp 134 137 [t9, i9 (nI a), i9 (nI c), i9 (nI d), i9 (nI p), i9 (nI K), i9 (nI (oln K - 1)), none] [] w (kI k)) ∧
      ((T (p + 1)).toInt < 0 ∨ (R : Int) ≤ (T (p + 1)).toInt → Wp 134 142 [t9, i9 (nI a), i9 (nI c), i9 (nI d), i9 (nI p), i9 (nI K), i9 (nI (oln K - 1)), none] [j9 0] w (kI k))) := by
  have ob := oln_b K
  have e2 : nI p + 2 = nI (p + 2) := by rw [show (2 : Int32) = nI 2 from rfl, nI_ad]
  have f195 : Unit → ¬ snd T R K p → Wp 134 195 [t9, i9 (nI a), i9 (nI c), i9 (nI d), i9 (nI p), i9 (nI K), i9 (nI (oln K - 1)), none] [] w (kI k) := fun _ hs => by
    apply v_X10_orders_195
    exact mo_196 h1 h8 hd (Or.inl rfl) (fun _ => hn () (fun x => hs x.1)) (fun x => absurd x (by decide))
  have f191 : Unit → snd T R K p → Wp 134 191 [t9, i9 (nI a), i9 (nI c), i9 (nI d), i9 (nI p), i9 (nI K), i9 (nI (oln K - 1)), none] [] w (kI k) := fun _ hs => by
    apply v_X10_orders_191
    exact mo_196 h1 h8 hd (Or.inr rfl) (fun x => hn () (fun y => x ⟨rfl, y.2⟩)) (fun _ => hy () hs)
  have f173 : (Unit → K ≤ 3 → 0 ≤ (T (p + 1)).toInt ∧ (T (p + 1)).toInt < (R : Int)) → (Unit → K = 1 ∨ K = 2 → 0 ≤ (T (p + oln K - 1)).toInt) → Wp 134 173 [t9, i9 (nI a), i9 (nI c), i9 (nI d), i9 (nI p), i9 (nI K), i9 (nI (oln K - 1)), none] [] w (kI k) := fun c1 c2 => by
    apply v_X10_orders_173
    refine ⟨fun x => f191 () ⟨c1 (), fun y => ?_⟩, fun x => ?_⟩
    · have : ¬ K = 4 := fun z => x ((kq_ (q := 4) h8 (by omega)).mpr z)
      exact c2 () (by omega)
    · have h4 := (kq_ (q := 4) h8 (by omega)).mp x
      have o := o4_ h4
      have e : p + 1 < N := by omega
      have hbp := hb _ e
      rw [nI_s1, ix_100, cl_nI (by omega), ht _ e, ti_lt, ti_le, t32 (by omega), tl0]
      refine ⟨in_nI (by omega) (by omega), fun y => f195 () (fun z => ?_), fun y => f191 () ⟨c1 (), fun _ => ?_⟩⟩
      · have := z.2 (by omega)
        rw [o, show p + 2 - 1 = p + 1 by omega] at this
        omega
      · rw [o, show p + 2 - 1 = p + 1 by omega]; exact y
  have f161 : (Unit → K ≤ 3 → 0 ≤ (T (p + 1)).toInt ∧ (T (p + 1)).toInt < (R : Int)) → (K = 1 ∨ K = 2) → Wp 134 161 [t9, i9 (nI a), i9 (nI c), i9 (nI d), i9 (nI p), i9 (nI K), i9 (nI (oln K - 1)), none] [] w (kI k) := fun c1 c2 => by
    have o := o12_ c2
    have e : p + 2 < N := by omega
    have hbp := hb _ e
    apply v_X10_orders_161
    rw [e2, ix_100, cl_nI (by omega), ht _ e, ti_lt, ti_le, t32 (by omega), tl0]
    refine ⟨in_nI (by omega) (by omega), fun y => f195 () (fun z => ?_), fun y => f173 c1 (fun _ _ => ?_)⟩
    · have := z.2 (by omega)
      rw [o, show p + 3 - 1 = p + 2 by omega] at this
      omega
    · rw [o, show p + 3 - 1 = p + 2 by omega]; exact y
  have f142 : (Unit → K ≤ 3 → 0 ≤ (T (p + 1)).toInt ∧ (T (p + 1)).toInt < (R : Int)) → Wp 134 142 [t9, i9 (nI a), i9 (nI c), i9 (nI d), i9 (nI p), i9 (nI K), i9 (nI (oln K - 1)), none] [j9 1] w (kI k) := fun c1 => by
    apply v_X10_orders_142
    exact ⟨fun x => absurd x (by decide), fun _ => ⟨fun x => f161 c1 (Or.inl ((kq_ (q := 1) h8 (by omega)).mp x)), fun x => ⟨fun y => f173 c1 (fun _ z => z.elim (fun z => absurd ((kq_ (q := 1) h8 (by omega)).mpr z) x) (fun z => absurd ((kq_ (q := 2) h8 (by omega)).mpr z) y)), fun y => f161 c1 (Or.inr ((kq_ (q := 2) h8 (by omega)).mp y))⟩⟩⟩
  refine ⟨fun x => ?_, fun x => ⟨in_nI (by have := o3_ x; omega) (by omega), fun y => ?_, fun y => ?_⟩⟩
  · apply v_X10_orders_137
    exact f142 (fun _ z => by omega)
  · apply v_X10_orders_137
    exact f142 (fun _ z => by omega)
  · apply v_X10_orders_142
    exact ⟨fun _ => f195 () (fun z => by have := z.1 x; omega), fun z => absurd rfl z⟩
set_option maxHeartbeats 200000 in
theorem m_orders {w : PW} {k : Int32 → PW → Prop} {T : Nat → Int64} {a N R : Nat} (ha : a < 6) (hN : N ≤ 100) (hR : 2 ≤ R ∧ R ≤ 24) (hr : gI w (0, 90) 30 = nI R) (hs : gI w (0, 119) a = nI N) (ht : ∀ q, q < N → gL w (0, 120) (100 * a + q) = T q) (hb : Tb T N) : ∀ f p d c : Nat, p ≤ N → N < p + f → d ≤ 8 → c ≤ p → k (mv c (prs T N R f p d)) w →
    Wp 134 7 [t9, i9 (nI a), i9 (nI c), i9 (nI d), i9 (nI p), none, none, none] [] w (kI k) := by
  intro f
  induction f with
  | zero => intro p d c h1 h2; omega
  | succ f ih =>
    intro p d c hp1 hp2 hd hc hk
    have iva : vp_in (nI a) 6 := in_nI ha (by omega)
    apply v_X10_orders_7
    rw [cl_nI (by omega), hs, le_nI (by omega) (by omega), lt_nI (by omega) (by omega)]
    refine ⟨iva, fun e => ⟨iva, ?_⟩, fun e => ?_⟩
    · rw [prs_end e] at hk; exact hk
    have he : ¬ N ≤ p := by omega
    have hbp := hb p e
    rw [ix_100, cl_nI (by omega), ht p e]
    refine ⟨in_nI (by omega) (by omega), fun g0 => ?_, fun g0 => ?_⟩
    · have z0 : (T p).toInt32 = 0 ↔ (T p).toInt = 0 := by rw [ti_eq, t32 (by omega), tl0]
      have g0' : ¬ (T p).toInt = 0 := fun x => g0 (z0.mpr x)
      have m80 : ∀ s0 : Int32, (1 ≤ (T p).toInt ∧ (T p).toInt ≤ 8 → s0 = nI (oln (oc T p) - 1)) → Wp 134 80 [t9, i9 (nI a), i9 (nI c), i9 (nI d), i9 (nI p), i9 (T p).toInt32, none, none] [j9 s0] w (kI k) := by
        intro s0 h0
        have bad : ¬ ((1 ≤ (T p).toInt ∧ (T p).toInt ≤ 8) ∧ p + oln (oc T p) - 1 < N ∧ snd T R (oc T p) p ∧ dpo (oc T p) d) → k (-1 - nI p) w := fun x => by
          rw [prs_n he g0' x] at hk; exact hk
        have b110 : ¬ ((1 ≤ (T p).toInt ∧ (T p).toInt ≤ 8) ∧ p + oln (oc T p) - 1 < N ∧ snd T R (oc T p) p ∧ dpo (oc T p) d) → Wp 134 110 [none, none, none, none, i9 (nI p), none, none, none] [] w (kI k) := fun x => by
          apply v_X10_orders_110
          exact bad x
        apply v_X10_orders_80
        have q0 : (T p).toInt32 < 0 ↔ (T p).toInt < 0 := by rw [ti_lt, t32 (by omega), tl0]
        have q1 : (8 : Int32) < (T p).toInt32 ↔ 8 < (T p).toInt := by rw [ti_lt, t32 (by omega), show (8 : Int32).toInt = 8 from rfl]
        have q2 : (T p).toInt32 ≤ 8 ↔ (T p).toInt ≤ 8 := by rw [ti_le, t32 (by omega), show (8 : Int32).toInt = 8 from rfl]
        have q3 : 0 ≤ (T p).toInt32 ↔ 0 ≤ (T p).toInt := by rw [ti_le, t32 (by omega), tl0]
        refine ⟨fun x => b110 (by have := q0.mp x; omega), fun x => ⟨fun y => b110 (by have := q1.mp y; omega), fun y => ?_⟩⟩
        have hrg : 1 ≤ (T p).toInt ∧ (T p).toInt ≤ 8 := by
          have := q3.mp x; have := q2.mp y; omega
        have K1 : 1 ≤ oc T p := by unfold oc; omega
        have K8 : oc T p ≤ 8 := by unfold oc; omega
        have ob := oln_b (oc T p)
        have es := h0 hrg
        subst es
        rw [cl_nI (by omega), hs, kd hrg, show (1 : Int32) = nI 1 from rfl, nI_ad, nI_sb (by omega), le_nI (by omega) (by omega), lt_nI (by omega) (by omega)]
        refine ⟨iva, fun z => ?_, fun z => b110 (fun o => by have := o.2.1; omega)⟩
        have sz : p + oln (oc T p) - 1 < N := by omega
        obtain ⟨s1, s2⟩ := mo_sound (k := k) (c := c) (d := d) rfl K1 K8 hd ha hN sz hR hr ht hb (fun _ o => bad (fun o' => o o'.2.2)) (fun _ o1 o2 => by
          rw [nI_s1, nI_s1, nI_ad, show p + (oln (oc T p) - 1 + 1) = p + oln (oc T p) by omega]
          refine ih _ _ _ (by omega) (by omega) ?_ (by omega) ?_
          · exact dv_p hd o2
          · rw [prs_y he g0' ⟨hrg, sz, o1, o2⟩, mv_cns] at hk; exact hk)
        refine ⟨fun x => s1 ?_, fun x => ?_⟩
        · exact (lt_nI (a := 3) (by omega) (by omega)).mp x
        · have x' := (le_nI (b := 3) (by omega) (by omega)).mp x
          obtain ⟨t1, t2, t3⟩ := s2 x'
          have o3 := o3_ x'
          have e1 : p + 1 < N := by omega
          have hb1 := hb _ e1
          rw [nI_ad, ix_100, cl_nI (by omega), ht _ e1, hr, nI_sb (by omega)]
          have rg : (0 ≤ (T (p + 1)).toInt32 ∧ (T (p + 1)).toInt32 ≤ nI (R - 1)) ↔ ¬ ((T (p + 1)).toInt < 0 ∨ (R : Int) ≤ (T (p + 1)).toInt) := by
            rw [ti_le, ti_le, t32 (by omega), tl0, ti_nI (by omega)]; omega
          exact ⟨t1, bb_01, bbi (fun o => t2 (rg.mp o)) (fun o => t3 (Classical.byContradiction (fun o' => o (rg.mpr o'))))⟩
      have vv : ∀ q : Int32, (T p).toInt32 = q ↔ (T p).toInt = q.toInt := fun q => by rw [ti_eq, t32 (by omega)]
      have oc_e : 1 ≤ (T p).toInt ∧ (T p).toInt ≤ 8 → (oc T p : Int) = (T p).toInt := fun h => by unfold oc; omega
      have f58 : (T p).toInt = 1 ∨ (T p).toInt = 2 → Wp 134 58 [t9, i9 (nI a), i9 (nI c), i9 (nI d), i9 (nI p), i9 (T p).toInt32, none, none] [] w (kI k) := fun h => by
        apply v_X10_orders_58
        refine m80 2 (fun x => ?_)
        have := oc_e x
        rw [show oln (oc T p) = 3 by unfold oln; rw [if_pos (by omega)]]; rfl
      have f79 : (T p).toInt < 1 ∨ 6 ≤ (T p).toInt → Wp 134 79 [t9, i9 (nI a), i9 (nI c), i9 (nI d), i9 (nI p), i9 (T p).toInt32, none, none] [] w (kI k) := fun h => by
        apply v_X10_orders_79
        refine m80 0 (fun x => ?_)
        have := oc_e x
        rw [show oln (oc T p) = 1 by unfold oln; rw [if_neg (by omega), if_neg (by omega)]]; rfl
      have l1 : (1 : Int32).toInt = 1 := rfl
      have l2 : (2 : Int32).toInt = 2 := rfl
      have l6 : (6 : Int32).toInt = 6 := rfl
      have r1 := vv 1
      have r2 := vv 2
      rw [l1] at r1
      rw [l2] at r2
      have r3 : (T p).toInt32 ≤ 2 ↔ (T p).toInt ≤ 2 := by rw [ti_le, t32 (by omega), l2]
      have r4 : (2 : Int32) < (T p).toInt32 ↔ 2 < (T p).toInt := by rw [ti_lt, t32 (by omega), l2]
      have r5 : 6 ≤ (T p).toInt32 ↔ 6 ≤ (T p).toInt := by rw [ti_le, t32 (by omega), l6]
      have r6 : (T p).toInt32 < 6 ↔ (T p).toInt < 6 := by rw [ti_lt, t32 (by omega), l6]
      refine ⟨fun x => f58 (Or.inl (r1.mp x)), fun x => ⟨fun y => ⟨fun z => f79 ?_, fun z => ⟨fun u => f79 (Or.inr (r5.mp u)), fun u => m80 1 (fun _ => ?_)⟩⟩, fun y => f58 (Or.inr (r2.mp y))⟩⟩
      · have a1 : ¬ (T p).toInt = 1 := fun o => x (r1.mpr o)
        have a2 : ¬ (T p).toInt = 2 := fun o => y (r2.mpr o)
        have a3 := r3.mp z
        omega
      · have a1 := r4.mp z; have a2 := r6.mp u
        have := oc_e (by omega)
        rw [show oln (oc T p) = 2 by unfold oln; rw [if_neg (by omega), if_pos (by omega)]]; rfl
    · have z0 : (T p).toInt32 = 0 ↔ (T p).toInt = 0 := by rw [ti_eq, t32 (by omega), tl0]
      have g0' := z0.mp g0
      rw [prs_0 he g0'] at hk
      have d1 : nI d = 1 ↔ d = 1 := by rw [show (1 : Int32) = nI 1 from rfl, nI_inj (by omega) (by omega)]
      refine ⟨fun x => ?_, fun x => ?_⟩
      · apply v_X10_orders_45
        rw [if_neg (fun y => x (d1.mpr y))] at hk; exact hk
      · apply v_X10_orders_45
        rw [if_pos (d1.mp x)] at hk; exact hk
end
