theorem Wp.run {sm : ST} (hsm : SmOK sm) (inl : List Nat) (ct : List (Nat × Nat × List Bool)) : ∀ n, SubX (runX sm inl ct n) Wp := by
  intro n
  induction n with
  | zero => exact fun _ _ _ _ _ _ h => h
  | succ n ih =>
    refine Wp.step ?_ ?_
    · intro mj pc L st w Q h
      cases hi : inlL inl mj with
      | true => rw [hi] at h; exact ih _ _ _ _ _ _ h
      | false =>
        rw [hi, cond_false] at h
        cases hs : sm mj with
        | none => rw [hs] at h; exact h
        | some f =>
          rw [hs] at h
          rcases pc with _ | pc
          · rcases st with _ | ⟨v, st⟩
            · exact hsm mj f hs L w Q h
            · exact h
          · exact h
    · intro mi pc L st w Q h
      cases hc : ctl ct mi pc with
      | none => rw [hc] at h; exact ih _ _ _ _ _ _ h
      | some m => rw [hc] at h; exact Wp.mask m mi pc L st w Q h
def sm0 : ST := fun _ => none
theorem sm0_ok : SmOK sm0 := fun _ _ h => by cases h
