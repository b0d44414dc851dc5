theorem t_isWithin {Γ : Gam} (hΓ : gmono Γ) {σ : Sto} {Q : Post} {x a b : Int} (hx : inR x) (ha : inR a) (hb : inR b) (h1 : a ≤ x → x ≤ b → Q (some (.inl 1)) σ) (h0 : (x < a ∨ b < x) → Q (some (.inl 0)) σ) : wpm Γ m_X4_isWithin [.inl x, .inl a, .inl b] σ Q := by
  intro P hP
  refine go (t := tb_X4_isWithin) hΓ hP 20 [] ?_
  conv => whnf
  (repeat' (first | (refine ⟨fun _ => ?_, fun _ => ?_⟩ <;> first | (exfalso; omega) | (conv => whnf)) | (refine ⟨by omega, ?_⟩; conv => whnf) | (intro _; conv => whnf)))
  all_goals first | exact h1 (by omega) (by omega) | exact h0 (by omega)
/-- the place's ash in a row of n -/
def ashIx (f : Int → Int) (w : Int) : Nat → Int → Int
  | 0, _ => -1
  | n + 1, i => if f i = w then i else ashIx f w n (i + 1)
theorem t_ashAt {Γ : Gam} (hΓ : gmono Γ) {σ : Sto} {Q : Post} {c w : Int} (hw : inR w) (hn : 0 ≤ σ 16 c 8 ∧ σ 16 c 8 ≤ 6) (h : Q (some (.inl (ashIx (σ 20 c) w (σ 16 c 8).toNat 0))) σ) : wpm Γ m_X0_ashAt [.inr (16, c), .inl w] σ Q := by
  intro P hP
  have L : ∀ (n : Nat) (i : Int), n = (σ 16 c 8 - i).toNat → 0 ≤ i → i ≤ σ 16 c 8 → Q (some (.inl (ashIx (σ 20 c) w n i))) σ → P 2 [.inr (16, c), .inl w, .inl i] [] σ := by
    intro n
    induction n with
    | zero =>
      intro i hn0 h0 h1 hq
      refine go (t := tb_X0_ashAt) hΓ hP 30 [2] ?_
      conv => whnf
      (repeat' (first | (refine ⟨fun _ => ?_, fun _ => ?_⟩ <;> first | (exfalso; omega) | (conv => whnf)) | (refine ⟨by omega, ?_⟩; conv => whnf) | (intro _; conv => whnf)))
      exact hq
    | succ n ih =>
      intro i hn0 h0 h1 hq
      refine go (t := tb_X0_ashAt) hΓ hP 30 [2] ?_
      conv => whnf
      (repeat' (first | (refine ⟨fun _ => ?_, fun _ => ?_⟩ <;> first | (exfalso; omega) | (conv => whnf)) | (refine ⟨by omega, ?_⟩; conv => whnf) | (intro _; conv => whnf)))
      · rename_i e
        exact ih (i + 1) (by omega) (by omega) (by omega) (by rwa [ashIx, if_neg (by omega)] at hq)
      · rename_i e
        rwa [ashIx, if_pos (by omega)] at hq
  refine go (t := tb_X0_ashAt) hΓ hP 30 [2] ?_
  conv => whnf
  exact L _ 0 (by omega) (by omega) (by omega) h
