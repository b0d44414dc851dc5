/-! THE RECKONING: rows -/
def acV (K : KV) (p a : Int) : Int := match acK K p a with
  | none => 268435456
  | some w => w
theorem acV_of {K : KV} (hK : WFK K) (p a : Int) : aCst (axK K p) a (K 4 (axK K p)) (K 5 (axK K p)) (K 6 3) = acV K p a ∧ 0 ≤ acV K p a ∧ acV K p a ≤ 268435456 := by
  have b := acK_b hK
  unfold acV aCst
  cases e : acK K p a with
  | none =>
    unfold acK at e
    split at e
    · cases e
    · rename_i q
      split at e
      · rename_i q2
        rw [if_neg q, if_pos q2]
        exact ⟨rfl, by decide, by decide⟩
      · cases e
  | some w =>
    have b2 := b p a w e
    unfold acK at e
    refine ⟨?_, by simp only []; omega, by simp only []; omega⟩
    split at e
    · rename_i q
      cases e
      rw [if_pos q]
    · rename_i q
      split at e
      · cases e
      · rename_i q2
        cases e
        rw [if_neg q, if_neg q2]
theorem t_X2_addAshCosts {d : Nat} (hd : 2 ≤ d) {σ : Sto} {Q : Post} {K : KV} {k : Nat} {c p B : Int} (hk : k = 24 ∨ k = 25) (hK : vwC σ 0 = K) (hw : WFK K) (hp : 0 ≤ p ∧ p ≤ 50) (hB : σ 3 0 11 = B) (ho : 0 ≤ B ∧ B ≤ 600) (hrow : ∀ a, 0 ≤ a → a ≤ B → 0 ≤ σ k c a ∧ σ k c a ≤ 268435456) (hq : ∀ σ', (∀ k' i', k' ≠ 8 → σ' k' i' = σ k' i') → (∀ a, 0 ≤ a → a ≤ B → σ' 8 0 a = min 268435456 (σ k c a + acV K p a)) → Q none σ') : WPd d m_X2_addAshCosts [.inr (3, 0), .inl p, .inr (k, c)] σ Q := by
  obtain ⟨d, rfl⟩ : ∃ k, d = k + 1 := ⟨d - 1, by omega⟩
  intro P hP
  have hl : lenI k = some 601 := by rcases hk with rfl | rfl <;> rfl
  subst hK
  have bx := axK_of (vwC σ 0) p hw.2.1.1
  rw [vw_a] at bx
  have hm := hw.2.1
  rw [vw_a] at hm
  have hv : 0 ≤ axK (vwC σ 0) p → vwC σ 0 4 (axK (vwC σ 0) p) = σ 21 0 (axK (vwC σ 0) p) ∧ vwC σ 0 5 (axK (vwC σ 0) p) = σ 22 0 (axK (vwC σ 0) p) ∧ (0 ≤ σ 21 0 (axK (vwC σ 0) p) ∧ σ 21 0 (axK (vwC σ 0) p) ≤ 500) := fun h => by
    obtain ⟨v0, v1, v2⟩ := (vw_in (σ := σ) (c := 0)).2.1 h (show axK (vwC σ 0) p < σ 16 0 8 by omega)
    have := (hw.2.2.2.1 (axK (vwC σ 0) p) h (by rw [vw_a]; omega)).2.1
    exact ⟨v1, v2, by omega⟩
  have h6 : vwC σ 0 6 3 = σ 23 0 3 := (vw_in (σ := σ) (c := 0)).2.2 (by omega) (by omega)
  have hac : ∀ a, aCst (axK (vwC σ 0) p) a (σ 21 0 (axK (vwC σ 0) p)) (σ 22 0 (axK (vwC σ 0) p)) (σ 23 0 3) = acV (vwC σ 0) p a ∧ 0 ≤ acV (vwC σ 0) p a ∧ acV (vwC σ 0) p a ≤ 268435456 := fun a => by
    have t := acV_of hw p a
    refine ⟨?_, t.2⟩
    rw [← t.1, h6]
    by_cases e : axK (vwC σ 0) p = -1
    · unfold aCst
      rw [if_pos e, if_pos e]
    · obtain ⟨v1, v2, _⟩ := hv (by omega)
      rw [v1, v2]
  have L : ∀ (m : Nat) (i : Int) (τ : Sto), m = (B + 1 - i).toNat → 0 ≤ i → i ≤ B + 1 → (∀ k' i', k' ≠ 8 → τ k' i' = σ k' i') → (∀ a, 0 ≤ a → a < i → τ 8 0 a = min 268435456 (σ k c a + acV (vwC σ 0) p a)) → P 12 [.inr (3, 0), .inl p, .inr (k, c), .inl (axK (vwC σ 0) p), .inl i] [] τ := by
    intro m
    induction m with
    | zero =>
      intro i τ hm i0 i1 e1 e2
      have e3 : τ 3 0 11 = B := by rw [e1 3 0 (by decide)]; exact hB
      (refine go (t := tb_X2_addAshCosts) (WPd_mono d) hP 60 [12] ?_; (conv => whnf); (repeat' (first | (refine ⟨fun _ => ?_, fun _ => ?_⟩ <;> first | (exfalso; omega) | (conv => whnf)) | (refine ⟨by omega, ?_⟩; conv => whnf) | (intro _; conv => whnf))))
      exact hq τ e1 (fun a a0 a1 => e2 a a0 (by omega))
    | succ m ih =>
      intro i τ hm i0 i1 e1 e2
      have e3 : τ 3 0 11 = B := by rw [e1 3 0 (by decide)]; exact hB
      have er : τ k c i = σ k c i := by rw [e1 k c (by omega)]
      have rb := hrow i i0 (by omega)
      have ab := hac i
      (refine go (t := tb_X2_addAshCosts) (WPd_mono d) hP 60 [12] ?_; (conv => whnf); (repeat' (first | (refine ⟨fun _ => ?_, fun _ => ?_⟩ <;> first | (exfalso; omega) | (conv => whnf)) | (refine ⟨by omega, ?_⟩; conv => whnf) | (intro _; conv => whnf))))
      simp only [hl]
      ((conv => whnf); (repeat' (first | (refine ⟨fun _ => ?_, fun _ => ?_⟩ <;> first | (exfalso; omega) | (conv => whnf)) | (refine ⟨by omega, ?_⟩; conv => whnf) | (intro _; conv => whnf))))
      refine t_X0_ashCost (by omega) (by omega) (by omega) (fun h => ?_) ?_
      · rw [e1 21 0 (by decide)]
        have := (hv h).2.2
        omega
      · rw [e1 21 0 (by decide), e1 22 0 (by decide), e1 23 0 (by decide), ab.1]
        ((conv => whnf); (repeat' (first | (refine ⟨fun _ => ?_, fun _ => ?_⟩ <;> first | (exfalso; omega) | (conv => whnf)) | (refine ⟨by omega, ?_⟩; conv => whnf) | (intro _; conv => whnf))))
        rw [er]
        refine ih (i + 1) _ (by omega) (by omega) (by omega) (fun k' i' h => by rw [up_k h]; exact e1 k' i' h) (fun a a0 a1 => ?_)
        by_cases e : a = i
        · rw [e, up_hit]
        · rw [up_j e]
          exact e2 a a0 (by omega)
  (refine go (t := tb_X2_addAshCosts) (WPd_mono d) hP 60 [12] ?_; (conv => whnf); (repeat' (first | (refine ⟨fun _ => ?_, fun _ => ?_⟩ <;> first | (exfalso; omega) | (conv => whnf)) | (refine ⟨by omega, ?_⟩; conv => whnf) | (intro _; conv => whnf))))
  refine t_X0_ashAt (by omega) (by omega) hm ?_
  rw [ax_vw]
  ((conv => whnf); (repeat' (first | (refine ⟨fun _ => ?_, fun _ => ?_⟩ <;> first | (exfalso; omega) | (conv => whnf)) | (refine ⟨by omega, ?_⟩; conv => whnf) | (intro _; conv => whnf))))
  exact L _ 0 σ rfl (by omega) (by omega) (fun _ _ _ => rfl) (fun a a0 a1 => by omega)
def pr (w y o z : Int) : Prop := o < w ∨ (o = w ∧ z < y)
theorem t_X2_addOwnCostsU {d : Nat} (hd : 2 ≤ d) {σ : Sto} {Q : Post} {K : KV} {p B : Int} (hK : vwC σ 0 = K) (hw : WFK K) (hp : 0 ≤ p ∧ p < K 7 0) (hB : σ 3 0 11 = B) (ho : 0 ≤ B ∧ B ≤ 600) (hrow : ∀ a, 0 ≤ a → a ≤ B → 0 ≤ σ 8 0 a ∧ σ 8 0 a ≤ 268435456) (hq : ∀ σ', (∀ k' i', k' ≠ 9 → σ' k' i' = σ k' i') → (∀ a, 0 ≤ a → a ≤ B → (0 ≤ σ' 9 0 a ∧ σ' 9 0 a ≤ 268435456) ∧ (∀ o, lo (K 1 p) ≤ o → o ≤ hi (K 1 p) → 0 ≤ a → a + o ≤ B → σ' 9 0 a ≤ σ 8 0 (a + o) + oK K p o) ∧ (σ' 9 0 a = 268435456 ∨ ∃ o, (lo (K 1 p) ≤ o ∧ o ≤ hi (K 1 p)) ∧ (0 ≤ a ∧ a + o ≤ B) ∧ σ' 9 0 a = σ 8 0 (a + o) + oK K p o)) → Q none σ') : WPd d m_X2_addOwnCosts [.inr (3, 0), .inl p, .inl 0] σ Q := by
  obtain ⟨d, rfl⟩ : ∃ k, d = k + 1 := ⟨d - 1, by omega⟩
  intro P hP
  subst hK
  rw [vw_n] at hp
  have hn := hw.1
  rw [vw_n] at hn
  obtain ⟨-, v1, -⟩ := (vw_in (σ := σ) (c := 0)).1 hp.1 hp.2
  have h60 : vwC σ 0 6 0 = σ 23 0 0 := (vw_in (σ := σ) (c := 0)).2.2 (by omega) (by omega)
  have h61 : vwC σ 0 6 1 = σ 23 0 1 := (vw_in (σ := σ) (c := 0)).2.2 (by omega) (by omega)
  have bo := oK_b hw p
  unfold oK at bo hq
  rw [v1, h60, h61] at bo hq
  have bl := lo_b (σ 18 0 p)
  have bh := hi_b (σ 18 0 p)
  have E : ∀ (w y : Int) (τ : Sto), Prop := fun w y τ => ∀ a, 0 ≤ a → a ≤ B → (0 ≤ τ 9 0 a ∧ τ 9 0 a ≤ 268435456) ∧ (∀ o, lo (σ 18 0 p) ≤ o → o ≤ hi (σ 18 0 p) → 0 ≤ a → a + o ≤ B → pr w y o (a) → τ 9 0 a ≤ σ 8 0 (a + o) + oCst (σ 18 0 p) o (σ 23 0 0) (σ 23 0 1)) ∧ (τ 9 0 a = 268435456 ∨ ∃ o, (lo (σ 18 0 p) ≤ o ∧ o ≤ hi (σ 18 0 p)) ∧ (0 ≤ a ∧ a + o ≤ B) ∧ τ 9 0 a = σ 8 0 (a + o) + oCst (σ 18 0 p) o (σ 23 0 0) (σ 23 0 1))
  sorry
