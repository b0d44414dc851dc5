/-! THE RECKONING: rows -/
def acV (K : KV) (p a : Int) : Int := match acK K p a with
  | none => 268435456
  | some w => w
theorem acV_of {K : KV} (hK : WFK K) (p a : Int) : aCst (axK K p) a (K 4 (axK K p)) (K 5 (axK K p)) (K 6 3) = acV K p a ∧ 0 ≤ acV K p a ∧ acV K p a ≤ 268435456 := by
  have b := acK_b hK
  unfold acV aCst
  cases e : acK K p a with
  | none =>
    unfold acK at e
    split at e
    · cases e
    · rename_i q
      split at e
      · rename_i q2
        rw [if_neg q, if_pos q2]
        exact ⟨rfl, by decide, by decide⟩
      · cases e
  | some w =>
    have b2 := b p a w e
    unfold acK at e
    refine ⟨?_, by simp only []; omega, by simp only []; omega⟩
    split at e
    · rename_i q
      cases e
      rw [if_pos q]
    · rename_i q
      split at e
      · cases e
      · rename_i q2
        cases e
        rw [if_neg q, if_neg q2]
theorem t_X2_addAshCosts {d : Nat} (hd : 2 ≤ d) {σ : Sto} {Q : Post} {K : KV} {k : Nat} {c p B : Int} (hk : k = 24 ∨ k = 25) (hK : vwC σ 0 = K) (hw : WFK K) (hp : 0 ≤ p ∧ p ≤ 50) (hB : σ 3 0 11 = B) (ho : 0 ≤ B ∧ B ≤ 600) (hrow : ∀ a, 0 ≤ a → a ≤ B → 0 ≤ σ k c a ∧ σ k c a ≤ 268435456) (hq : ∀ σ', (∀ k' i', k' ≠ 8 → σ' k' i' = σ k' i') → (∀ a, 0 ≤ a → a ≤ B → σ' 8 0 a = min 268435456 (σ k c a + acV K p a)) → Q none σ') : WPd d m_X2_addAshCosts [.inr (3, 0), .inl p, .inr (k, c)] σ Q := by
  obtain ⟨d, rfl⟩ : ∃ k, d = k + 1 := ⟨d - 1, by omega⟩
  intro P hP
  have hl : lenI k = some 601 := by rcases hk with rfl | rfl <;> rfl
  subst hK
  have bx := axK_of (vwC σ 0) p hw.2.1.1
  rw [vw_a] at bx
  have hm := hw.2.1
  rw [vw_a] at hm
  have hv : 0 ≤ axK (vwC σ 0) p → vwC σ 0 4 (axK (vwC σ 0) p) = σ 21 0 (axK (vwC σ 0) p) ∧ vwC σ 0 5 (axK (vwC σ 0) p) = σ 22 0 (axK (vwC σ 0) p) ∧ (0 ≤ σ 21 0 (axK (vwC σ 0) p) ∧ σ 21 0 (axK (vwC σ 0) p) ≤ 500) := fun h => by
    obtain ⟨v0, v1, v2⟩ := (vw_in (σ := σ) (c := 0)).2.1 h (show axK (vwC σ 0) p < σ 16 0 8 by omega)
    have := (hw.2.2.2.1 (axK (vwC σ 0) p) h (by rw [vw_a]; omega)).2.1
    exact ⟨v1, v2, by omega⟩
  have h6 : vwC σ 0 6 3 = σ 23 0 3 := (vw_in (σ := σ) (c := 0)).2.2 (by omega) (by omega)
  have hac : ∀ a, aCst (axK (vwC σ 0) p) a (σ 21 0 (axK (vwC σ 0) p)) (σ 22 0 (axK (vwC σ 0) p)) (σ 23 0 3) = acV (vwC σ 0) p a ∧ 0 ≤ acV (vwC σ 0) p a ∧ acV (vwC σ 0) p a ≤ 268435456 := fun a => by
    have t := acV_of hw p a
    refine ⟨?_, t.2⟩
    rw [← t.1, h6]
    by_cases e : axK (vwC σ 0) p = -1
    · unfold aCst
      rw [if_pos e, if_pos e]
    · obtain ⟨v1, v2, _⟩ := hv (by omega)
      rw [v1, v2]
  have L : ∀ (m : Nat) (i : Int) (τ : Sto), m = (B + 1 - i).toNat → 0 ≤ i → i ≤ B + 1 → (∀ k' i', k' ≠ 8 → τ k' i' = σ k' i') → (∀ a, 0 ≤ a → a < i → τ 8 0 a = min 268435456 (σ k c a + acV (vwC σ 0) p a)) → P 12 [.inr (3, 0), .inl p, .inr (k, c), .inl (axK (vwC σ 0) p), .inl i] [] τ := by
    intro m
    induction m with
    | zero =>
      intro i τ hm i0 i1 e1 e2
      have e3 : τ 3 0 11 = B := by rw [e1 3 0 (by decide)]; exact hB
      (refine go (t := tb_X2_addAshCosts) (WPd_mono d) hP 60 [12] ?_; (conv => whnf); (repeat' (first | (refine ⟨fun _ => ?_, fun _ => ?_⟩ <;> first | (exfalso; omega) | (conv => whnf)) | (refine ⟨by omega, ?_⟩; conv => whnf) | (intro _; conv => whnf))))
      exact hq τ e1 (fun a a0 a1 => e2 a a0 (by omega))
    | succ m ih =>
      intro i τ hm i0 i1 e1 e2
      have e3 : τ 3 0 11 = B := by rw [e1 3 0 (by decide)]; exact hB
      have er : τ k c i = σ k c i := by rw [e1 k c (by omega)]
      have rb := hrow i i0 (by omega)
      have ab := hac i
      (refine go (t := tb_X2_addAshCosts) (WPd_mono d) hP 60 [12] ?_; (conv => whnf); (repeat' (first | (refine ⟨fun _ => ?_, fun _ => ?_⟩ <;> first | (exfalso; omega) | (conv => whnf)) | (refine ⟨by omega, ?_⟩; conv => whnf) | (intro _; conv => whnf))))
      simp only [hl]
      ((conv => whnf); (repeat' (first | (refine ⟨fun _ => ?_, fun _ => ?_⟩ <;> first | (exfalso; omega) | (conv => whnf)) | (refine ⟨by omega, ?_⟩; conv => whnf) | (intro _; conv => whnf))))
      refine t_X0_ashCost (by omega) (by omega) (by omega) (fun h => ?_) ?_
      · rw [e1 21 0 (by decide)]
        have := (hv h).2.2
        omega
      · rw [e1 21 0 (by decide), e1 22 0 (by decide), e1 23 0 (by decide), ab.1]
        ((conv => whnf); (repeat' (first | (refine ⟨fun _ => ?_, fun _ => ?_⟩ <;> first | (exfalso; omega) | (conv => whnf)) | (refine ⟨by omega, ?_⟩; conv => whnf) | (intro _; conv => whnf))))
        rw [er]
        refine ih (i + 1) _ (by omega) (by omega) (by omega) (fun k' i' h => by rw [up_k h]; exact e1 k' i' h) (fun a a0 a1 => ?_)
        by_cases e : a = i
        · rw [e, up_hit]
        · rw [up_j e]
          exact e2 a a0 (by omega)
  (refine go (t := tb_X2_addAshCosts) (WPd_mono d) hP 60 [12] ?_; (conv => whnf); (repeat' (first | (refine ⟨fun _ => ?_, fun _ => ?_⟩ <;> first | (exfalso; omega) | (conv => whnf)) | (refine ⟨by omega, ?_⟩; conv => whnf) | (intro _; conv => whnf))))
  refine t_X0_ashAt (by omega) (by omega) hm ?_
  rw [ax_vw]
  ((conv => whnf); (repeat' (first | (refine ⟨fun _ => ?_, fun _ => ?_⟩ <;> first | (exfalso; omega) | (conv => whnf)) | (refine ⟨by omega, ?_⟩; conv => whnf) | (intro _; conv => whnf))))
  exact L _ 0 σ rfl (by omega) (by omega) (fun _ _ _ => rfl) (fun a a0 a1 => by omega)
def pr (w y o z : Int) : Prop := o < w ∨ (o = w ∧ z < y)
def OwnEU (W C : Int → Int) (l h B w y : Int) (V : Int → Int) : Prop := ∀ a, 0 ≤ a → a ≤ B → (0 ≤ V a ∧ V a ≤ 268435456) ∧ (∀ o, l ≤ o → o ≤ h → 0 ≤ a → a + o ≤ B → pr w y o (a) → V a ≤ W (a + o) + C o) ∧ (V a = 268435456 ∨ ∃ o, (l ≤ o ∧ o ≤ h) ∧ (0 ≤ a ∧ a + o ≤ B) ∧ V a = W (a + o) + C o)
theorem OwnEU_0 {W C : Int → Int} {l h B : Int} {V : Int → Int} (hV : ∀ a, 0 ≤ a → a ≤ B → V a = 268435456) : OwnEU W C l h B l 0 V := fun a a0 a1 => by
  have e := hV a a0 a1
  refine ⟨by omega, fun o o0 o1 y0 y1 q => ?_, Or.inl e⟩
  unfold pr at q
  omega
theorem OwnEU_n {W C : Int → Int} {l h B w y : Int} {V : Int → Int} (hE : OwnEU W C l h B w y V) (hy : B < y + w) : OwnEU W C l h B (w + 1) 0 V := fun a a0 a1 => by
  obtain ⟨b, c, d⟩ := hE a a0 a1
  refine ⟨b, fun o o0 o1 y0 y1 q => c o o0 o1 y0 y1 ?_, d⟩
  unfold pr at q ⊢
  omega
theorem OwnEU_s {W C : Int → Int} {l h B w y : Int} {V V' : Int → Int} (hE : OwnEU W C l h B w y V) (hw : l ≤ w ∧ w ≤ h) (h0 : 0 ≤ w) (hy : 0 ≤ y ∧ y + w ≤ B) (hW : 0 ≤ W (y + w)) (hC : 0 ≤ C w) (hV : ∀ a, V' a = if a = y then min (V (y)) (W (y + w) + C w) else V a) : OwnEU W C l h B w (y + 1) V' := fun a a0 a1 => by
  obtain ⟨b, c, d⟩ := hE a a0 a1
  rw [hV]
  by_cases q : a = y
  · rw [if_pos q]
    have q' := q.symm
    subst q'
    refine ⟨by omega, fun o o0 o1 y0 y1 q => ?_, ?_⟩
    · by_cases z : pr w y o (y)
      · have := c o o0 o1 y0 y1 z
        omega
      · have e : o = w := by
          unfold pr at q z
          omega
        subst e
        rw [show y + o = y + o by omega]
        omega
    · by_cases z : V (y) ≤ W (y + w) + C w
      · rw [Int.min_eq_left z]
        exact d
      · rw [Int.min_eq_right (by omega)]
        refine Or.inr ⟨w, hw, by omega, ?_⟩
        rw [show y + w = y + w by omega]
  · rw [if_neg q]
    refine ⟨b, fun o o0 o1 y0 y1 z => c o o0 o1 y0 y1 ?_, d⟩
    unfold pr at z ⊢
    omega
def OwnED (W C : Int → Int) (l h B w y : Int) (V : Int → Int) : Prop := ∀ a, 0 ≤ a → a ≤ B → (0 ≤ V a ∧ V a ≤ 268435456) ∧ (∀ o, l ≤ o → o ≤ h → 0 ≤ a - o → a - o + o ≤ B → pr w y o (a - o) → V a ≤ W (a - o) + C o) ∧ (V a = 268435456 ∨ ∃ o, (l ≤ o ∧ o ≤ h) ∧ (0 ≤ a - o ∧ a - o + o ≤ B) ∧ V a = W (a - o) + C o)
theorem OwnED_0 {W C : Int → Int} {l h B : Int} {V : Int → Int} (hV : ∀ a, 0 ≤ a → a ≤ B → V a = 268435456) : OwnED W C l h B l 0 V := fun a a0 a1 => by
  have e := hV a a0 a1
  refine ⟨by omega, fun o o0 o1 y0 y1 q => ?_, Or.inl e⟩
  unfold pr at q
  omega
theorem OwnED_n {W C : Int → Int} {l h B w y : Int} {V : Int → Int} (hE : OwnED W C l h B w y V) (hy : B < y + w) : OwnED W C l h B (w + 1) 0 V := fun a a0 a1 => by
  obtain ⟨b, c, d⟩ := hE a a0 a1
  refine ⟨b, fun o o0 o1 y0 y1 q => c o o0 o1 y0 y1 ?_, d⟩
  unfold pr at q ⊢
  omega
theorem OwnED_s {W C : Int → Int} {l h B w y : Int} {V V' : Int → Int} (hE : OwnED W C l h B w y V) (hw : l ≤ w ∧ w ≤ h) (h0 : 0 ≤ w) (hy : 0 ≤ y ∧ y + w ≤ B) (hW : 0 ≤ W (y)) (hC : 0 ≤ C w) (hV : ∀ a, V' a = if a = y + w then min (V (y + w)) (W (y) + C w) else V a) : OwnED W C l h B w (y + 1) V' := fun a a0 a1 => by
  obtain ⟨b, c, d⟩ := hE a a0 a1
  rw [hV]
  by_cases q : a = y + w
  · rw [if_pos q]
    have q' := q.symm
    subst q'
    refine ⟨by omega, fun o o0 o1 y0 y1 q => ?_, ?_⟩
    · by_cases z : pr w y o ((y + w) - o)
      · have := c o o0 o1 y0 y1 z
        omega
      · have e : o = w := by
          unfold pr at q z
          omega
        subst e
        rw [show (y + o) - o = y by omega]
        omega
    · by_cases z : V (y + w) ≤ W (y) + C w
      · rw [Int.min_eq_left z]
        exact d
      · rw [Int.min_eq_right (by omega)]
        refine Or.inr ⟨w, hw, by omega, ?_⟩
        rw [show (y + w) - w = y by omega]
  · rw [if_neg q]
    refine ⟨b, fun o o0 o1 y0 y1 z => c o o0 o1 y0 y1 ?_, d⟩
    unfold pr at z ⊢
    omega
