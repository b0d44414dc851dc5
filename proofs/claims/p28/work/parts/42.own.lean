/-! THE RECKONING: own years -/
theorem t_X2_addOwnCostsU {d : Nat} (hd : 2 ≤ d) {σ : Sto} {Q : Post} {K : KV} {p B : Int} (hK : vwC σ 0 = K) (hw : WFK K) (hp : 0 ≤ p ∧ p < K 7 0) (hB : σ 3 0 11 = B) (ho : 0 ≤ B ∧ B ≤ 600) (hrow : ∀ a, 0 ≤ a → a ≤ B → 0 ≤ σ 8 0 a ∧ σ 8 0 a ≤ 268435456) (hq : ∀ σ', (∀ k' i', k' ≠ 9 → σ' k' i' = σ k' i') → OwnEU (σ 8 0) (fun o => oK K p o) (lo (K 1 p)) (hi (K 1 p)) B (hi (K 1 p) + 1) 0 (σ' 9 0) → Q none σ') : WPd d m_X2_addOwnCosts [.inr (3, 0), .inl p, .inl 0] σ Q := by
  obtain ⟨d, rfl⟩ : ∃ k, d = k + 1 := ⟨d - 1, by omega⟩
  refine wpd_of fun P hT hP => ?_
  subst hK
  rw [vw_n] at hp
  have hn := hw.1
  rw [vw_n] at hn
  obtain ⟨-, v1, -⟩ := (vw_in (σ := σ) (c := 0)).1 hp.1 hp.2
  have h60 : vwC σ 0 6 0 = σ 23 0 0 := (vw_in (σ := σ) (c := 0)).2.2 (by omega) (by omega)
  have h61 : vwC σ 0 6 1 = σ 23 0 1 := (vw_in (σ := σ) (c := 0)).2.2 (by omega) (by omega)
  have bo : ∀ o, 0 ≤ oCst (σ 18 0 p) o (σ 23 0 0) (σ 23 0 1) ∧ oCst (σ 18 0 p) o (σ 23 0 0) (σ 23 0 1) ≤ 50 := fun o => by
    have := oK_b hw p o
    unfold oK at this
    rwa [v1, h60, h61] at this
  unfold oK at hq
  rw [v1, h60, h61] at hq
  have bl := lo_b (σ 18 0 p)
  have bh := hi_b (σ 18 0 p)
  generalize hC : (fun o => oCst (σ 18 0 p) o (σ 23 0 0) (σ 23 0 1)) = C at hq
  have L1 : ∀ (n : Nat) (w : Int) (τ : Sto), n = (hi (σ 18 0 p) + 1 - w).toNat → lo (σ 18 0 p) ≤ w → w ≤ hi (σ 18 0 p) + 1 → (∀ k' i', k' ≠ 9 → τ k' i' = σ k' i') → OwnEU (σ 8 0) C (lo (σ 18 0 p)) (hi (σ 18 0 p)) B w 0 (τ 9 0) → P 19 [.inr (3, 0), .inl p, .inl 0, .inl w] [] τ := by
    intro n
    induction n with
    | zero =>
      intro w τ hn0 w0 w1 e1 e2
      have ew : w = hi (σ 18 0 p) + 1 := by omega
      subst ew
      have e3 : τ 18 0 p = σ 18 0 p := by rw [e1 18 0 (by decide)]
      have X := hq τ e1 e2
      (refine go (t := tb_X2_addOwnCosts) (WPd_mono d) hP 90 [19, 45] ?_; (conv => whnf); (repeat' (first | (refine ⟨fun _ => ?_, fun _ => ?_⟩ <;> first | (exfalso; omega) | (conv => whnf)) | (refine ⟨by omega, ?_⟩; conv => whnf) | (intro _; conv => whnf))))
      refine t_X0_mostOwn (by omega) (by omega) ?_
      rw [e3]
      ((conv => whnf); (repeat' (first | (refine ⟨fun _ => ?_, fun _ => ?_⟩ <;> first | (exfalso; omega) | (conv => whnf)) | (refine ⟨by omega, ?_⟩; conv => whnf) | (intro _; conv => whnf))))
      exact X
    | succ n ih =>
      intro w τ hn0 w0 w1 e1 e2
      have e3 : τ 18 0 p = σ 18 0 p := by rw [e1 18 0 (by decide)]
      have L2 : ∀ (m : Nat) (y : Int) (ρ : Sto), m = (B + 1 - w - y).toNat → 0 ≤ y → y ≤ B + 1 → (∀ k' i', k' ≠ 9 → ρ k' i' = σ k' i') → OwnEU (σ 8 0) C (lo (σ 18 0 p)) (hi (σ 18 0 p)) B w y (ρ 9 0) → P 45 [.inr (3, 0), .inl p, .inl 0, .inl w, .inl (oCst (σ 18 0 p) w (σ 23 0 0) (σ 23 0 1)), .inl y] [] ρ := by
        intro m
        induction m with
        | zero =>
          intro y ρ hm y0 y1 f1 f2
          have f3 : ρ 3 0 11 = B := by rw [f1 3 0 (by decide)]; exact hB
          have X := ih (w + 1) ρ (by omega) (by omega) (by omega) f1 (OwnEU_n f2 (by omega))
          (refine go (t := tb_X2_addOwnCosts) (WPd_mono d) hP 90 [19, 45] ?_; (conv => whnf); (repeat' (first | (refine ⟨fun _ => ?_, fun _ => ?_⟩ <;> first | (exfalso; omega) | (conv => whnf)) | (refine ⟨by omega, ?_⟩; conv => whnf) | (intro _; conv => whnf))))
          (refine hT 4 ?_; exact X)
        | succ m jh =>
          intro y ρ hm y0 y1 f1 f2
          have f3 : ρ 3 0 11 = B := by rw [f1 3 0 (by decide)]; exact hB
          have bw := bo w
          have bW := hrow (y + w) (by omega) (by omega)
          have f8 : ρ 8 0 (y + w) = σ 8 0 (y + w) := by rw [f1 8 0 (by decide)]
          have bV := (f2 (y) (by omega) (by omega)).1
          have hCw : C w = oCst (σ 18 0 p) w (σ 23 0 0) (σ 23 0 1) := by rw [← hC]
          (refine go (t := tb_X2_addOwnCosts) (WPd_mono d) hP 90 [19, 45] ?_; (conv => whnf); (repeat' (first | (refine ⟨fun _ => ?_, fun _ => ?_⟩ <;> first | (exfalso; omega) | (conv => whnf)) | (refine ⟨by omega, ?_⟩; conv => whnf) | (intro _; conv => whnf))))
          rw [f8]
          refine hT 6 ?_
          refine jh (y + 1) _ (by omega) (by omega) (by omega) (fun k' i' h => by rw [up_k h]; exact f1 k' i' h) (OwnEU_s f2 (by omega) (by omega) (by omega) bW.1 (by omega) (fun a => ?_))
          rw [hCw]
          by_cases e : a = y
          · rw [if_pos e, e, up_hit]
          · rw [if_neg e, up_j e]
      (refine go (t := tb_X2_addOwnCosts) (WPd_mono d) hP 90 [19, 45] ?_; (conv => whnf); (repeat' (first | (refine ⟨fun _ => ?_, fun _ => ?_⟩ <;> first | (exfalso; omega) | (conv => whnf)) | (refine ⟨by omega, ?_⟩; conv => whnf) | (intro _; conv => whnf))))
      refine t_X0_mostOwn (by omega) (by omega) ?_
      rw [e3]
      ((conv => whnf); (repeat' (first | (refine ⟨fun _ => ?_, fun _ => ?_⟩ <;> first | (exfalso; omega) | (conv => whnf)) | (refine ⟨by omega, ?_⟩; conv => whnf) | (intro _; conv => whnf))))
      refine t_X0_ownCost (by omega) (by omega) (by omega) ?_
      rw [e3, e1 23 0 (by decide)]
      ((conv => whnf); (repeat' (first | (refine ⟨fun _ => ?_, fun _ => ?_⟩ <;> first | (exfalso; omega) | (conv => whnf)) | (refine ⟨by omega, ?_⟩; conv => whnf) | (intro _; conv => whnf))))
      exact L2 _ 0 τ rfl (by omega) (by omega) e1 e2
  (refine go (t := tb_X2_addOwnCosts) (WPd_mono d) hP 90 [19, 45] ?_; (conv => whnf); (repeat' (first | (refine ⟨fun _ => ?_, fun _ => ?_⟩ <;> first | (exfalso; omega) | (conv => whnf)) | (refine ⟨by omega, ?_⟩; conv => whnf) | (intro _; conv => whnf))))
  refine t_X2_clearRow (by omega) rfl (by decide) (by omega) (by omega) (fun σ1 g1 g2 => ?_)
  have e3 : σ1 18 0 p = σ 18 0 p := by rw [g1 18 0 (by omega)]
  ((conv => whnf); (repeat' (first | (refine ⟨fun _ => ?_, fun _ => ?_⟩ <;> first | (exfalso; omega) | (conv => whnf)) | (refine ⟨by omega, ?_⟩; conv => whnf) | (intro _; conv => whnf))))
  refine t_X0_leastOwn (by omega) (by omega) ?_
  rw [e3]
  ((conv => whnf); (repeat' (first | (refine ⟨fun _ => ?_, fun _ => ?_⟩ <;> first | (exfalso; omega) | (conv => whnf)) | (refine ⟨by omega, ?_⟩; conv => whnf) | (intro _; conv => whnf))))
  exact L1 _ _ σ1 rfl (by omega) (by omega) (fun k' i' h => g1 k' i' (by omega)) (OwnEU_0 (fun a a0 a1 => g2 a a0 (by omega)))
theorem t_X2_addOwnCostsD {d : Nat} (hd : 2 ≤ d) {σ : Sto} {Q : Post} {K : KV} {p B : Int} (hK : vwC σ 0 = K) (hw : WFK K) (hp : 0 ≤ p ∧ p < K 7 0) (hB : σ 3 0 11 = B) (ho : 0 ≤ B ∧ B ≤ 600) (hrow : ∀ a, 0 ≤ a → a ≤ B → 0 ≤ σ 8 0 a ∧ σ 8 0 a ≤ 268435456) (hq : ∀ σ', (∀ k' i', k' ≠ 9 → σ' k' i' = σ k' i') → OwnED (σ 8 0) (fun o => oK K p o) (lo (K 1 p)) (hi (K 1 p)) B (hi (K 1 p) + 1) 0 (σ' 9 0) → Q none σ') : WPd d m_X2_addOwnCosts [.inr (3, 0), .inl p, .inl 1] σ Q := by
  obtain ⟨d, rfl⟩ : ∃ k, d = k + 1 := ⟨d - 1, by omega⟩
  refine wpd_of fun P hT hP => ?_
  subst hK
  rw [vw_n] at hp
  have hn := hw.1
  rw [vw_n] at hn
  obtain ⟨-, v1, -⟩ := (vw_in (σ := σ) (c := 0)).1 hp.1 hp.2
  have h60 : vwC σ 0 6 0 = σ 23 0 0 := (vw_in (σ := σ) (c := 0)).2.2 (by omega) (by omega)
  have h61 : vwC σ 0 6 1 = σ 23 0 1 := (vw_in (σ := σ) (c := 0)).2.2 (by omega) (by omega)
  have bo : ∀ o, 0 ≤ oCst (σ 18 0 p) o (σ 23 0 0) (σ 23 0 1) ∧ oCst (σ 18 0 p) o (σ 23 0 0) (σ 23 0 1) ≤ 50 := fun o => by
    have := oK_b hw p o
    unfold oK at this
    rwa [v1, h60, h61] at this
  unfold oK at hq
  rw [v1, h60, h61] at hq
  have bl := lo_b (σ 18 0 p)
  have bh := hi_b (σ 18 0 p)
  generalize hC : (fun o => oCst (σ 18 0 p) o (σ 23 0 0) (σ 23 0 1)) = C at hq
  have L1 : ∀ (n : Nat) (w : Int) (τ : Sto), n = (hi (σ 18 0 p) + 1 - w).toNat → lo (σ 18 0 p) ≤ w → w ≤ hi (σ 18 0 p) + 1 → (∀ k' i', k' ≠ 9 → τ k' i' = σ k' i') → OwnED (σ 8 0) C (lo (σ 18 0 p)) (hi (σ 18 0 p)) B w 0 (τ 9 0) → P 19 [.inr (3, 0), .inl p, .inl 1, .inl w] [] τ := by
    intro n
    induction n with
    | zero =>
      intro w τ hn0 w0 w1 e1 e2
      have ew : w = hi (σ 18 0 p) + 1 := by omega
      subst ew
      have e3 : τ 18 0 p = σ 18 0 p := by rw [e1 18 0 (by decide)]
      have X := hq τ e1 e2
      (refine go (t := tb_X2_addOwnCosts) (WPd_mono d) hP 90 [19, 45] ?_; (conv => whnf); (repeat' (first | (refine ⟨fun _ => ?_, fun _ => ?_⟩ <;> first | (exfalso; omega) | (conv => whnf)) | (refine ⟨by omega, ?_⟩; conv => whnf) | (intro _; conv => whnf))))
      refine t_X0_mostOwn (by omega) (by omega) ?_
      rw [e3]
      ((conv => whnf); (repeat' (first | (refine ⟨fun _ => ?_, fun _ => ?_⟩ <;> first | (exfalso; omega) | (conv => whnf)) | (refine ⟨by omega, ?_⟩; conv => whnf) | (intro _; conv => whnf))))
      exact X
    | succ n ih =>
      intro w τ hn0 w0 w1 e1 e2
      have e3 : τ 18 0 p = σ 18 0 p := by rw [e1 18 0 (by decide)]
      have L2 : ∀ (m : Nat) (y : Int) (ρ : Sto), m = (B + 1 - w - y).toNat → 0 ≤ y → y ≤ B + 1 → (∀ k' i', k' ≠ 9 → ρ k' i' = σ k' i') → OwnED (σ 8 0) C (lo (σ 18 0 p)) (hi (σ 18 0 p)) B w y (ρ 9 0) → P 45 [.inr (3, 0), .inl p, .inl 1, .inl w, .inl (oCst (σ 18 0 p) w (σ 23 0 0) (σ 23 0 1)), .inl y] [] ρ := by
        intro m
        induction m with
        | zero =>
          intro y ρ hm y0 y1 f1 f2
          have f3 : ρ 3 0 11 = B := by rw [f1 3 0 (by decide)]; exact hB
          have X := ih (w + 1) ρ (by omega) (by omega) (by omega) f1 (OwnED_n f2 (by omega))
          (refine go (t := tb_X2_addOwnCosts) (WPd_mono d) hP 90 [19, 45] ?_; (conv => whnf); (repeat' (first | (refine ⟨fun _ => ?_, fun _ => ?_⟩ <;> first | (exfalso; omega) | (conv => whnf)) | (refine ⟨by omega, ?_⟩; conv => whnf) | (intro _; conv => whnf))))
          (refine hT 4 ?_; exact X)
        | succ m jh =>
          intro y ρ hm y0 y1 f1 f2
          have f3 : ρ 3 0 11 = B := by rw [f1 3 0 (by decide)]; exact hB
          have bw := bo w
          have bW := hrow (y) (by omega) (by omega)
          have f8 : ρ 8 0 (y) = σ 8 0 (y) := by rw [f1 8 0 (by decide)]
          have bV := (f2 (y + w) (by omega) (by omega)).1
          have hCw : C w = oCst (σ 18 0 p) w (σ 23 0 0) (σ 23 0 1) := by rw [← hC]
          (refine go (t := tb_X2_addOwnCosts) (WPd_mono d) hP 90 [19, 45] ?_; (conv => whnf); (repeat' (first | (refine ⟨fun _ => ?_, fun _ => ?_⟩ <;> first | (exfalso; omega) | (conv => whnf)) | (refine ⟨by omega, ?_⟩; conv => whnf) | (intro _; conv => whnf))))
          rw [f8]
          refine hT 6 ?_
          refine jh (y + 1) _ (by omega) (by omega) (by omega) (fun k' i' h => by rw [up_k h]; exact f1 k' i' h) (OwnED_s f2 (by omega) (by omega) (by omega) bW.1 (by omega) (fun a => ?_))
          rw [hCw]
          by_cases e : a = y + w
          · rw [if_pos e, e, up_hit]
          · rw [if_neg e, up_j e]
      (refine go (t := tb_X2_addOwnCosts) (WPd_mono d) hP 90 [19, 45] ?_; (conv => whnf); (repeat' (first | (refine ⟨fun _ => ?_, fun _ => ?_⟩ <;> first | (exfalso; omega) | (conv => whnf)) | (refine ⟨by omega, ?_⟩; conv => whnf) | (intro _; conv => whnf))))
      refine t_X0_mostOwn (by omega) (by omega) ?_
      rw [e3]
      ((conv => whnf); (repeat' (first | (refine ⟨fun _ => ?_, fun _ => ?_⟩ <;> first | (exfalso; omega) | (conv => whnf)) | (refine ⟨by omega, ?_⟩; conv => whnf) | (intro _; conv => whnf))))
      refine t_X0_ownCost (by omega) (by omega) (by omega) ?_
      rw [e3, e1 23 0 (by decide)]
      ((conv => whnf); (repeat' (first | (refine ⟨fun _ => ?_, fun _ => ?_⟩ <;> first | (exfalso; omega) | (conv => whnf)) | (refine ⟨by omega, ?_⟩; conv => whnf) | (intro _; conv => whnf))))
      exact L2 _ 0 τ rfl (by omega) (by omega) e1 e2
  (refine go (t := tb_X2_addOwnCosts) (WPd_mono d) hP 90 [19, 45] ?_; (conv => whnf); (repeat' (first | (refine ⟨fun _ => ?_, fun _ => ?_⟩ <;> first | (exfalso; omega) | (conv => whnf)) | (refine ⟨by omega, ?_⟩; conv => whnf) | (intro _; conv => whnf))))
  refine t_X2_clearRow (by omega) rfl (by decide) (by omega) (by omega) (fun σ1 g1 g2 => ?_)
  have e3 : σ1 18 0 p = σ 18 0 p := by rw [g1 18 0 (by omega)]
  ((conv => whnf); (repeat' (first | (refine ⟨fun _ => ?_, fun _ => ?_⟩ <;> first | (exfalso; omega) | (conv => whnf)) | (refine ⟨by omega, ?_⟩; conv => whnf) | (intro _; conv => whnf))))
  refine t_X0_leastOwn (by omega) (by omega) ?_
  rw [e3]
  ((conv => whnf); (repeat' (first | (refine ⟨fun _ => ?_, fun _ => ?_⟩ <;> first | (exfalso; omega) | (conv => whnf)) | (refine ⟨by omega, ?_⟩; conv => whnf) | (intro _; conv => whnf))))
  exact L1 _ _ σ1 rfl (by omega) (by omega) (fun k' i' h => g1 k' i' (by omega)) (OwnED_0 (fun a a0 a1 => g2 a a0 (by omega)))
