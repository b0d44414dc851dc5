/-! THE LAW: cell, builds -/
theorem t_X6_cell {d : Nat} (hd : 1 ≤ d) {σ : Sto} {Q : Post} {k : Int} (hL : 0 ≤ σ 41 0 (-1) ∧ σ 41 0 (-1) ≤ 260) (hk : 0 ≤ k ∧ k ≤ 40) (hq : ∀ v, 0 ≤ v ∧ v ≤ 2147483647 → Q (some (.inl v)) σ) : WPd d m_X6_cell [.inr (41, 0), .inl k] σ Q := by
  obtain ⟨d, rfl⟩ : ∃ k, d = k + 1 := ⟨d - 1, by omega⟩
  intro P hP
  have C19 : ∀ v, P 19 [.inr (41, 0), .inl k] [.inl v] σ := by
    intro v
    (refine go (t := tb_X6_cell) (WPd_mono d) hP 60 [] ?_; (conv => whnf); (repeat' (first | (refine ⟨fun _ => ?_, fun _ => ?_⟩ <;> first | (exfalso; omega) | (conv => whnf)) | (refine ⟨by omega, ?_⟩; conv => whnf) | (intro _; conv => whnf))))
    exact hq _ (by omega)
  (refine go (t := tb_X6_cell) (WPd_mono d) hP 60 [19] ?_; (conv => whnf); (repeat' (first | (refine ⟨fun _ => ?_, fun _ => ?_⟩ <;> first | (exfalso; omega) | (conv => whnf)) | (refine ⟨by omega, ?_⟩; conv => whnf) | (intro _; conv => whnf))))
  all_goals exact C19 _
theorem t_X6_builds {d : Nat} (hd : 6 ≤ d) {σ : Sto} {Q : Post} {K : KV} {h : Int} {HK : Int → KV} {tl : Int} {tx : Int → Int} (hC : ClassR σ K h HK tl tx) (hL : 0 ≤ σ 41 0 (-1) ∧ σ 41 0 (-1) ≤ 260) (h0 : K 7 0 = 0) (h1 : K 7 1 = 0) (hq : ∀ n K' h' HK' σ', (6 ≤ n ∧ n ≤ 35) → K' 7 0 = n → ClassR σ' K' h' HK' tl tx → frC σ σ' → Q (some (.inl n)) σ') : WPd d m_X6_builds [.inr (0, 0), .inr (41, 0)] σ Q := by
  obtain ⟨d, rfl⟩ : ∃ k, d = k + 1 := ⟨d - 1, by omega⟩
  refine wpd_of fun P hT hP => ?_
  have e41 : ∀ τ, frC σ τ → 0 ≤ τ 41 0 (-1) ∧ τ 41 0 (-1) ≤ 260 := fun τ f => by
    rw [f 41 0 (by decide)]
    exact hL
  (refine go (t := tb_X6_builds) (WPd_mono d) hP 300 [14] ?_; (conv => whnf); (repeat' (first | (refine ⟨fun _ => ?_, fun _ => ?_⟩ <;> first | (exfalso; omega) | (conv => whnf)) | (refine ⟨by omega, ?_⟩; conv => whnf) | (intro _; conv => whnf))))
  refine t_X6_cell (by omega) hL (by omega) (fun v0 b0 => ?_)
  obtain ⟨n, en⟩ : ∃ n, 6 + v0 % 30 = n := ⟨_, rfl⟩
  have nb : 6 ≤ n ∧ n ≤ 35 := by omega
  have L3 : ∀ (m : Nat) (a i : Int) (τ : Sto) (K : KV) (h : Int) (HK : Int → KV), m = (4 - i).toNat → 0 ≤ i → i ≤ 4 → ClassR τ K h HK tl tx → K 7 0 = n → frC σ τ → P 141 [.inr (0, 0), .inr (41, 0), .inl n, .inl a, .inl i] [] τ := by
    intro m
    induction m with
    | zero =>
      intro a i τ K h HK hm i0 i1 c1 e1 f1
      (refine go (t := tb_X6_builds) (WPd_mono d) hP 300 [] ?_; (conv => whnf); (repeat' (first | (refine ⟨fun _ => ?_, fun _ => ?_⟩ <;> first | (exfalso; omega) | (conv => whnf)) | (refine ⟨by omega, ?_⟩; conv => whnf) | (intro _; conv => whnf))))
      exact hq n K h HK τ nb e1 c1 f1
    | succ m ih =>
      intro a i τ K h HK hm i0 i1 c1 e1 f1
      (refine go (t := tb_X6_builds) (WPd_mono d) hP 300 [141] ?_; (conv => whnf); (repeat' (first | (refine ⟨fun _ => ?_, fun _ => ?_⟩ <;> first | (exfalso; omega) | (conv => whnf)) | (refine ⟨by omega, ?_⟩; conv => whnf) | (intro _; conv => whnf))))
      refine t_X6_cell (by omega) (e41 τ f1) (by omega) (fun v b => ?_)
      ((conv => whnf); (repeat' (first | (refine ⟨fun _ => ?_, fun _ => ?_⟩ <;> first | (exfalso; omega) | (conv => whnf)) | (refine ⟨by omega, ?_⟩; conv => whnf) | (intro _; conv => whnf))))
      refine t_X4_set (by omega) c1 (by omega) (by omega) (fun e => absurd (show (0 ≤ i ∧ i ≤ 3) ∧ (0 ≤ 1 + v % 12 ∧ 1 + v % 12 ≤ 50) by omega) e) (fun _ σ2 c2 f2 => ?_)
      have X := ih a (i + 1) σ2 _ _ _ (by omega) (by omega) (by omega) c2 (show setSK K i (1 + v % 12) 7 0 = n from e1) (f1.tr f2)
      ((conv => whnf); (repeat' (first | (refine ⟨fun _ => ?_, fun _ => ?_⟩ <;> first | (exfalso; omega) | (conv => whnf)) | (refine ⟨by omega, ?_⟩; conv => whnf) | (intro _; conv => whnf))))
      exact X
  have L2 : ∀ (m : Nat) (a i : Int) (τ : Sto) (K : KV) (h : Int) (HK : Int → KV), m = (4 - i).toNat → 0 ≤ i → i ≤ 4 → 0 ≤ a → a ≤ 14 * i → ClassR τ K h HK tl tx → K 7 0 = n → K 7 1 ≤ i → frC σ τ → P 78 [.inr (0, 0), .inr (41, 0), .inl n, .inl a, .inl i] [] τ := by
    intro m
    induction m with
    | zero =>
      intro a i τ K h HK hm i0 i1 a0 a1 c1 e1 g1 f1
      have X := L3 _ a 0 τ K h HK rfl (by omega) (by omega) c1 e1 f1
      (refine go (t := tb_X6_builds) (WPd_mono d) hP 300 [141] ?_; (conv => whnf); (repeat' (first | (refine ⟨fun _ => ?_, fun _ => ?_⟩ <;> first | (exfalso; omega) | (conv => whnf)) | (refine ⟨by omega, ?_⟩; conv => whnf) | (intro _; conv => whnf))))
      exact X
    | succ m ih =>
      intro a i τ K h HK hm i0 i1 a0 a1 c1 e1 g1 f1
      (refine go (t := tb_X6_builds) (WPd_mono d) hP 300 [78] ?_; (conv => whnf); (repeat' (first | (refine ⟨fun _ => ?_, fun _ => ?_⟩ <;> first | (exfalso; omega) | (conv => whnf)) | (refine ⟨by omega, ?_⟩; conv => whnf) | (intro _; conv => whnf))))
      refine t_X6_cell (by omega) (e41 τ f1) (by omega) (fun v b => ?_)
      have z1 : 0 ≤ v % n ∧ v % n < n := ⟨Int.emod_nonneg _ (by omega), Int.emod_lt_of_pos _ (by omega)⟩
      have z2 : 0 ≤ i * n ∧ i * n ≤ 4 * 35 := mul_b (by omega) (by omega) (by omega) (by omega)
      have z3 : 0 ≤ (i * n + v % n) / 4 % n ∧ (i * n + v % n) / 4 % n < n := ⟨Int.emod_nonneg _ (by omega), Int.emod_lt_of_pos _ (by omega)⟩
      ((conv => whnf); (repeat' (first | (refine ⟨fun _ => ?_, fun _ => ?_⟩ <;> first | (exfalso; omega) | (conv => whnf)) | (refine ⟨by omega, ?_⟩; conv => whnf) | (intro _; conv => whnf))))
      have X := fun (σ2 : Sto) (K2 : KV) (h2 : Int) (HK2 : Int → KV) (c2 : ClassR σ2 K2 h2 HK2 tl tx) (e2 : K2 7 0 = n) (g2 : K2 7 1 ≤ i + 1) (f2 : frC σ σ2) => ih (a + v % 15) (i + 1) σ2 K2 h2 HK2 (by omega) (by omega) (by omega) (by omega) (by omega) c2 e2 g2 f2
      refine t_X4_addAsh (by omega) c1 (by omega) (by omega) (by omega) (fun e => absurd (show (1 ≤ 1 + (i * n + v % n) / 4 % n ∧ 1 + (i * n + v % n) / 4 % n ≤ K 7 0) ∧ (0 ≤ a + v % 15 ∧ a + v % 15 ≤ 500) ∧ (0 ≤ v / 64 % 8 ∧ v / 64 % 8 ≤ 9) by omega) e) (fun _ _ => ?_) (fun _ _ e => ?_) (fun _ _ _ σ2 c2 f2 => ?_)
      · have X := X τ K h HK c1 e1 (by omega) f1
        ((conv => whnf); (repeat' (first | (refine ⟨fun _ => ?_, fun _ => ?_⟩ <;> first | (exfalso; omega) | (conv => whnf)) | (refine ⟨by omega, ?_⟩; conv => whnf) | (intro _; conv => whnf))))
        (refine hT 5 ?_; exact X)
      · exfalso
        omega
      · have X := X σ2 _ _ _ c2 (show K 7 0 = n from e1) (show K 7 1 + 1 ≤ i + 1 by omega) (f1.tr f2)
        ((conv => whnf); (repeat' (first | (refine ⟨fun _ => ?_, fun _ => ?_⟩ <;> first | (exfalso; omega) | (conv => whnf)) | (refine ⟨by omega, ?_⟩; conv => whnf) | (intro _; conv => whnf))))
        (refine hT 5 ?_; exact X)
  have L1 : ∀ (m : Nat) (k : Int) (τ : Sto) (K : KV) (h : Int) (HK : Int → KV), m = (n - k).toNat → 0 ≤ k → k ≤ n → ClassR τ K h HK tl tx → K 7 0 = k → K 7 1 = 0 → frC σ τ → P 14 [.inr (0, 0), .inr (41, 0), .inl n, .inl k] [] τ := by
    intro m
    induction m with
    | zero =>
      intro k τ K h HK hm k0 k1 c1 e1 g1 f1
      have X := L2 _ 0 0 τ K h HK rfl (by omega) (by omega) (by omega) (by omega) c1 (by omega) (by omega) f1
      (refine go (t := tb_X6_builds) (WPd_mono d) hP 300 [78] ?_; (conv => whnf); (repeat' (first | (refine ⟨fun _ => ?_, fun _ => ?_⟩ <;> first | (exfalso; omega) | (conv => whnf)) | (refine ⟨by omega, ?_⟩; conv => whnf) | (intro _; conv => whnf))))
      exact X
    | succ m ih =>
      intro k τ K h HK hm k0 k1 c1 e1 g1 f1
      (refine go (t := tb_X6_builds) (WPd_mono d) hP 300 [14] ?_; (conv => whnf); (repeat' (first | (refine ⟨fun _ => ?_, fun _ => ?_⟩ <;> first | (exfalso; omega) | (conv => whnf)) | (refine ⟨by omega, ?_⟩; conv => whnf) | (intro _; conv => whnf))))
      refine t_X6_cell (by omega) (e41 τ f1) (by omega) (fun v b => ?_)
      have z1 : 0 ≤ v / (1 + k / 20) ∧ v / (1 + k / 20) ≤ 2147483647 := by
        have a := Int.ediv_nonneg b.1 (show 0 ≤ 1 + k / 20 by omega)
        have c := Int.ediv_le_self (1 + k / 20) b.1
        omega
      ((conv => whnf); (repeat' (first | (refine ⟨fun _ => ?_, fun _ => ?_⟩ <;> first | (exfalso; omega) | (conv => whnf)) | (refine ⟨by omega, ?_⟩; conv => whnf) | (intro _; conv => whnf))))
      generalize v / (1 + k / 20) = z at *
      refine t_X4_addLayer (by omega) c1 (by omega) (by omega) (by omega) (by omega) (fun e => absurd (show (0 ≤ k ∧ k ≤ K 7 0) ∧ (1 ≤ 1 + z % 99 ∧ 1 + z % 99 ≤ 99) ∧ (0 ≤ z / 99 % 3 ∧ z / 99 % 3 ≤ 2) ∧ (0 ≤ z / 300 % 9 ∧ z / 300 % 9 ≤ 20) by omega) e) (fun _ e => ?_) (fun _ _ σ2 c2 f2 => ?_)
      · exfalso
        omega
      · have X := ih (k + 1) σ2 _ _ _ (by omega) (by omega) (by omega) c2 (show K 7 0 + 1 = k + 1 by omega) (show K 7 1 = 0 from g1) (f1.tr f2)
        ((conv => whnf); (repeat' (first | (refine ⟨fun _ => ?_, fun _ => ?_⟩ <;> first | (exfalso; omega) | (conv => whnf)) | (refine ⟨by omega, ?_⟩; conv => whnf) | (intro _; conv => whnf))))
        (refine hT 4 ?_; exact X)
  ((conv => whnf); (repeat' (first | (refine ⟨fun _ => ?_, fun _ => ?_⟩ <;> first | (exfalso; omega) | (conv => whnf)) | (refine ⟨by omega, ?_⟩; conv => whnf) | (intro _; conv => whnf))))
  rw [en]
  exact L1 _ 0 σ K h HK rfl (by omega) (by omega) hC (by omega) h1 (frC.rf σ)
