/-! THE CLASS: cost, years, age, offset, total, rate -/
theorem RecOk_B {σ : Sto} {K : KV} (h : RecOk σ K) (h12 : σ 3 0 12 = 1) : BelOk σ K := h.2.2.1 h12
theorem t_X2_hasCount {d : Nat} (hd : 5 ≤ d) {σ : Sto} {Q : Post} {K : KV} (hK : vwC σ 0 = K) (hw : WFK K) (hr : RecOk σ K) (h1 : ∀ σ', offR σ σ' → RecOk σ' K → σ' 3 0 12 = 1 → σ' 25 0 0 < 268435456 → Mn (CS K) 268435456 (σ' 25 0 0) → Q (some (.inl 1)) σ') (h0 : ∀ σ', offR σ σ' → RecOk σ' K → (∀ c, ¬ CS K c) → Q (some (.inl 0)) σ') : WPd d m_X2_hasCount [.inr (3, 0)] σ Q := by
  obtain ⟨d, rfl⟩ : ∃ k, d = k + 1 := ⟨d - 1, by omega⟩
  intro P hP
  (refine go (t := tb_X2_hasCount) (WPd_mono d) hP 60 [] ?_; (conv => whnf); (repeat' (first | (refine ⟨fun _ => ?_, fun _ => ?_⟩ <;> first | (exfalso; omega) | (conv => whnf)) | (refine ⟨by omega, ?_⟩; conv => whnf) | (intro _; conv => whnf))))
  refine t_X2_makeBelow (by omega) hK hw hr (fun ρ fo ro t12 => ?_)
  have b0 := bel_0 hw (ro.2.2.1 t12)
  have v0 : 0 ≤ ρ 25 0 0 := Mn_0 b0 (by omega) (fun c hc => (cont_lt hw (acK_g hw) (by have := hw.1; omega) hc).1)
  have v1 := Mn_le b0
  ((conv => whnf); (repeat' (first | (refine ⟨fun _ => ?_, fun _ => ?_⟩ <;> first | (exfalso; omega) | (conv => whnf)) | (refine ⟨by omega, ?_⟩; conv => whnf) | (intro _; conv => whnf))))
  · exact h0 ρ fo ro (Mn_no b0 (by omega))
  · exact h1 ρ fo ro t12 (by omega) b0
theorem t_X2_leastCost {d : Nat} (hd : 1 ≤ d) {σ : Sto} {Q : Post} (h : Q (some (.inl (σ 25 0 0))) σ) : WPd d m_X2_leastCost [.inr (3, 0)] σ Q := by
  obtain ⟨d, rfl⟩ : ∃ k, d = k + 1 := ⟨d - 1, by omega⟩
  intro P hP
  (refine go (t := tb_X2_leastCost) (WPd_mono d) hP 60 [] ?_; (conv => whnf); (repeat' (first | (refine ⟨fun _ => ?_, fun _ => ?_⟩ <;> first | (exfalso; omega) | (conv => whnf)) | (refine ⟨by omega, ?_⟩; conv => whnf) | (intro _; conv => whnf))))
  exact h
theorem t_X4_cost {d : Nat} (hd : 6 ≤ d) {σ : Sto} {Q : Post} {K : KV} {h : Int} {HK : Int → KV} {tl : Int} {tx : Int → Int} (hC : ClassR σ K h HK tl tx) (hno : (∀ c, ¬ CS K c) → ∀ σ', ClassR σ' K h HK tl tx → frC σ σ' → Q (some (.inl (-4))) σ') (hyes : ∀ v, isL (CS K) v → ∀ σ', ClassR σ' K h HK tl tx → frC σ σ' → Q (some (.inl v)) σ') : WPd d m_X4_cost [.inr (0, 0)] σ Q := by
  obtain ⟨d, rfl⟩ : ∃ k, d = k + 1 := ⟨d - 1, by omega⟩
  intro P hP
  (refine go (t := tb_X4_cost) (WPd_mono d) hP 60 [] ?_; (conv => whnf); (repeat' (first | (refine ⟨fun _ => ?_, fun _ => ?_⟩ <;> first | (exfalso; omega) | (conv => whnf)) | (refine ⟨by omega, ?_⟩; conv => whnf) | (intro _; conv => whnf))))
  refine t_X2_hasCount (by omega) hC.1 hC.2.1 hC.2.2.2.2 (fun ρ fo ro t12 lt b0 => ?_) (fun ρ fo ro no => ?_)
  · have cr := ClassR_R hC fo ro
    ((conv => whnf); (repeat' (first | (refine ⟨fun _ => ?_, fun _ => ?_⟩ <;> first | (exfalso; omega) | (conv => whnf)) | (refine ⟨by omega, ?_⟩; conv => whnf) | (intro _; conv => whnf))))
    refine t_X2_leastCost (by omega) ?_
    ((conv => whnf); (repeat' (first | (refine ⟨fun _ => ?_, fun _ => ?_⟩ <;> first | (exfalso; omega) | (conv => whnf)) | (refine ⟨by omega, ?_⟩; conv => whnf) | (intro _; conv => whnf))))
    exact hyes _ (Mn_L b0 lt) ρ cr.1 cr.2
  · have cr := ClassR_R hC fo ro
    ((conv => whnf); (repeat' (first | (refine ⟨fun _ => ?_, fun _ => ?_⟩ <;> first | (exfalso; omega) | (conv => whnf)) | (refine ⟨by omega, ?_⟩; conv => whnf) | (intro _; conv => whnf))))
    exact hno no ρ cr.1 cr.2
theorem t_X4_years {d : Nat} (hd : 6 ≤ d) {σ : Sto} {Q : Post} {K : KV} {h : Int} {HK : Int → KV} {tl : Int} {tx : Int → Int} {i w : Int} (hC : ClassR σ K h HK tl tx) (hi : inR i) (hw0 : inR w) (hbad : ¬ ((0 ≤ i ∧ i < K 7 0) ∧ (0 ≤ w ∧ w ≤ 1)) → Q (some (.inl (-1))) σ) (hno : (0 ≤ i ∧ i < K 7 0) ∧ (0 ≤ w ∧ w ≤ 1) → (∀ c, ¬ CS K c) → ∀ σ', ClassR σ' K h HK tl tx → frC σ σ' → Q (some (.inl (-4))) σ') (hyes : (0 ≤ i ∧ i < K 7 0) ∧ (0 ≤ w ∧ w ≤ 1) → (∃ c, CS K c) → ∀ A O G, Bst K (acK K) 600 A O G → ∀ σ', ClassR σ' K h HK tl tx → frC σ σ' → Q (some (.inl (if w = 0 then O i else G i))) σ') : WPd d m_X4_years [.inr (0, 0), .inl i, .inl w] σ Q := by
  obtain ⟨d, rfl⟩ : ∃ k, d = k + 1 := ⟨d - 1, by omega⟩
  intro P hP
  obtain ⟨rfl, hw, hh, htx, hr⟩ := hC
  have hn := hw.1
  rw [vw_n] at hn hbad hno hyes
  (refine go (t := tb_X4_years) (WPd_mono d) hP 60 [] ?_; (conv => whnf); (repeat' (first | (refine ⟨fun _ => ?_, fun _ => ?_⟩ <;> first | (exfalso; omega) | (conv => whnf)) | (refine ⟨by omega, ?_⟩; conv => whnf) | (intro _; conv => whnf))))
  refine t_X4_isLayer (by omega) hi hn (fun q1 => ?_) (fun q => ?_)
  · ((conv => whnf); (repeat' (first | (refine ⟨fun _ => ?_, fun _ => ?_⟩ <;> first | (exfalso; omega) | (conv => whnf)) | (refine ⟨by omega, ?_⟩; conv => whnf) | (intro _; conv => whnf))))
    refine t_X4_isWithin (by omega) hw0 (by omega) (by omega) (fun q2 => ?_) (fun q => ?_)
    · ((conv => whnf); (repeat' (first | (refine ⟨fun _ => ?_, fun _ => ?_⟩ <;> first | (exfalso; omega) | (conv => whnf)) | (refine ⟨by omega, ?_⟩; conv => whnf) | (intro _; conv => whnf))))
      refine t_X2_hasCount (by omega) rfl hw hr (fun ρ fo ro t12 lt b0 => ?_) (fun ρ fo ro no => ?_)
      · have cr := ClassR_R ⟨rfl, hw, hh, htx, hr⟩ fo ro
        have bs := Bst_o hw ((RecOk_B ro t12).2.2 lt)
        have Y := hyes ⟨q1, q2⟩ ⟨_, (Mn_L b0 lt).1⟩ _ _ _ bs ρ cr.1 cr.2
        by_cases c : w = 0
        · rw [if_pos c] at Y
          ((conv => whnf); (repeat' (first | (refine ⟨fun _ => ?_, fun _ => ?_⟩ <;> first | (exfalso; omega) | (conv => whnf)) | (refine ⟨by omega, ?_⟩; conv => whnf) | (intro _; conv => whnf))))
          exact Y
        · rw [if_neg c] at Y
          ((conv => whnf); (repeat' (first | (refine ⟨fun _ => ?_, fun _ => ?_⟩ <;> first | (exfalso; omega) | (conv => whnf)) | (refine ⟨by omega, ?_⟩; conv => whnf) | (intro _; conv => whnf))))
          exact Y
      · have cr := ClassR_R ⟨rfl, hw, hh, htx, hr⟩ fo ro
        ((conv => whnf); (repeat' (first | (refine ⟨fun _ => ?_, fun _ => ?_⟩ <;> first | (exfalso; omega) | (conv => whnf)) | (refine ⟨by omega, ?_⟩; conv => whnf) | (intro _; conv => whnf))))
        exact hno ⟨q1, q2⟩ no ρ cr.1 cr.2
    · ((conv => whnf); (repeat' (first | (refine ⟨fun _ => ?_, fun _ => ?_⟩ <;> first | (exfalso; omega) | (conv => whnf)) | (refine ⟨by omega, ?_⟩; conv => whnf) | (intro _; conv => whnf))))
      exact hbad (fun e => q e.2)
  · ((conv => whnf); (repeat' (first | (refine ⟨fun _ => ?_, fun _ => ?_⟩ <;> first | (exfalso; omega) | (conv => whnf)) | (refine ⟨by omega, ?_⟩; conv => whnf) | (intro _; conv => whnf))))
    exact hbad (fun e => q e.1)
theorem t_X4_age {d : Nat} (hd : 6 ≤ d) {σ : Sto} {Q : Post} {K : KV} {h : Int} {HK : Int → KV} {tl : Int} {tx : Int → Int} {i : Int} (hC : ClassR σ K h HK tl tx) (hi : inR i) (hbad : ¬ (0 ≤ i ∧ i ≤ K 7 0) → Q (some (.inl (-1))) σ) (hno : (0 ≤ i ∧ i ≤ K 7 0) → (∀ c, ¬ CS K c) → ∀ σ', ClassR σ' K h HK tl tx → frC σ σ' → Q (some (.inl (-4))) σ') (hyes : (0 ≤ i ∧ i ≤ K 7 0) → (∃ c, CS K c) → ∀ A O G, Bst K (acK K) 600 A O G → ∀ σ', ClassR σ' K h HK tl tx → frC σ σ' → Q (some (.inl (A i))) σ') : WPd d m_X4_age [.inr (0, 0), .inl i] σ Q := by
  obtain ⟨d, rfl⟩ : ∃ k, d = k + 1 := ⟨d - 1, by omega⟩
  intro P hP
  obtain ⟨rfl, hw, hh, htx, hr⟩ := hC
  have hn := hw.1
  rw [vw_n] at hn hbad hno hyes
  (refine go (t := tb_X4_age) (WPd_mono d) hP 60 [] ?_; (conv => whnf); (repeat' (first | (refine ⟨fun _ => ?_, fun _ => ?_⟩ <;> first | (exfalso; omega) | (conv => whnf)) | (refine ⟨by omega, ?_⟩; conv => whnf) | (intro _; conv => whnf))))
  refine t_X4_isPlace (by omega) hi hn (fun q1 => ?_) (fun q => ?_)
  · ((conv => whnf); (repeat' (first | (refine ⟨fun _ => ?_, fun _ => ?_⟩ <;> first | (exfalso; omega) | (conv => whnf)) | (refine ⟨by omega, ?_⟩; conv => whnf) | (intro _; conv => whnf))))
    refine t_X2_hasCount (by omega) rfl hw hr (fun ρ fo ro t12 lt b0 => ?_) (fun ρ fo ro no => ?_)
    · have cr := ClassR_R ⟨rfl, hw, hh, htx, hr⟩ fo ro
      have bs := Bst_o hw ((RecOk_B ro t12).2.2 lt)
      ((conv => whnf); (repeat' (first | (refine ⟨fun _ => ?_, fun _ => ?_⟩ <;> first | (exfalso; omega) | (conv => whnf)) | (refine ⟨by omega, ?_⟩; conv => whnf) | (intro _; conv => whnf))))
      exact hyes q1 ⟨_, (Mn_L b0 lt).1⟩ _ _ _ bs ρ cr.1 cr.2
    · have cr := ClassR_R ⟨rfl, hw, hh, htx, hr⟩ fo ro
      ((conv => whnf); (repeat' (first | (refine ⟨fun _ => ?_, fun _ => ?_⟩ <;> first | (exfalso; omega) | (conv => whnf)) | (refine ⟨by omega, ?_⟩; conv => whnf) | (intro _; conv => whnf))))
      exact hno q1 no ρ cr.1 cr.2
  · ((conv => whnf); (repeat' (first | (refine ⟨fun _ => ?_, fun _ => ?_⟩ <;> first | (exfalso; omega) | (conv => whnf)) | (refine ⟨by omega, ?_⟩; conv => whnf) | (intro _; conv => whnf))))
    exact hbad q
theorem t_X2_offsetOf {d : Nat} (hd : 1 ≤ d) {σ : Sto} {Q : Post} {x : Int} (hx : 0 ≤ x ∧ x < 6) (hp : 0 ≤ σ 20 0 x ∧ σ 20 0 x < 51) (h : Q (some (.inl (σ 15 0 (σ 20 0 x) - σ 21 0 x))) σ) : WPd d m_X2_offsetOf [.inr (3, 0), .inl x] σ Q := by
  obtain ⟨d, rfl⟩ : ∃ k, d = k + 1 := ⟨d - 1, by omega⟩
  intro P hP
  (refine go (t := tb_X2_offsetOf) (WPd_mono d) hP 60 [] ?_; (conv => whnf); (repeat' (first | (refine ⟨fun _ => ?_, fun _ => ?_⟩ <;> first | (exfalso; omega) | (conv => whnf)) | (refine ⟨by omega, ?_⟩; conv => whnf) | (intro _; conv => whnf))))
  exact h
theorem t_X4_offset {d : Nat} (hd : 6 ≤ d) {σ : Sto} {Q : Post} {K : KV} {h : Int} {HK : Int → KV} {tl : Int} {tx : Int → Int} {x : Int} (hC : ClassR σ K h HK tl tx) (hx : inR x) (hbad : ¬ (0 ≤ x ∧ x < K 7 1) → Q (some (.inl (-1))) σ) (hno : (0 ≤ x ∧ x < K 7 1) → (∀ c, ¬ CS K c) → ∀ σ', ClassR σ' K h HK tl tx → frC σ σ' → Q (some (.inl (-4))) σ') (hyes : (0 ≤ x ∧ x < K 7 1) → (∃ c, CS K c) → ∀ A O G, Bst K (acK K) 600 A O G → ∀ σ', ClassR σ' K h HK tl tx → frC σ σ' → Q (some (.inl (100 + (A (K 3 x) - K 4 x)))) σ') : WPd d m_X4_offset [.inr (0, 0), .inl x] σ Q := by
  obtain ⟨d, rfl⟩ : ∃ k, d = k + 1 := ⟨d - 1, by omega⟩
  intro P hP
  obtain ⟨rfl, hw, hh, htx, hr⟩ := hC
  have hn := hw.2.1
  have hn0 := hw.1
  rw [vw_a] at hn hbad hno hyes
  rw [vw_n] at hn0
  (refine go (t := tb_X4_offset) (WPd_mono d) hP 60 [] ?_; (conv => whnf); (repeat' (first | (refine ⟨fun _ => ?_, fun _ => ?_⟩ <;> first | (exfalso; omega) | (conv => whnf)) | (refine ⟨by omega, ?_⟩; conv => whnf) | (intro _; conv => whnf))))
  refine t_X4_isAsh (by omega) hx hn (fun q1 => ?_) (fun q => ?_)
  · ((conv => whnf); (repeat' (first | (refine ⟨fun _ => ?_, fun _ => ?_⟩ <;> first | (exfalso; omega) | (conv => whnf)) | (refine ⟨by omega, ?_⟩; conv => whnf) | (intro _; conv => whnf))))
    refine t_X2_hasCount (by omega) rfl hw hr (fun ρ fo ro t12 lt b0 => ?_) (fun ρ fo ro no => ?_)
    · have cr := ClassR_R ⟨rfl, hw, hh, htx, hr⟩ fo ro
      have bs := Bst_o hw ((RecOk_B ro t12).2.2 lt)
      have pb := (hw.2.2.2.1 x q1.1 q1.2).1
      obtain ⟨v0, v1, v2⟩ := (vw_in (σ := σ) (c := 0)).2.1 q1.1 q1.2
      have e20 : ρ 20 0 = σ 20 0 := fo 20 0 (by decide) (by decide) (by decide) (by decide)
      have e21 : ρ 21 0 = σ 21 0 := fo 21 0 (by decide) (by decide) (by decide) (by decide)
      rw [v0, vw_n] at pb
      ((conv => whnf); (repeat' (first | (refine ⟨fun _ => ?_, fun _ => ?_⟩ <;> first | (exfalso; omega) | (conv => whnf)) | (refine ⟨by omega, ?_⟩; conv => whnf) | (intro _; conv => whnf))))
      refine t_X2_offsetOf (by omega) (by omega) (by rw [e20]; omega) ?_
      ((conv => whnf); (repeat' (first | (refine ⟨fun _ => ?_, fun _ => ?_⟩ <;> first | (exfalso; omega) | (conv => whnf)) | (refine ⟨by omega, ?_⟩; conv => whnf) | (intro _; conv => whnf))))
      have Y := hyes q1 ⟨_, (Mn_L b0 lt).1⟩ _ _ _ bs ρ cr.1 cr.2
      rw [v0, v1] at Y
      rw [e20, e21]
      exact Y
    · have cr := ClassR_R ⟨rfl, hw, hh, htx, hr⟩ fo ro
      ((conv => whnf); (repeat' (first | (refine ⟨fun _ => ?_, fun _ => ?_⟩ <;> first | (exfalso; omega) | (conv => whnf)) | (refine ⟨by omega, ?_⟩; conv => whnf) | (intro _; conv => whnf))))
      exact hno q1 no ρ cr.1 cr.2
  · ((conv => whnf); (repeat' (first | (refine ⟨fun _ => ?_, fun _ => ?_⟩ <;> first | (exfalso; omega) | (conv => whnf)) | (refine ⟨by omega, ?_⟩; conv => whnf) | (intro _; conv => whnf))))
    exact hbad q
theorem t_X2_layersWith {d : Nat} (hd : 1 ≤ d) {σ : Sto} {Q : Post} {w o : Int} (hw : inR w) (ho : inR o) (hn : 0 ≤ σ 16 0 7 ∧ σ 16 0 7 ≤ 50) (hof : ∀ i, 0 ≤ i → i < σ 16 0 7 → (σ 13 0 i = o → σ 18 0 i = w)) (h : Q (some (.inl (cntF (σ 13 0) o (σ 16 0 7).toNat 0))) σ) : WPd d m_X2_layersWith [.inr (3, 0), .inl w, .inl o] σ Q := by
  obtain ⟨d, rfl⟩ : ∃ k, d = k + 1 := ⟨d - 1, by omega⟩
  intro P hP
  have L : ∀ (n : Nat) (s i : Int), n = (σ 16 0 7 - i).toNat → 0 ≤ i → i ≤ σ 16 0 7 → Q (some (.inl (s + cntF (σ 13 0) o n i))) σ → P 5 [.inr (3, 0), .inl w, .inl o, .inl s, .inl i] [] σ := by
    intro n
    induction n with
    | zero =>
      intro s i hn0 h0 h1 hq
      (refine go (t := tb_X2_layersWith) (WPd_mono d) hP 60 [5] ?_; (conv => whnf); (repeat' (first | (refine ⟨fun _ => ?_, fun _ => ?_⟩ <;> first | (exfalso; omega) | (conv => whnf)) | (refine ⟨by omega, ?_⟩; conv => whnf) | (intro _; conv => whnf))))
      rwa [cntF, Int.add_zero] at hq
    | succ n ih =>
      intro s i hn0 h0 h1 hq
      have hi := hof i h0 (by omega)
      (refine go (t := tb_X2_layersWith) (WPd_mono d) hP 60 [5] ?_; (conv => whnf); (repeat' (first | (refine ⟨fun _ => ?_, fun _ => ?_⟩ <;> first | (exfalso; omega) | (conv => whnf)) | (refine ⟨by omega, ?_⟩; conv => whnf) | (intro _; conv => whnf))))
      · exact ih _ (i + 1) (by omega) (by omega) (by omega) (by rwa [cntF, if_neg (by omega), Int.zero_add] at hq)
      · exact ih _ (i + 1) (by omega) (by omega) (by omega) (by rwa [cntF, if_neg (by omega), Int.zero_add] at hq)
      · exact ih _ (i + 1) (by omega) (by omega) (by omega) (by rwa [cntF, if_pos (by omega), ← Int.add_assoc] at hq)
  (refine go (t := tb_X2_layersWith) (WPd_mono d) hP 60 [5] ?_; (conv => whnf); (repeat' (first | (refine ⟨fun _ => ?_, fun _ => ?_⟩ <;> first | (exfalso; omega) | (conv => whnf)) | (refine ⟨by omega, ?_⟩; conv => whnf) | (intro _; conv => whnf))))
  exact L (σ 16 0 7).toNat 0 0 (by omega) (by omega) (by omega) (by rwa [Int.zero_add])
theorem t_X2_allMissing {d : Nat} (hd : 1 ≤ d) {σ : Sto} {Q : Post} (hn : 0 ≤ σ 16 0 7 ∧ σ 16 0 7 ≤ 50) (h : Q (some (.inl (sumF (σ 14 0) (σ 16 0 7).toNat 0))) σ) : WPd d m_X2_allMissing [.inr (3, 0)] σ Q := by
  obtain ⟨d, rfl⟩ : ∃ k, d = k + 1 := ⟨d - 1, by omega⟩
  intro P hP
  have L : ∀ (n : Nat) (s i : Int), n = (σ 16 0 7 - i).toNat → 0 ≤ i → i ≤ σ 16 0 7 → Q (some (.inl (s + sumF (σ 14 0) n i))) σ → P 4 [.inr (3, 0), .inl s, .inl i] [] σ := by
    intro n
    induction n with
    | zero =>
      intro s i hn0 h0 h1 hq
      (refine go (t := tb_X2_allMissing) (WPd_mono d) hP 60 [4] ?_; (conv => whnf); (repeat' (first | (refine ⟨fun _ => ?_, fun _ => ?_⟩ <;> first | (exfalso; omega) | (conv => whnf)) | (refine ⟨by omega, ?_⟩; conv => whnf) | (intro _; conv => whnf))))
      rwa [sumF, Int.add_zero] at hq
    | succ n ih =>
      intro s i hn0 h0 h1 hq
      (refine go (t := tb_X2_allMissing) (WPd_mono d) hP 60 [4] ?_; (conv => whnf); (repeat' (first | (refine ⟨fun _ => ?_, fun _ => ?_⟩ <;> first | (exfalso; omega) | (conv => whnf)) | (refine ⟨by omega, ?_⟩; conv => whnf) | (intro _; conv => whnf))))
      exact ih _ (i + 1) (by omega) (by omega) (by omega) (by rwa [sumF, ← Int.add_assoc] at hq)
  (refine go (t := tb_X2_allMissing) (WPd_mono d) hP 60 [4] ?_; (conv => whnf); (repeat' (first | (refine ⟨fun _ => ?_, fun _ => ?_⟩ <;> first | (exfalso; omega) | (conv => whnf)) | (refine ⟨by omega, ?_⟩; conv => whnf) | (intro _; conv => whnf))))
  exact L (σ 16 0 7).toNat 0 0 (by omega) (by omega) (by omega) (by rwa [Int.zero_add])
theorem t_X2_allOffsets {d : Nat} (hd : 2 ≤ d) {σ : Sto} {Q : Post} (hn : 0 ≤ σ 16 0 8 ∧ σ 16 0 8 ≤ 6) (hof : ∀ i, 0 ≤ i → i < σ 16 0 8 → (0 ≤ σ 20 0 i ∧ σ 20 0 i < 51) ∧ (0 ≤ σ 15 0 (σ 20 0 i) ∧ σ 15 0 (σ 20 0 i) ≤ 600) ∧ (0 ≤ σ 21 0 i ∧ σ 21 0 i ≤ 500)) (h : Q (some (.inl (sumF (fun i => dif (σ 15 0 (σ 20 0 i)) (σ 21 0 i)) (σ 16 0 8).toNat 0))) σ) : WPd d m_X2_allOffsets [.inr (3, 0)] σ Q := by
  obtain ⟨d, rfl⟩ : ∃ k, d = k + 1 := ⟨d - 1, by omega⟩
  intro P hP
  have L : ∀ (n : Nat) (s i : Int), n = (σ 16 0 8 - i).toNat → 0 ≤ i → i ≤ σ 16 0 8 → Q (some (.inl (s + sumF (fun i => dif (σ 15 0 (σ 20 0 i)) (σ 21 0 i)) n i))) σ → P 4 [.inr (3, 0), .inl s, .inl i] [] σ := by
    intro n
    induction n with
    | zero =>
      intro s i hn0 h0 h1 hq
      (refine go (t := tb_X2_allOffsets) (WPd_mono d) hP 60 [4] ?_; (conv => whnf); (repeat' (first | (refine ⟨fun _ => ?_, fun _ => ?_⟩ <;> first | (exfalso; omega) | (conv => whnf)) | (refine ⟨by omega, ?_⟩; conv => whnf) | (intro _; conv => whnf))))
      rwa [sumF, Int.add_zero] at hq
    | succ n ih =>
      intro s i hn0 h0 h1 hq
      have hi := hof i h0 (by omega)
      (refine go (t := tb_X2_allOffsets) (WPd_mono d) hP 60 [4] ?_; (conv => whnf); (repeat' (first | (refine ⟨fun _ => ?_, fun _ => ?_⟩ <;> first | (exfalso; omega) | (conv => whnf)) | (refine ⟨by omega, ?_⟩; conv => whnf) | (intro _; conv => whnf))))
      refine t_X2_offsetOf (by omega) (by omega) (by omega) ?_
      ((conv => whnf); (repeat' (first | (refine ⟨fun _ => ?_, fun _ => ?_⟩ <;> first | (exfalso; omega) | (conv => whnf)) | (refine ⟨by omega, ?_⟩; conv => whnf) | (intro _; conv => whnf))))
      exact ih _ (i + 1) (by omega) (by omega) (by omega) (by rwa [sumF, ← Int.add_assoc] at hq)
  (refine go (t := tb_X2_allOffsets) (WPd_mono d) hP 60 [4] ?_; (conv => whnf); (repeat' (first | (refine ⟨fun _ => ?_, fun _ => ?_⟩ <;> first | (exfalso; omega) | (conv => whnf)) | (refine ⟨by omega, ?_⟩; conv => whnf) | (intro _; conv => whnf))))
  exact L (σ 16 0 8).toNat 0 0 (by omega) (by omega) (by omega) (by rwa [Int.zero_add])
/-- what total says of a best count -/
def totA (K : KV) (A O G : Int → Int) (w : Int) : Int := if w = 0 then cntF O 0 (K 7 0).toNat 0 else if w = 1 then cntF O 2 (K 7 0).toNat 0 else if w = 2 then sumF G (K 7 0).toNat 0 else if w = 3 then sumF (fun i => dif (A (K 3 i)) (K 4 i)) (K 7 1).toNat 0 else A (K 7 0)
theorem t_X4_total {d : Nat} (hd : 6 ≤ d) {σ : Sto} {Q : Post} {K : KV} {h : Int} {HK : Int → KV} {tl : Int} {tx : Int → Int} {w : Int} (hC : ClassR σ K h HK tl tx) (hw0 : inR w) (hbad : ¬ (0 ≤ w ∧ w ≤ 4) → Q (some (.inl (-1))) σ) (hno : (0 ≤ w ∧ w ≤ 4) → (∀ c, ¬ CS K c) → ∀ σ', ClassR σ' K h HK tl tx → frC σ σ' → Q (some (.inl (-4))) σ') (hyes : (0 ≤ w ∧ w ≤ 4) → (∃ c, CS K c) → ∀ A O G, Bst K (acK K) 600 A O G → ∀ σ', ClassR σ' K h HK tl tx → frC σ σ' → Q (some (.inl (totA K A O G w))) σ') : WPd d m_X4_total [.inr (0, 0), .inl w] σ Q := by
  obtain ⟨d, rfl⟩ : ∃ k, d = k + 1 := ⟨d - 1, by omega⟩
  intro P hP
  obtain ⟨rfl, hw, hh, htx, hr⟩ := hC
  have hn := hw.2.1
  have hn0 := hw.1
  rw [vw_a] at hn
  rw [vw_n] at hn0
  (refine go (t := tb_X4_total) (WPd_mono d) hP 60 [] ?_; (conv => whnf); (repeat' (first | (refine ⟨fun _ => ?_, fun _ => ?_⟩ <;> first | (exfalso; omega) | (conv => whnf)) | (refine ⟨by omega, ?_⟩; conv => whnf) | (intro _; conv => whnf))))
  refine t_X4_isWithin (by omega) hw0 (by omega) (by omega) (fun q2 => ?_) (fun q => ?_)
  · ((conv => whnf); (repeat' (first | (refine ⟨fun _ => ?_, fun _ => ?_⟩ <;> first | (exfalso; omega) | (conv => whnf)) | (refine ⟨by omega, ?_⟩; conv => whnf) | (intro _; conv => whnf))))
    refine t_X2_hasCount (by omega) rfl hw hr (fun ρ fo ro t12 lt b0 => ?_) (fun ρ fo ro no => ?_)
    · have cr := ClassR_R ⟨rfl, hw, hh, htx, hr⟩ fo ro
      have bs := Bst_o hw ((RecOk_B ro t12).2.2 lt)
      have Y := hyes q2 ⟨_, (Mn_L b0 lt).1⟩ _ _ _ bs ρ cr.1 cr.2
      unfold totA at Y
      rw [vw_n, vw_a] at Y
      have eo : ∀ k, 16 ≤ k → k ≤ 23 → ρ k 0 = σ k 0 := fun k k0 k1 => fo k 0 (by omega) (by omega) (by omega) (by omega)
      have e16 := eo 16 (by decide) (by decide)
      have fin : ∀ i, 0 ≤ i → i < σ 16 0 7 → (lo (σ 18 0 i) ≤ ρ 13 0 i ∧ ρ 13 0 i ≤ hi (σ 18 0 i)) ∧ (0 ≤ σ 18 0 i ∧ σ 18 0 i ≤ 2) := fun i i0 i1 => by
        obtain ⟨v0, v1, v2⟩ := (vw_in (σ := σ) (c := 0)).1 i0 i1
        have a := (Bst_b hw bs i0).2 (by rw [vw_n]; exact i1)
        have b := (hw.2.2.1 i i0 (by rw [vw_n]; exact i1)).2.1
        rw [v1] at a b
        exact ⟨a.1, b⟩
      ((conv => whnf); (repeat' (first | (refine ⟨fun _ => ?_, fun _ => ?_⟩ <;> first | (exfalso; omega) | (conv => whnf)) | (refine ⟨by omega, ?_⟩; conv => whnf) | (intro _; conv => whnf))))
      refine ⟨fun q => ?_, ?_⟩
      · have q : w < 0 ∨ 4 ≤ w := q
        have e : w = 4 := by omega
        subst e
        ((conv => whnf); (repeat' (first | (refine ⟨fun _ => ?_, fun _ => ?_⟩ <;> first | (exfalso; omega) | (conv => whnf)) | (refine ⟨by omega, ?_⟩; conv => whnf) | (intro _; conv => whnf))))
        rw [e16]
        ((conv => whnf); (repeat' (first | (refine ⟨fun _ => ?_, fun _ => ?_⟩ <;> first | (exfalso; omega) | (conv => whnf)) | (refine ⟨by omega, ?_⟩; conv => whnf) | (intro _; conv => whnf))))
        exact Y
      · (conv => whnf)
        refine ⟨fun q => ?_, ?_⟩
        · subst q
          ((conv => whnf); (repeat' (first | (refine ⟨fun _ => ?_, fun _ => ?_⟩ <;> first | (exfalso; omega) | (conv => whnf)) | (refine ⟨by omega, ?_⟩; conv => whnf) | (intro _; conv => whnf))))
          refine t_X2_layersWith (by omega) (by omega) (by omega) (by rw [e16]; omega) (fun i i0 i1 => ?_) ?_
          · rw [e16] at i1
            rw [eo 18 (by decide) (by decide)]
            have a := fin i i0 i1
            unfold lo hi at a
            revert a
            (repeat' split) <;> omega
          · rw [e16]
            ((conv => whnf); (repeat' (first | (refine ⟨fun _ => ?_, fun _ => ?_⟩ <;> first | (exfalso; omega) | (conv => whnf)) | (refine ⟨by omega, ?_⟩; conv => whnf) | (intro _; conv => whnf))))
            exact Y
        · (conv => whnf)
          refine ⟨fun q => ?_, ?_⟩
          · have q : w = 1 := q
            subst q
            ((conv => whnf); (repeat' (first | (refine ⟨fun _ => ?_, fun _ => ?_⟩ <;> first | (exfalso; omega) | (conv => whnf)) | (refine ⟨by omega, ?_⟩; conv => whnf) | (intro _; conv => whnf))))
            refine t_X2_layersWith (by omega) (by omega) (by omega) (by rw [e16]; omega) (fun i i0 i1 => ?_) ?_
            · rw [e16] at i1
              rw [eo 18 (by decide) (by decide)]
              have a := fin i i0 i1
              unfold lo hi at a
              revert a
              (repeat' split) <;> omega
            · rw [e16]
              ((conv => whnf); (repeat' (first | (refine ⟨fun _ => ?_, fun _ => ?_⟩ <;> first | (exfalso; omega) | (conv => whnf)) | (refine ⟨by omega, ?_⟩; conv => whnf) | (intro _; conv => whnf))))
              exact Y
          · (conv => whnf)
            refine ⟨fun q => ?_, ?_⟩
            · have q : w = 2 := q
              subst q
              ((conv => whnf); (repeat' (first | (refine ⟨fun _ => ?_, fun _ => ?_⟩ <;> first | (exfalso; omega) | (conv => whnf)) | (refine ⟨by omega, ?_⟩; conv => whnf) | (intro _; conv => whnf))))
              refine t_X2_allMissing (by omega) (by rw [e16]; omega) ?_
              rw [e16]
              ((conv => whnf); (repeat' (first | (refine ⟨fun _ => ?_, fun _ => ?_⟩ <;> first | (exfalso; omega) | (conv => whnf)) | (refine ⟨by omega, ?_⟩; conv => whnf) | (intro _; conv => whnf))))
              exact Y
            · (conv => whnf)
              refine ⟨fun q => ?_, trivial⟩
              have q : w = 3 := q
              subst q
              ((conv => whnf); (repeat' (first | (refine ⟨fun _ => ?_, fun _ => ?_⟩ <;> first | (exfalso; omega) | (conv => whnf)) | (refine ⟨by omega, ?_⟩; conv => whnf) | (intro _; conv => whnf))))
              have xin : ∀ i, 0 ≤ i → i < σ 16 0 8 → (vwC σ 0 3 i = σ 20 0 i ∧ vwC σ 0 4 i = σ 21 0 i) ∧ ((0 ≤ σ 20 0 i ∧ σ 20 0 i < 51) ∧ (0 ≤ ρ 15 0 (σ 20 0 i) ∧ ρ 15 0 (σ 20 0 i) ≤ 600) ∧ (0 ≤ σ 21 0 i ∧ σ 21 0 i ≤ 500)) := fun i i0 i1 => by
                obtain ⟨v0, v1, v2⟩ := (vw_in (σ := σ) (c := 0)).2.1 i0 i1
                have a := hw.2.2.2.1 i i0 (by rw [vw_a]; exact i1)
                rw [v0, v1, vw_n] at a
                have b := (Bst_b hw bs (p := σ 20 0 i) (by omega)).1 (by rw [vw_n]; omega)
                exact ⟨⟨v0, v1⟩, by omega, b, by omega⟩
              refine t_X2_allOffsets (by omega) (by rw [e16]; omega) (fun i i0 i1 => ?_) ?_
              · rw [e16] at i1
                rw [eo 20 (by decide) (by decide), eo 21 (by decide) (by decide)]
                exact (xin i i0 i1).2
              · rw [e16, eo 20 (by decide) (by decide), eo 21 (by decide) (by decide)]
                ((conv => whnf); (repeat' (first | (refine ⟨fun _ => ?_, fun _ => ?_⟩ <;> first | (exfalso; omega) | (conv => whnf)) | (refine ⟨by omega, ?_⟩; conv => whnf) | (intro _; conv => whnf))))
                have sm : sumF (fun i => dif (ρ 15 0 (vwC σ 0 3 i)) (vwC σ 0 4 i)) (σ 16 0 8).toNat 0 = sumF (fun i => dif (ρ 15 0 (σ 20 0 i)) (σ 21 0 i)) (σ 16 0 8).toNat 0 := sumF_cg _ _ fun j j0 j1 => by
                  have a := (xin j j0 (by omega)).1
                  rw [a.1, a.2]
                rw [← sm]
                exact Y
    · have cr := ClassR_R ⟨rfl, hw, hh, htx, hr⟩ fo ro
      ((conv => whnf); (repeat' (first | (refine ⟨fun _ => ?_, fun _ => ?_⟩ <;> first | (exfalso; omega) | (conv => whnf)) | (refine ⟨by omega, ?_⟩; conv => whnf) | (intro _; conv => whnf))))
      exact hno q2 no ρ cr.1 cr.2
  · ((conv => whnf); (repeat' (first | (refine ⟨fun _ => ?_, fun _ => ?_⟩ <;> first | (exfalso; omega) | (conv => whnf)) | (refine ⟨by omega, ?_⟩; conv => whnf) | (intro _; conv => whnf))))
    exact hbad q
