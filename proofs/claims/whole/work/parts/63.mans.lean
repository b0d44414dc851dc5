/-! THE MODEL: cost, years, age, offset, total, without, costWith, widen -/
theorem t_X5_cost {d : Nat} (hd : 4 ≤ d) {σ : Sto} {Q : Post} {K : KV} {h : Int} {HK : Int → KV} {tl : Int} {tx : Int → Int} (hC : ModelR σ K h HK tl tx) (hno : (∀ c, ¬ CS K c) → ∀ σ', ModelR σ' K h HK tl tx → frM σ σ' → Q (some (.inl (-4))) σ') (hyes : ∀ v, isL (CS K) v → ∀ σ', ModelR σ' K h HK tl tx → frM σ σ' → Q (some (.inl v)) σ') : WPd d m_X5_cost [.inr (26, 0)] σ Q := by
  obtain ⟨d, rfl⟩ : ∃ k, d = k + 1 := ⟨d - 1, by omega⟩
  intro P hP
  (refine go (t := tb_X5_cost) (WPd_mono d) hP 60 [] ?_; (conv => whnf); (repeat' (first | (refine ⟨fun _ => ?_, fun _ => ?_⟩ <;> first | (exfalso; omega) | (conv => whnf)) | (refine ⟨by omega, ?_⟩; conv => whnf) | (intro _; conv => whnf))))
  refine t_X5_plain (by omega) ?_
  ((conv => whnf); (repeat' (first | (refine ⟨fun _ => ?_, fun _ => ?_⟩ <;> first | (exfalso; omega) | (conv => whnf)) | (refine ⟨by omega, ?_⟩; conv => whnf) | (intro _; conv => whnf))))
  refine t_X5_solvesP (K := K) (by omega) (show vwM (plS σ 27 0) = K by rw [plS_k (by decide)]; exact hC.1) hC.2.1 (plS_md σ) (fun ρ f0 ro b0 bb => ?_)
  have cr := ModelR_Q hC ((plS_o σ).tr (offQ.k (fun k i hk => f0 k i (by omega))))
  by_cases c : ρ 31 0 0 < 100000000
  · have X := hyes _ (Mn_L b0 c) ρ cr.1 cr.2
    ((conv => whnf); (repeat' (first | (refine ⟨fun _ => ?_, fun _ => ?_⟩ <;> first | (exfalso; omega) | (conv => whnf)) | (refine ⟨by omega, ?_⟩; conv => whnf) | (intro _; conv => whnf))))
    exact X
  · have X := hno (Mn_no b0 c) ρ cr.1 cr.2
    ((conv => whnf); (repeat' (first | (refine ⟨fun _ => ?_, fun _ => ?_⟩ <;> first | (exfalso; omega) | (conv => whnf)) | (refine ⟨by omega, ?_⟩; conv => whnf) | (intro _; conv => whnf))))
    exact X
theorem t_X5_years {d : Nat} (hd : 5 ≤ d) {σ : Sto} {Q : Post} {K : KV} {h : Int} {HK : Int → KV} {tl : Int} {tx : Int → Int} {i w : Int} (hC : ModelR σ K h HK tl tx) (hi : inR i) (hw0 : inR w) (hbad : ¬ ((0 ≤ i ∧ i < K 7 0) ∧ (0 ≤ w ∧ w ≤ 1)) → Q (some (.inl (-1))) σ) (hno : (0 ≤ i ∧ i < K 7 0) ∧ (0 ≤ w ∧ w ≤ 1) → (∀ c, ¬ CS K c) → ∀ σ', ModelR σ' K h HK tl tx → frM σ σ' → Q (some (.inl (-4))) σ') (hyes : (0 ≤ i ∧ i < K 7 0) ∧ (0 ≤ w ∧ w ≤ 1) → (∃ c, CS K c) → ∀ A O G, Bst K (acK K) 600 A O G → ∀ σ', ModelR σ' K h HK tl tx → frM σ σ' → Q (some (.inl (if w = 0 then O i else G i))) σ') : WPd d m_X5_years [.inr (26, 0), .inl i, .inl w] σ Q := by
  obtain ⟨d, rfl⟩ : ∃ k, d = k + 1 := ⟨d - 1, by omega⟩
  intro P hP
  obtain ⟨hK, hw, hh, htx⟩ := hC
  have hn := hw.1
  have n2 : σ 27 0 0 = K 7 0 := by rw [← hK, vm_n]
  (refine go (t := tb_X5_years) (WPd_mono d) hP 60 [] ?_; (conv => whnf); (repeat' (first | (refine ⟨fun _ => ?_, fun _ => ?_⟩ <;> first | (exfalso; omega) | (conv => whnf)) | (refine ⟨by omega, ?_⟩; conv => whnf) | (intro _; conv => whnf))))
  refine t_X5_isLayer (by omega) hi (by omega) (fun q1 => ?_) (fun q => ?_)
  · ((conv => whnf); (repeat' (first | (refine ⟨fun _ => ?_, fun _ => ?_⟩ <;> first | (exfalso; omega) | (conv => whnf)) | (refine ⟨by omega, ?_⟩; conv => whnf) | (intro _; conv => whnf))))
    refine t_X5_in (by omega) hw0 (by omega) (by omega) (fun q2 => ?_) (fun q => ?_)
    · have cd : (0 ≤ i ∧ i < K 7 0) ∧ (0 ≤ w ∧ w ≤ 1) := by omega
      ((conv => whnf); (repeat' (first | (refine ⟨fun _ => ?_, fun _ => ?_⟩ <;> first | (exfalso; omega) | (conv => whnf)) | (refine ⟨by omega, ?_⟩; conv => whnf) | (intro _; conv => whnf))))
      refine t_X5_counts (by omega) hK hw (fun no ρ fo => ?_) (fun ex ρ fo bs => ?_)
      · have cr := ModelR_Q ⟨hK, hw, hh, htx⟩ fo
        ((conv => whnf); (repeat' (first | (refine ⟨fun _ => ?_, fun _ => ?_⟩ <;> first | (exfalso; omega) | (conv => whnf)) | (refine ⟨by omega, ?_⟩; conv => whnf) | (intro _; conv => whnf))))
        exact hno cd no ρ cr.1 cr.2
      · have cr := ModelR_Q ⟨hK, hw, hh, htx⟩ fo
        have Y := hyes cd ex _ _ _ bs ρ cr.1 cr.2
        by_cases c : w = 0
        · rw [if_pos c] at Y
          ((conv => whnf); (repeat' (first | (refine ⟨fun _ => ?_, fun _ => ?_⟩ <;> first | (exfalso; omega) | (conv => whnf)) | (refine ⟨by omega, ?_⟩; conv => whnf) | (intro _; conv => whnf))))
          exact Y
        · rw [if_neg c] at Y
          ((conv => whnf); (repeat' (first | (refine ⟨fun _ => ?_, fun _ => ?_⟩ <;> first | (exfalso; omega) | (conv => whnf)) | (refine ⟨by omega, ?_⟩; conv => whnf) | (intro _; conv => whnf))))
          exact Y
    · ((conv => whnf); (repeat' (first | (refine ⟨fun _ => ?_, fun _ => ?_⟩ <;> first | (exfalso; omega) | (conv => whnf)) | (refine ⟨by omega, ?_⟩; conv => whnf) | (intro _; conv => whnf))))
      exact hbad (fun e => q e.2)
  · ((conv => whnf); (repeat' (first | (refine ⟨fun _ => ?_, fun _ => ?_⟩ <;> first | (exfalso; omega) | (conv => whnf)) | (refine ⟨by omega, ?_⟩; conv => whnf) | (intro _; conv => whnf))))
    exact hbad (fun e => q (by omega))
theorem t_X5_age {d : Nat} (hd : 5 ≤ d) {σ : Sto} {Q : Post} {K : KV} {h : Int} {HK : Int → KV} {tl : Int} {tx : Int → Int} {i : Int} (hC : ModelR σ K h HK tl tx) (hi : inR i) (hbad : ¬ (0 ≤ i ∧ i ≤ K 7 0) → Q (some (.inl (-1))) σ) (hno : (0 ≤ i ∧ i ≤ K 7 0) → (∀ c, ¬ CS K c) → ∀ σ', ModelR σ' K h HK tl tx → frM σ σ' → Q (some (.inl (-4))) σ') (hyes : (0 ≤ i ∧ i ≤ K 7 0) → (∃ c, CS K c) → ∀ A O G, Bst K (acK K) 600 A O G → ∀ σ', ModelR σ' K h HK tl tx → frM σ σ' → Q (some (.inl (A i))) σ') : WPd d m_X5_age [.inr (26, 0), .inl i] σ Q := by
  obtain ⟨d, rfl⟩ : ∃ k, d = k + 1 := ⟨d - 1, by omega⟩
  intro P hP
  obtain ⟨hK, hw, hh, htx⟩ := hC
  have hn := hw.1
  have n2 : σ 27 0 0 = K 7 0 := by rw [← hK, vm_n]
  (refine go (t := tb_X5_age) (WPd_mono d) hP 60 [] ?_; (conv => whnf); (repeat' (first | (refine ⟨fun _ => ?_, fun _ => ?_⟩ <;> first | (exfalso; omega) | (conv => whnf)) | (refine ⟨by omega, ?_⟩; conv => whnf) | (intro _; conv => whnf))))
  refine t_X5_isPlace (by omega) hi (by omega) (fun q1 => ?_) (fun q => ?_)
  · have cd : (0 ≤ i ∧ i ≤ K 7 0) := by omega
    ((conv => whnf); (repeat' (first | (refine ⟨fun _ => ?_, fun _ => ?_⟩ <;> first | (exfalso; omega) | (conv => whnf)) | (refine ⟨by omega, ?_⟩; conv => whnf) | (intro _; conv => whnf))))
    refine t_X5_counts (by omega) hK hw (fun no ρ fo => ?_) (fun ex ρ fo bs => ?_)
    · have cr := ModelR_Q ⟨hK, hw, hh, htx⟩ fo
      ((conv => whnf); (repeat' (first | (refine ⟨fun _ => ?_, fun _ => ?_⟩ <;> first | (exfalso; omega) | (conv => whnf)) | (refine ⟨by omega, ?_⟩; conv => whnf) | (intro _; conv => whnf))))
      exact hno cd no ρ cr.1 cr.2
    · have cr := ModelR_Q ⟨hK, hw, hh, htx⟩ fo
      have Y := hyes cd ex _ _ _ bs ρ cr.1 cr.2
      ((conv => whnf); (repeat' (first | (refine ⟨fun _ => ?_, fun _ => ?_⟩ <;> first | (exfalso; omega) | (conv => whnf)) | (refine ⟨by omega, ?_⟩; conv => whnf) | (intro _; conv => whnf))))
      exact Y
  · ((conv => whnf); (repeat' (first | (refine ⟨fun _ => ?_, fun _ => ?_⟩ <;> first | (exfalso; omega) | (conv => whnf)) | (refine ⟨by omega, ?_⟩; conv => whnf) | (intro _; conv => whnf))))
    exact hbad (fun e => q (by omega))
theorem t_X5_offset {d : Nat} (hd : 5 ≤ d) {σ : Sto} {Q : Post} {K : KV} {h : Int} {HK : Int → KV} {tl : Int} {tx : Int → Int} {x : Int} (hC : ModelR σ K h HK tl tx) (hx : inR x) (hbad : ¬ (0 ≤ x ∧ x < K 7 1) → Q (some (.inl (-1))) σ) (hno : (0 ≤ x ∧ x < K 7 1) → (∀ c, ¬ CS K c) → ∀ σ', ModelR σ' K h HK tl tx → frM σ σ' → Q (some (.inl (-4))) σ') (hyes : (0 ≤ x ∧ x < K 7 1) → (∃ c, CS K c) → ∀ A O G, Bst K (acK K) 600 A O G → ∀ σ', ModelR σ' K h HK tl tx → frM σ σ' → Q (some (.inl (100 + (A (K 3 x) - K 4 x)))) σ') : WPd d m_X5_offset [.inr (26, 0), .inl x] σ Q := by
  obtain ⟨d, rfl⟩ : ∃ k, d = k + 1 := ⟨d - 1, by omega⟩
  intro P hP
  obtain ⟨hK, hw, hh, htx⟩ := hC
  have hn := hw.1
  have hm := hw.2.1
  have n2 : σ 27 0 0 = K 7 0 := by rw [← hK, vm_n]
  have a2 : σ 27 0 151 = K 7 1 := by rw [← hK, vm_a]
  (refine go (t := tb_X5_offset) (WPd_mono d) hP 60 [] ?_; (conv => whnf); (repeat' (first | (refine ⟨fun _ => ?_, fun _ => ?_⟩ <;> first | (exfalso; omega) | (conv => whnf)) | (refine ⟨by omega, ?_⟩; conv => whnf) | (intro _; conv => whnf))))
  refine t_X5_isAsh (by omega) hx (by omega) (fun q1 => ?_) (fun q => ?_)
  · have cd : (0 ≤ x ∧ x < K 7 1) := by omega
    obtain ⟨v0, v1, v2⟩ := (vm_in (f := σ 27 0)).2.1 cd.1 (by omega)
    rw [hK] at v0 v1
    have u := hw.2.2.2.1 x cd.1 cd.2
    ((conv => whnf); (repeat' (first | (refine ⟨fun _ => ?_, fun _ => ?_⟩ <;> first | (exfalso; omega) | (conv => whnf)) | (refine ⟨by omega, ?_⟩; conv => whnf) | (intro _; conv => whnf))))
    refine t_X5_counts (by omega) hK hw (fun no ρ fo => ?_) (fun ex ρ fo bs => ?_)
    · have cr := ModelR_Q ⟨hK, hw, hh, htx⟩ fo
      ((conv => whnf); (repeat' (first | (refine ⟨fun _ => ?_, fun _ => ?_⟩ <;> first | (exfalso; omega) | (conv => whnf)) | (refine ⟨by omega, ?_⟩; conv => whnf) | (intro _; conv => whnf))))
      exact hno cd no ρ cr.1 cr.2
    · have cr := ModelR_Q ⟨hK, hw, hh, htx⟩ fo
      have Y := hyes cd ex _ _ _ bs ρ cr.1 cr.2
      have e27 : ρ 27 0 = σ 27 0 := fo.1 27 0 (by decide) (by decide)
      have p1 : ρ 27 0 (152 + x) = K 3 x := by rw [e27]; exact v0.symm
      have p2 : ρ 27 0 (158 + x) = K 4 x := by rw [e27]; exact v1.symm
      ((conv => whnf); (repeat' (first | (refine ⟨fun _ => ?_, fun _ => ?_⟩ <;> first | (exfalso; omega) | (conv => whnf)) | (refine ⟨by omega, ?_⟩; conv => whnf) | (intro _; conv => whnf))))
      rw [p1, p2, show 100 + ρ 35 0 (K 3 x) - K 4 x = 100 + (ρ 35 0 (K 3 x) - K 4 x) by omega]
      exact Y
  · ((conv => whnf); (repeat' (first | (refine ⟨fun _ => ?_, fun _ => ?_⟩ <;> first | (exfalso; omega) | (conv => whnf)) | (refine ⟨by omega, ?_⟩; conv => whnf) | (intro _; conv => whnf))))
    exact hbad (fun e => q (by omega))
theorem t_X5_total {d : Nat} (hd : 5 ≤ d) {σ : Sto} {Q : Post} {K : KV} {h : Int} {HK : Int → KV} {tl : Int} {tx : Int → Int} {w : Int} (hC : ModelR σ K h HK tl tx) (hw0 : inR w) (hbad : ¬ (0 ≤ w ∧ w ≤ 4) → Q (some (.inl (-1))) σ) (hno : (0 ≤ w ∧ w ≤ 4) → (∀ c, ¬ CS K c) → ∀ σ', ModelR σ' K h HK tl tx → frM σ σ' → Q (some (.inl (-4))) σ') (hyes : (0 ≤ w ∧ w ≤ 4) → (∃ c, CS K c) → ∀ A O G, Bst K (acK K) 600 A O G → ∀ σ', ModelR σ' K h HK tl tx → frM σ σ' → Q (some (.inl (totA K A O G w))) σ') : WPd d m_X5_total [.inr (26, 0), .inl w] σ Q := by
  obtain ⟨d, rfl⟩ : ∃ k, d = k + 1 := ⟨d - 1, by omega⟩
  refine wpd_of fun P hT hP => ?_
  obtain ⟨hK, hw, hh, htx⟩ := hC
  have hn := hw.1
  have hm := hw.2.1
  have n2 : σ 27 0 0 = K 7 0 := by rw [← hK, vm_n]
  have a2 : σ 27 0 151 = K 7 1 := by rw [← hK, vm_a]
  (refine go (t := tb_X5_total) (WPd_mono d) hP 60 [25, 105, 172] ?_; (conv => whnf); (repeat' (first | (refine ⟨fun _ => ?_, fun _ => ?_⟩ <;> first | (exfalso; omega) | (conv => whnf)) | (refine ⟨by omega, ?_⟩; conv => whnf) | (intro _; conv => whnf))))
  refine t_X5_in (by omega) hw0 (by omega) (by omega) (fun q2 => ?_) (fun q => ?_)
  · ((conv => whnf); (repeat' (first | (refine ⟨fun _ => ?_, fun _ => ?_⟩ <;> first | (exfalso; omega) | (conv => whnf)) | (refine ⟨by omega, ?_⟩; conv => whnf) | (intro _; conv => whnf))))
    refine t_X5_counts (by omega) hK hw (fun no ρ fo => ?_) (fun ex ρ fo bs => ?_)
    · have cr := ModelR_Q ⟨hK, hw, hh, htx⟩ fo
      ((conv => whnf); (repeat' (first | (refine ⟨fun _ => ?_, fun _ => ?_⟩ <;> first | (exfalso; omega) | (conv => whnf)) | (refine ⟨by omega, ?_⟩; conv => whnf) | (intro _; conv => whnf))))
      exact hno q2 no ρ cr.1 cr.2
    · have cr := ModelR_Q ⟨hK, hw, hh, htx⟩ fo
      have Y := hyes q2 ex _ _ _ bs ρ cr.1 cr.2
      have e27 : ρ 27 0 = σ 27 0 := fo.1 27 0 (by decide) (by decide)
      have e0 : ρ 27 0 0 = K 7 0 := by rw [e27]; exact n2
      have e151 : ρ 27 0 151 = K 7 1 := by rw [e27]; exact a2
      obtain ⟨A, eA⟩ : ∃ A, ρ 35 0 = A := ⟨_, rfl⟩
      obtain ⟨O, eO⟩ : ∃ O, ρ 33 0 = O := ⟨_, rfl⟩
      obtain ⟨G, eG⟩ : ∃ G, ρ 34 0 = G := ⟨_, rfl⟩
      have T172 : ∀ s i, (w ≠ 4 → s = totA K A O G w) → P 172 [.inr (26, 0), .inl w, .inl s, .inl i] [] ρ := by
        intro s i hs
        rw [eA, eO, eG] at Y
        by_cases c : w = 4
        · have ya : totA K A O G w = A (K 7 0) := by
            unfold totA
            rw [c]
            rfl
          rw [ya] at Y
          (refine go (t := tb_X5_total) (WPd_mono d) hP 60 [25, 105, 172] ?_; (conv => whnf); (repeat' (first | (refine ⟨fun _ => ?_, fun _ => ?_⟩ <;> first | (exfalso; omega) | (conv => whnf)) | (refine ⟨by omega, ?_⟩; conv => whnf) | (intro _; conv => whnf))))
          rw [e0, eA]
          exact Y
        · rw [← hs c] at Y
          (refine go (t := tb_X5_total) (WPd_mono d) hP 60 [25, 105, 172] ?_; (conv => whnf); (repeat' (first | (refine ⟨fun _ => ?_, fun _ => ?_⟩ <;> first | (exfalso; omega) | (conv => whnf)) | (refine ⟨by omega, ?_⟩; conv => whnf) | (intro _; conv => whnf))))
          exact Y
      have L105 : ∀ (n : Nat) (s i : Int), w = 3 → n = (K 7 1 - i).toNat → 0 ≤ i → i ≤ K 7 1 → s + sumF (fun i => dif (A (K 3 i)) (K 4 i)) n i = totA K A O G w → P 105 [.inr (26, 0), .inl w, .inl s, .inl i] [] ρ := by
        intro n
        induction n with
        | zero =>
          intro s i hw3 hn0 i0 i1 hs
          have X := T172 s i (fun _ => by
            rw [← hs]
            unfold sumF
            omega)
          (refine go (t := tb_X5_total) (WPd_mono d) hP 60 [25, 105, 172] ?_; (conv => whnf); (repeat' (first | (refine ⟨fun _ => ?_, fun _ => ?_⟩ <;> first | (exfalso; omega) | (conv => whnf)) | (refine ⟨by omega, ?_⟩; conv => whnf) | (intro _; conv => whnf))))
          exact X
        | succ n ih =>
          intro s i hw3 hn0 i0 i1 hs
          obtain ⟨v0, v1, v2⟩ := (vm_in (f := σ 27 0)).2.1 i0 (by omega)
          rw [hK] at v0 v1
          have u := hw.2.2.2.1 i i0 (by omega)
          have p1 : ρ 27 0 (152 + i) = K 3 i := by rw [e27]; exact v0.symm
          have p2 : ρ 27 0 (158 + i) = K 4 i := by rw [e27]; exact v1.symm
          have bA := (Bst_b hw bs (p := K 3 i) (by omega)).1 (by omega)
          rw [eA] at bA
          have X := ih (s + dif (A (K 3 i)) (K 4 i)) (i + 1) hw3 (by omega) (by omega) (by omega) (by
            rw [← hs]
            show _ = s + (dif (A (K 3 i)) (K 4 i) + sumF (fun i => dif (A (K 3 i)) (K 4 i)) n (i + 1))
            omega)
          have ea : ρ 35 0 (K 3 i) = A (K 3 i) := by rw [eA]
          by_cases c : A (K 3 i) - K 4 i < 0
          · rw [show dif (A (K 3 i)) (K 4 i) = -(A (K 3 i) - K 4 i) by unfold dif; omega] at X
            (refine go (t := tb_X5_total) (WPd_mono d) hP 60 [25, 105, 172] ?_; (conv => whnf); (repeat' (first | (refine ⟨fun _ => ?_, fun _ => ?_⟩ <;> first | (exfalso; omega) | (conv => whnf)) | (refine ⟨by omega, ?_⟩; conv => whnf) | (intro _; conv => whnf))))
            rw [p1, p2, ea]
            ((conv => whnf); (repeat' (first | (refine ⟨fun _ => ?_, fun _ => ?_⟩ <;> first | (exfalso; omega) | (conv => whnf)) | (refine ⟨by omega, ?_⟩; conv => whnf) | (intro _; conv => whnf))))
            (refine hT 4 ?_; exact X)
          · rw [show dif (A (K 3 i)) (K 4 i) = A (K 3 i) - K 4 i by unfold dif; omega] at X
            (refine go (t := tb_X5_total) (WPd_mono d) hP 60 [25, 105, 172] ?_; (conv => whnf); (repeat' (first | (refine ⟨fun _ => ?_, fun _ => ?_⟩ <;> first | (exfalso; omega) | (conv => whnf)) | (refine ⟨by omega, ?_⟩; conv => whnf) | (intro _; conv => whnf))))
            rw [p1, p2, ea]
            ((conv => whnf); (repeat' (first | (refine ⟨fun _ => ?_, fun _ => ?_⟩ <;> first | (exfalso; omega) | (conv => whnf)) | (refine ⟨by omega, ?_⟩; conv => whnf) | (intro _; conv => whnf))))
            (refine hT 4 ?_; exact X)
      have T103 : ∀ s i, (w ≠ 3 → w ≠ 4 → s = totA K A O G w) → (w = 3 → s = 0) → P 103 [.inr (26, 0), .inl w, .inl s, .inl i] [] ρ := by
        intro s i hs h3
        by_cases c : w = 3
        · have X := L105 _ s 0 c rfl (by omega) (by omega) (by
            rw [h3 c, Int.sub_zero, Int.zero_add]
            unfold totA
            rw [c]
            rfl)
          (refine go (t := tb_X5_total) (WPd_mono d) hP 60 [25, 105, 172] ?_; (conv => whnf); (repeat' (first | (refine ⟨fun _ => ?_, fun _ => ?_⟩ <;> first | (exfalso; omega) | (conv => whnf)) | (refine ⟨by omega, ?_⟩; conv => whnf) | (intro _; conv => whnf))))
          exact X
        · have X := T172 s 0 (fun h4 => hs c h4)
          have X2 : P 105 [.inr (26, 0), .inl w, .inl s, .inl 0] [] ρ := by
            by_cases c2 : 0 < K 7 1
            · (refine go (t := tb_X5_total) (WPd_mono d) hP 60 [25, 105, 172] ?_; (conv => whnf); (repeat' (first | (refine ⟨fun _ => ?_, fun _ => ?_⟩ <;> first | (exfalso; omega) | (conv => whnf)) | (refine ⟨by omega, ?_⟩; conv => whnf) | (intro _; conv => whnf))))
              exact X
            · (refine go (t := tb_X5_total) (WPd_mono d) hP 60 [25, 105, 172] ?_; (conv => whnf); (repeat' (first | (refine ⟨fun _ => ?_, fun _ => ?_⟩ <;> first | (exfalso; omega) | (conv => whnf)) | (refine ⟨by omega, ?_⟩; conv => whnf) | (intro _; conv => whnf))))
              exact X
          (refine go (t := tb_X5_total) (WPd_mono d) hP 60 [25, 105, 172] ?_; (conv => whnf); (repeat' (first | (refine ⟨fun _ => ?_, fun _ => ?_⟩ <;> first | (exfalso; omega) | (conv => whnf)) | (refine ⟨by omega, ?_⟩; conv => whnf) | (intro _; conv => whnf))))
          exact X2
      obtain ⟨f, ef⟩ : ∃ f : Int → Int, ∀ i, f i = if w = 0 then (if O i = 0 then 1 else 0) else if w = 1 then (if O i = 2 then 1 else 0) else if w = 2 then G i else 0 := ⟨_, fun _ => rfl⟩
      have L25 : ∀ (n : Nat) (s i : Int), n = (K 7 0 - i).toNat → 0 ≤ i → i ≤ K 7 0 → (w ≠ 3 → w ≠ 4 → s + sumF f n i = totA K A O G w) → (w = 3 → s = 0) → P 25 [.inr (26, 0), .inl w, .inl s, .inl i] [] ρ := by
        intro n
        induction n with
        | zero =>
          intro s i hn0 i0 i1 hs h3
          have X := T103 s i (fun a b => by
            have := hs a b
            unfold sumF at this
            omega) h3
          (refine go (t := tb_X5_total) (WPd_mono d) hP 60 [25, 103, 105, 172] ?_; (conv => whnf); (repeat' (first | (refine ⟨fun _ => ?_, fun _ => ?_⟩ <;> first | (exfalso; omega) | (conv => whnf)) | (refine ⟨by omega, ?_⟩; conv => whnf) | (intro _; conv => whnf))))
          exact X
        | succ n ih =>
          intro s i hn0 i0 i1 hs h3
          have X := ih (s + f i) (i + 1) (by omega) (by omega) (by omega) (fun a b => by
            have q := hs a b
            rw [show sumF f (n + 1) i = f i + sumF f n (i + 1) from rfl] at q
            omega) (fun c => by
            have q := h3 c
            have fi := ef i
            rw [if_neg (by omega), if_neg (by omega), if_neg (by omega)] at fi
            omega)
          have fi := ef i
          have eoi : ρ 33 0 i = O i := by rw [eO]
          have egi : ρ 34 0 i = G i := by rw [eG]
          by_cases c0 : w = 0
          · rw [if_pos c0] at fi
            by_cases c : O i = 0
            · rw [if_pos c] at fi
              rw [fi] at X
              (refine go (t := tb_X5_total) (WPd_mono d) hP 60 [25, 105, 172] ?_; (conv => whnf); (repeat' (first | (refine ⟨fun _ => ?_, fun _ => ?_⟩ <;> first | (exfalso; omega) | (conv => whnf)) | (refine ⟨by omega, ?_⟩; conv => whnf) | (intro _; conv => whnf))))
              exact X
            · rw [if_neg c] at fi
              rw [fi] at X
              (refine go (t := tb_X5_total) (WPd_mono d) hP 60 [25, 105, 172] ?_; (conv => whnf); (repeat' (first | (refine ⟨fun _ => ?_, fun _ => ?_⟩ <;> first | (exfalso; omega) | (conv => whnf)) | (refine ⟨by omega, ?_⟩; conv => whnf) | (intro _; conv => whnf))))
              exact X
          · rw [if_neg c0] at fi
            by_cases c1 : w = 1
            · rw [if_pos c1] at fi
              by_cases c : O i = 2
              · rw [if_pos c] at fi
                rw [fi] at X
                (refine go (t := tb_X5_total) (WPd_mono d) hP 60 [25, 105, 172] ?_; (conv => whnf); (repeat' (first | (refine ⟨fun _ => ?_, fun _ => ?_⟩ <;> first | (exfalso; omega) | (conv => whnf)) | (refine ⟨by omega, ?_⟩; conv => whnf) | (intro _; conv => whnf))))
                exact X
              · rw [if_neg c] at fi
                rw [fi] at X
                (refine go (t := tb_X5_total) (WPd_mono d) hP 60 [25, 105, 172] ?_; (conv => whnf); (repeat' (first | (refine ⟨fun _ => ?_, fun _ => ?_⟩ <;> first | (exfalso; omega) | (conv => whnf)) | (refine ⟨by omega, ?_⟩; conv => whnf) | (intro _; conv => whnf))))
                exact X
            · rw [if_neg c1] at fi
              by_cases c2 : w = 2
              · rw [if_pos c2] at fi
                rw [fi] at X
                (refine go (t := tb_X5_total) (WPd_mono d) hP 60 [25, 105, 172] ?_; (conv => whnf); (repeat' (first | (refine ⟨fun _ => ?_, fun _ => ?_⟩ <;> first | (exfalso; omega) | (conv => whnf)) | (refine ⟨by omega, ?_⟩; conv => whnf) | (intro _; conv => whnf))))
                rw [egi]
                exact X
              · rw [if_neg c2] at fi
                rw [fi] at X
                (refine go (t := tb_X5_total) (WPd_mono d) hP 60 [25, 105, 172] ?_; (conv => whnf); (repeat' (first | (refine ⟨fun _ => ?_, fun _ => ?_⟩ <;> first | (exfalso; omega) | (conv => whnf)) | (refine ⟨by omega, ?_⟩; conv => whnf) | (intro _; conv => whnf))))
                exact X
      have cs : ∀ (v : Int) (n : Nat) (i : Int), sumF (fun i => if O i = v then 1 else 0) n i = cntF O v n i := fun v n => by
        induction n with
        | zero => intro i; rfl
        | succ n ih =>
          intro i
          unfold sumF cntF
          rw [ih]
      have X := L25 _ 0 0 rfl (by omega) (by omega) (fun a b => by
        rw [Int.sub_zero, Int.zero_add]
        unfold totA
        by_cases c0 : w = 0
        · rw [if_pos c0, ← cs]
          exact sumF_cg _ _ fun j _ _ => by rw [ef j, if_pos c0]
        · rw [if_neg c0]
          by_cases c1 : w = 1
          · rw [if_pos c1, ← cs]
            exact sumF_cg _ _ fun j _ _ => by rw [ef j, if_neg c0, if_pos c1]
          · rw [if_neg c1, if_pos (by omega)]
            exact sumF_cg _ _ fun j _ _ => by rw [ef j, if_neg c0, if_neg c1, if_pos (by omega)]) (fun _ => rfl)
      ((conv => whnf); (repeat' (first | (refine ⟨fun _ => ?_, fun _ => ?_⟩ <;> first | (exfalso; omega) | (conv => whnf)) | (refine ⟨by omega, ?_⟩; conv => whnf) | (intro _; conv => whnf))))
      exact X
  · ((conv => whnf); (repeat' (first | (refine ⟨fun _ => ?_, fun _ => ?_⟩ <;> first | (exfalso; omega) | (conv => whnf)) | (refine ⟨by omega, ?_⟩; conv => whnf) | (intro _; conv => whnf))))
    exact hbad q
