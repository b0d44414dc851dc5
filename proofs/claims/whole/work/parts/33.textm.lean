/-! THE TEXT: the model reads -/
def offM (σ σ' : Sto) : Prop := (∀ k i, k ≠ 26 → k ≠ 30 → σ' k i = σ k i) ∧ ∀ j, j ≠ 5 → σ' 26 0 j = σ 26 0 j
theorem offM.rf {σ : Sto} : offM σ σ := ⟨fun _ _ _ _ => rfl, fun _ _ => rfl⟩
theorem offM.tr {σ σ' σ'' : Sto} (h1 : offM σ σ') (h2 : offM σ' σ'') : offM σ σ'' := ⟨fun k i a b => (h2.1 k i a b).trans (h1.1 k i a b), fun j hj => (h2.2 j hj).trans (h1.2 j hj)⟩
theorem offM.at {σ : Sto} {v : Int} : offM σ (upS σ 26 0 5 v) := ⟨fun k i a _ => up_k a, fun j hj => up_j hj⟩
theorem offM.txt {σ σ' : Sto} {tl : Int} {tx : Int → Int} (h : offM σ σ') (ht : TxtM σ tl tx) : TxtM σ' tl tx := TxtM_off ht (h.2 4 (by omega)) (h.1 29 0 (by omega) (by omega))
theorem t_X5_signAt {d : Nat} (hd : 1 ≤ d) {σ : Sto} {Q : Post} {tl : Int} {tx : Int → Int} {k : Int} (ht : TxtM σ tl tx) (hk : 0 ≤ k ∧ k ≤ 1000) (hq : Q (some (.inl (sg tl tx k))) σ) : WPd d m_X5_signAt [.inr (26, 0), .inl k] σ Q := by
  obtain ⟨d, rfl⟩ : ∃ k, d = k + 1 := ⟨d - 1, by omega⟩
  intro P hP
  obtain ⟨t1, t2, t3⟩ := ht
  unfold sg at hq
  (refine go (t := tb_X5_signAt) (WPd_mono d) hP 40 [] ?_; (conv => whnf); (repeat' (first | (refine ⟨fun _ => ?_, fun _ => ?_⟩ <;> first | (exfalso; omega) | (conv => whnf)) | (refine ⟨by omega, ?_⟩; conv => whnf) | (intro _; conv => whnf))))
  · rw [if_neg (by omega)] at hq
    exact hq
  · rw [if_pos (by omega), ← (t3 k hk.1 (by omega)).1] at hq
    exact hq
theorem sg_b {σ : Sto} {tl : Int} {tx : Int → Int} (ht : TxtM σ tl tx) {k : Int} (hk : 0 ≤ k) : -1 ≤ sg tl tx k ∧ sg tl tx k ≤ 126 := by
  unfold sg
  split
  · have := (ht.2.2 k hk (by omega)).2
    omega
  · omega
theorem t_X5_passes {d : Nat} (hd : 2 ≤ d) {σ : Sto} {Q : Post} {tl : Int} {tx : Int → Int} {p c : Int} (hc : 0 ≤ c ∧ c ≤ 200) (ht : TxtM σ tl tx) (hp : σ 26 0 5 = p) (h0 : 0 ≤ p ∧ p ≤ tl) (hy : sg tl tx p = c → Q (some (.inl 1)) (upS σ 26 0 5 (p + 1))) (hx : sg tl tx p ≠ c → Q (some (.inl 0)) σ) : WPd d m_X5_passes [.inr (26, 0), .inl c] σ Q := by
  obtain ⟨d, rfl⟩ : ∃ k, d = k + 1 := ⟨d - 1, by omega⟩
  intro P hP
  have ht2 := ht.2.1
  have b := sg_b ht h0.1
  (refine go (t := tb_X5_passes) (WPd_mono d) hP 60 [] ?_; (conv => whnf); (repeat' (first | (refine ⟨fun _ => ?_, fun _ => ?_⟩ <;> first | (exfalso; omega) | (conv => whnf)) | (refine ⟨by omega, ?_⟩; conv => whnf) | (intro _; conv => whnf))))
  rw [hp]
  refine t_X5_signAt (by omega) ht (by omega) ?_
  ((conv => whnf); (repeat' (first | (refine ⟨fun _ => ?_, fun _ => ?_⟩ <;> first | (exfalso; omega) | (conv => whnf)) | (refine ⟨by omega, ?_⟩; conv => whnf) | (intro _; conv => whnf))))
  · rw [up_id (by omega)]
    exact hx (by omega)
  · rw [hp]
    exact hy (by omega)
theorem t_X5_isWord {d : Nat} (hd : 2 ≤ d) {σ : Sto} {Q : Post} {tl : Int} {tx : Int → Int} {p a b c e f : Int} (ha : 0 ≤ a ∧ a ≤ 200) (hb : 0 ≤ b ∧ b ≤ 200) (hc : 0 ≤ c ∧ c ≤ 200) (he : 0 < e ∧ e ≤ 200) (hf : 0 ≤ f ∧ f ≤ 200) (ht : TxtM σ tl tx) (hp : σ 26 0 5 = p) (h0 : 0 ≤ p ∧ p ≤ tl) (hy : wdB tl tx [a, b, c, e, f, 32] p = true → Q (some (.inl 1)) (upS σ 26 0 5 (p + 6))) (hx : wdB tl tx [a, b, c, e, f, 32] p = false → Q (some (.inl 0)) σ) : WPd d m_X5_isWord [.inr (26, 0), .inl a, .inl b, .inl c, .inl e, .inl f] σ Q := by
  obtain ⟨d, rfl⟩ : ∃ k, d = k + 1 := ⟨d - 1, by omega⟩
  intro P hP
  have ht2 := ht.2.1
  have W : wdB tl tx [a, b, c, e, f, 32] p = true ↔ (sg tl tx p = a ∧ sg tl tx (p + 1) = b ∧ sg tl tx (p + 2) = c ∧ sg tl tx (p + 3) = e ∧ sg tl tx (p + 4) = f ∧ sg tl tx (p + 5) = 32) := by
    simp only [wdB, Bool.and_eq_true, decide_eq_true_eq, Bool.and_true, Int.add_assoc, Int.reduceAdd]
  have M : ¬ (sg tl tx p = a ∧ sg tl tx (p + 1) = b ∧ sg tl tx (p + 2) = c ∧ sg tl tx (p + 3) = e ∧ sg tl tx (p + 4) = f ∧ sg tl tx (p + 5) = 32) → Q (some (.inl 0)) (upS σ 26 0 5 (σ 26 0 5 + 0)) := fun z => by
    rw [up_id (by omega)]
    refine hx ?_
    cases e : wdB tl tx [a, b, c, e, f, 32] p
    · rfl
    · exact absurd (W.1 e) z
  have Y : (sg tl tx p = a ∧ sg tl tx (p + 1) = b ∧ sg tl tx (p + 2) = c ∧ sg tl tx (p + 3) = e ∧ sg tl tx (p + 4) = f ∧ sg tl tx (p + 5) = 32) → Q (some (.inl 1)) (upS σ 26 0 5 (σ 26 0 5 + 6)) := fun z => by
    rw [hp]
    exact hy (W.2 z)
  have b0 := sg_b ht (show 0 ≤ p by omega)
  (refine go (t := tb_X5_isWord) (WPd_mono d) hP 90 [] ?_; (conv => whnf); (repeat' (first | (refine ⟨fun _ => ?_, fun _ => ?_⟩ <;> first | (exfalso; omega) | (conv => whnf)) | (refine ⟨by omega, ?_⟩; conv => whnf) | (intro _; conv => whnf))))
  rw [hp]
  refine t_X5_signAt (by omega) ht (by omega) ?_
  ((conv => whnf); (repeat' (first | (refine ⟨fun _ => ?_, fun _ => ?_⟩ <;> first | (exfalso; omega) | (conv => whnf)) | (refine ⟨by omega, ?_⟩; conv => whnf) | (intro _; conv => whnf))))
  · exact M (fun z => by omega)
  rw [hp]
  have b1 := sg_b ht (show 0 ≤ p + 1 by omega)
  refine t_X5_signAt (by omega) ht (by omega) ?_
  ((conv => whnf); (repeat' (first | (refine ⟨fun _ => ?_, fun _ => ?_⟩ <;> first | (exfalso; omega) | (conv => whnf)) | (refine ⟨by omega, ?_⟩; conv => whnf) | (intro _; conv => whnf))))
  · exact M (fun z => by omega)
  rw [hp]
  have b2 := sg_b ht (show 0 ≤ p + 2 by omega)
  refine t_X5_signAt (by omega) ht (by omega) ?_
  ((conv => whnf); (repeat' (first | (refine ⟨fun _ => ?_, fun _ => ?_⟩ <;> first | (exfalso; omega) | (conv => whnf)) | (refine ⟨by omega, ?_⟩; conv => whnf) | (intro _; conv => whnf))))
  · exact M (fun z => by omega)
  rw [hp]
  have b3 := sg_b ht (show 0 ≤ p + 3 by omega)
  refine t_X5_signAt (by omega) ht (by omega) ?_
  ((conv => whnf); (repeat' (first | (refine ⟨fun _ => ?_, fun _ => ?_⟩ <;> first | (exfalso; omega) | (conv => whnf)) | (refine ⟨by omega, ?_⟩; conv => whnf) | (intro _; conv => whnf))))
  · exact M (fun z => by omega)
  rw [hp]
  have b4 := sg_b ht (show 0 ≤ p + 4 by omega)
  refine t_X5_signAt (by omega) ht (by omega) ?_
  ((conv => whnf); (repeat' (first | (refine ⟨fun _ => ?_, fun _ => ?_⟩ <;> first | (exfalso; omega) | (conv => whnf)) | (refine ⟨by omega, ?_⟩; conv => whnf) | (intro _; conv => whnf))))
  · exact M (fun z => by omega)
  rw [hp]
  have b5 := sg_b ht (show 0 ≤ p + 5 by omega)
  refine t_X5_signAt (by omega) ht (by omega) ?_
  ((conv => whnf); (repeat' (first | (refine ⟨fun _ => ?_, fun _ => ?_⟩ <;> first | (exfalso; omega) | (conv => whnf)) | (refine ⟨by omega, ?_⟩; conv => whnf) | (intro _; conv => whnf))))
  · exact M (fun z => by omega)
  · exact Y (by omega)
theorem t_X5_isWord3 {d : Nat} (hd : 2 ≤ d) {σ : Sto} {Q : Post} {tl : Int} {tx : Int → Int} {p a b c : Int} (ha : 0 ≤ a ∧ a ≤ 200) (hb : 0 ≤ b ∧ b ≤ 200) (hc : 0 ≤ c ∧ c ≤ 200) (ht : TxtM σ tl tx) (hp : σ 26 0 5 = p) (h0 : 0 ≤ p ∧ p ≤ tl) (hy : wdB tl tx [a, b, c, 32] p = true → Q (some (.inl 1)) (upS σ 26 0 5 (p + 4))) (hx : wdB tl tx [a, b, c, 32] p = false → Q (some (.inl 0)) σ) : WPd d m_X5_isWord [.inr (26, 0), .inl a, .inl b, .inl c, .inl 0, .inl 0] σ Q := by
  obtain ⟨d, rfl⟩ : ∃ k, d = k + 1 := ⟨d - 1, by omega⟩
  intro P hP
  have ht2 := ht.2.1
  have W : wdB tl tx [a, b, c, 32] p = true ↔ (sg tl tx p = a ∧ sg tl tx (p + 1) = b ∧ sg tl tx (p + 2) = c ∧ sg tl tx (p + 3) = 32) := by
    simp only [wdB, Bool.and_eq_true, decide_eq_true_eq, Bool.and_true, Int.add_assoc, Int.reduceAdd]
  have M : ¬ (sg tl tx p = a ∧ sg tl tx (p + 1) = b ∧ sg tl tx (p + 2) = c ∧ sg tl tx (p + 3) = 32) → Q (some (.inl 0)) (upS σ 26 0 5 (σ 26 0 5 + 0)) := fun z => by
    rw [up_id (by omega)]
    refine hx ?_
    cases e : wdB tl tx [a, b, c, 32] p
    · rfl
    · exact absurd (W.1 e) z
  have Y : (sg tl tx p = a ∧ sg tl tx (p + 1) = b ∧ sg tl tx (p + 2) = c ∧ sg tl tx (p + 3) = 32) → Q (some (.inl 1)) (upS σ 26 0 5 (σ 26 0 5 + 4)) := fun z => by
    rw [hp]
    exact hy (W.2 z)
  have b0 := sg_b ht (show 0 ≤ p by omega)
  (refine go (t := tb_X5_isWord) (WPd_mono d) hP 90 [] ?_; (conv => whnf); (repeat' (first | (refine ⟨fun _ => ?_, fun _ => ?_⟩ <;> first | (exfalso; omega) | (conv => whnf)) | (refine ⟨by omega, ?_⟩; conv => whnf) | (intro _; conv => whnf))))
  rw [hp]
  refine t_X5_signAt (by omega) ht (by omega) ?_
  ((conv => whnf); (repeat' (first | (refine ⟨fun _ => ?_, fun _ => ?_⟩ <;> first | (exfalso; omega) | (conv => whnf)) | (refine ⟨by omega, ?_⟩; conv => whnf) | (intro _; conv => whnf))))
  · exact M (fun z => by omega)
  rw [hp]
  have b1 := sg_b ht (show 0 ≤ p + 1 by omega)
  refine t_X5_signAt (by omega) ht (by omega) ?_
  ((conv => whnf); (repeat' (first | (refine ⟨fun _ => ?_, fun _ => ?_⟩ <;> first | (exfalso; omega) | (conv => whnf)) | (refine ⟨by omega, ?_⟩; conv => whnf) | (intro _; conv => whnf))))
  · exact M (fun z => by omega)
  rw [hp]
  have b2 := sg_b ht (show 0 ≤ p + 2 by omega)
  refine t_X5_signAt (by omega) ht (by omega) ?_
  ((conv => whnf); (repeat' (first | (refine ⟨fun _ => ?_, fun _ => ?_⟩ <;> first | (exfalso; omega) | (conv => whnf)) | (refine ⟨by omega, ?_⟩; conv => whnf) | (intro _; conv => whnf))))
  · exact M (fun z => by omega)
  rw [hp]
  have b3 := sg_b ht (show 0 ≤ p + 3 by omega)
  refine t_X5_signAt (by omega) ht (by omega) ?_
  ((conv => whnf); (repeat' (first | (refine ⟨fun _ => ?_, fun _ => ?_⟩ <;> first | (exfalso; omega) | (conv => whnf)) | (refine ⟨by omega, ?_⟩; conv => whnf) | (intro _; conv => whnf))))
  · exact M (fun z => by omega)
  · exact Y (by omega)
theorem t_X5_number {d : Nat} (hd : 2 ≤ d) {σ : Sto} {Q : Post} {tl : Int} {tx : Int → Int} {p lo hi : Int} (hlo : 0 ≤ lo ∧ lo ≤ 1000) (hhi : 0 ≤ hi ∧ hi ≤ 1000) (ht : TxtM σ tl tx) (hp : σ 26 0 5 = p) (h0 : 0 ≤ p ∧ p ≤ tl) (hq : Q (some (.inl (if lo ≤ (numF tl tx 3 (-1) p).1 ∧ (numF tl tx 3 (-1) p).1 ≤ hi then (numF tl tx 3 (-1) p).1 else -1))) (upS σ 26 0 5 (numF tl tx 3 (-1) p).2)) : WPd d m_X5_number [.inr (26, 0), .inl lo, .inl hi] σ Q := by
  obtain ⟨d, rfl⟩ : ∃ k, d = k + 1 := ⟨d - 1, by omega⟩
  intro P hP
  have ht2 := ht.2.1
  have E : ∀ (k w q : Int) (τ : Sto), τ = upS σ 26 0 5 q → -1 ≤ w → w ≤ 999 → numF tl tx 3 (-1) p = (w, q) → P 70 [.inr (26, 0), .inl lo, .inl hi, .inl w, .inl k] [] τ := by
    intro k w q τ hτ w0 w1 he
    rw [he] at hq
    dsimp only at hq
    (refine go (t := tb_X5_number) (WPd_mono d) hP 60 [5, 70] ?_; (conv => whnf); (repeat' (first | (refine ⟨fun _ => ?_, fun _ => ?_⟩ <;> first | (exfalso; omega) | (conv => whnf)) | (refine ⟨by omega, ?_⟩; conv => whnf) | (intro _; conv => whnf))))
    refine t_X5_in (by omega) (by omega) (by omega) (by omega) (fun r => ?_) (fun r => ?_)
    · rw [if_pos r, ← hτ] at hq
      ((conv => whnf); (repeat' (first | (refine ⟨fun _ => ?_, fun _ => ?_⟩ <;> first | (exfalso; omega) | (conv => whnf)) | (refine ⟨by omega, ?_⟩; conv => whnf) | (intro _; conv => whnf))))
      exact hq
    · rw [if_neg r, ← hτ] at hq
      ((conv => whnf); (repeat' (first | (refine ⟨fun _ => ?_, fun _ => ?_⟩ <;> first | (exfalso; omega) | (conv => whnf)) | (refine ⟨by omega, ?_⟩; conv => whnf) | (intro _; conv => whnf))))
      exact hq
  have L : ∀ (m : Nat) (k w q : Int) (τ : Sto), m = (3 - k).toNat → 0 ≤ k → k ≤ 3 → τ = upS σ 26 0 5 q → TxtM τ tl tx → τ 26 0 5 = q → 0 ≤ q → q ≤ tl → -1 ≤ w → w ≤ 999 → (k ≤ 2 → w ≤ 99) → (k ≤ 1 → w ≤ 9) → (k = 0 → w = -1) → numF tl tx 3 (-1) p = numF tl tx m w q → P 5 [.inr (26, 0), .inl lo, .inl hi, .inl w, .inl k] [] τ := by
    intro m
    induction m with
    | zero =>
      intro k w q τ hm k0 k1 hτ hT s5 q0 q1 w0 w1 w2 w3 w4 he
      (refine go (t := tb_X5_number) (WPd_mono d) hP 60 [5, 70] ?_; (conv => whnf); (repeat' (first | (refine ⟨fun _ => ?_, fun _ => ?_⟩ <;> first | (exfalso; omega) | (conv => whnf)) | (refine ⟨by omega, ?_⟩; conv => whnf) | (intro _; conv => whnf))))
      exact E k w q τ hτ w0 w1 he
    | succ m ih =>
      intro k w q τ hm k0 k1 hτ hT s5 q0 q1 w0 w1 w2 w3 w4 he
      have b := sg_b hT q0
      (refine go (t := tb_X5_number) (WPd_mono d) hP 60 [5, 70] ?_; (conv => whnf); (repeat' (first | (refine ⟨fun _ => ?_, fun _ => ?_⟩ <;> first | (exfalso; omega) | (conv => whnf)) | (refine ⟨by omega, ?_⟩; conv => whnf) | (intro _; conv => whnf))))
      rw [s5]
      refine t_X5_signAt (by omega) hT (by omega) ?_
      ((conv => whnf); (repeat' (first | (refine ⟨fun _ => ?_, fun _ => ?_⟩ <;> first | (exfalso; omega) | (conv => whnf)) | (refine ⟨by omega, ?_⟩; conv => whnf) | (intro _; conv => whnf))))
      refine t_X5_in (by omega) (by omega) (by omega) (by omega) (fun r => ?_) (fun r => ?_)
      · have := sg_in (c := sg tl tx q) rfl (by omega)
        ((conv => whnf); (repeat' (first | (refine ⟨fun _ => ?_, fun _ => ?_⟩ <;> first | (exfalso; omega) | (conv => whnf)) | (refine ⟨by omega, ?_⟩; conv => whnf) | (intro _; conv => whnf))))
        · rw [s5]
          refine t_X5_signAt (by omega) hT (by omega) ?_
          ((conv => whnf); (repeat' (first | (refine ⟨fun _ => ?_, fun _ => ?_⟩ <;> first | (exfalso; omega) | (conv => whnf)) | (refine ⟨by omega, ?_⟩; conv => whnf) | (intro _; conv => whnf))))
          refine ih (k + 1) _ (q + 1) _ (by omega) (by omega) (by omega) (by rw [s5, hτ, up_up]) (offM.at.txt hT) (by rw [up_hit, s5]) (by omega) (by omega) (by omega) (by omega) (by omega) (by omega) (by omega) ?_
          rw [he, numF, if_pos r]
          congr 1
          split <;> omega
        · rw [s5]
          refine t_X5_signAt (by omega) hT (by omega) ?_
          ((conv => whnf); (repeat' (first | (refine ⟨fun _ => ?_, fun _ => ?_⟩ <;> first | (exfalso; omega) | (conv => whnf)) | (refine ⟨by omega, ?_⟩; conv => whnf) | (intro _; conv => whnf))))
          refine ih (k + 1) _ (q + 1) _ (by omega) (by omega) (by omega) (by rw [s5, hτ, up_up]) (offM.at.txt hT) (by rw [up_hit, s5]) (by omega) (by omega) (by omega) (by omega) (by omega) (by omega) (by omega) ?_
          rw [he, numF, if_pos r]
          congr 1
          split <;> omega
      · ((conv => whnf); (repeat' (first | (refine ⟨fun _ => ?_, fun _ => ?_⟩ <;> first | (exfalso; omega) | (conv => whnf)) | (refine ⟨by omega, ?_⟩; conv => whnf) | (intro _; conv => whnf))))
        exact E k w q τ hτ w0 w1 (by rw [he, numF, if_neg r])
  (refine go (t := tb_X5_number) (WPd_mono d) hP 60 [5, 70] ?_; (conv => whnf); (repeat' (first | (refine ⟨fun _ => ?_, fun _ => ?_⟩ <;> first | (exfalso; omega) | (conv => whnf)) | (refine ⟨by omega, ?_⟩; conv => whnf) | (intro _; conv => whnf))))
  exact L 3 0 (-1) p σ rfl (by omega) (by omega) (up_id hp).symm ht hp h0.1 h0.2 (by omega) (by omega) (by omega) (by omega) (by omega) rfl
