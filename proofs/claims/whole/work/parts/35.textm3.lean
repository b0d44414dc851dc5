/-! THE TEXT: fault and lay of the model -/
theorem t_X5_readsCommand {d : Nat} (hd : 4 ≤ d) {σ : Sto} {Q : Post} {tl : Int} {tx : Int → Int} {p : Int} {D : KV} (ht : TxtM σ tl tx) (hs : strip (vwM (σ 30 0)) = D) (hw : WFK D) (hp : σ 26 0 5 = p) (h0 : 0 ≤ p ∧ p ≤ tl) (hr : rdM (cmdH tl tx p D) σ Q) : WPd d m_X5_readsCommand [.inr (26, 0)] σ Q := by
  obtain ⟨d, rfl⟩ : ∃ k, d = k + 1 := ⟨d - 1, by omega⟩
  intro P hP
  have tf : ∀ {b : Bool}, b = false → ¬ b = true := fun h => by rw [h]; decide
  have L6 : ∀ n : Nat, n < 5 → wdB tl tx (txtL (n : Int)) p = true → p + ((txtL (n : Int)).length : Int) ≤ tl := fun n hn y => wdB_in _ _ h0.2 (txt_fc n hn).1 y
  unfold cmdH at hr
  (refine go (t := tb_X5_readsCommand) (WPd_mono d) hP 80 [] ?_; (conv => whnf); (repeat' (first | (refine ⟨fun _ => ?_, fun _ => ?_⟩ <;> first | (exfalso; omega) | (conv => whnf)) | (refine ⟨by omega, ?_⟩; conv => whnf) | (intro _; conv => whnf))))
  refine t_X5_isWord (by omega) (by omega) (by omega) (by omega) (by omega) (by omega) ht hp h0 (fun y => ?_) (fun y => ?_)
  · have y : wdB tl tx (txtL 0) p = true := y
    rw [if_pos y] at hr
    have g := L6 0 (by omega) y
    rw [show ((txtL ((0 : Nat) : Int)).length : Int) = 6 from rfl] at g
    obtain ⟨τ, eτ, f30, fo, f5⟩ := am_f σ (p + 6)
    rw [eτ]
    ((conv => whnf); (repeat' (first | (refine ⟨fun _ => ?_, fun _ => ?_⟩ <;> first | (exfalso; omega) | (conv => whnf)) | (refine ⟨by omega, ?_⟩; conv => whnf) | (intro _; conv => whnf))))
    refine t_X5_readsLayer (by omega) (by omega) (fo.txt ht) (by rw [f30]; exact hs) hw f5 (by omega) ⟨fun D' p' e σ' a b c => ?_, fun e σ' c => ?_⟩
    · ((conv => whnf); (repeat' (first | (refine ⟨fun _ => ?_, fun _ => ?_⟩ <;> first | (exfalso; omega) | (conv => whnf)) | (refine ⟨by omega, ?_⟩; conv => whnf) | (intro _; conv => whnf))))
      exact (hr.mv fo).1 D' p' e σ' a b c
    · ((conv => whnf); (repeat' (first | (refine ⟨fun _ => ?_, fun _ => ?_⟩ <;> first | (exfalso; omega) | (conv => whnf)) | (refine ⟨by omega, ?_⟩; conv => whnf) | (intro _; conv => whnf))))
      exact (hr.mv fo).2 e σ' c
  have y : wdB tl tx (txtL 0) p = false := y
  rw [if_neg (tf y)] at hr
  ((conv => whnf); (repeat' (first | (refine ⟨fun _ => ?_, fun _ => ?_⟩ <;> first | (exfalso; omega) | (conv => whnf)) | (refine ⟨by omega, ?_⟩; conv => whnf) | (intro _; conv => whnf))))
  refine t_X5_isWord (by omega) (by omega) (by omega) (by omega) (by omega) (by omega) ht hp h0 (fun y => ?_) (fun y => ?_)
  · have y : wdB tl tx (txtL 1) p = true := y
    rw [if_pos y] at hr
    have g := L6 1 (by omega) y
    rw [show ((txtL ((1 : Nat) : Int)).length : Int) = 6 from rfl] at g
    obtain ⟨τ, eτ, f30, fo, f5⟩ := am_f σ (p + 6)
    rw [eτ]
    ((conv => whnf); (repeat' (first | (refine ⟨fun _ => ?_, fun _ => ?_⟩ <;> first | (exfalso; omega) | (conv => whnf)) | (refine ⟨by omega, ?_⟩; conv => whnf) | (intro _; conv => whnf))))
    refine t_X5_readsLayer (by omega) (by omega) (fo.txt ht) (by rw [f30]; exact hs) hw f5 (by omega) ⟨fun D' p' e σ' a b c => ?_, fun e σ' c => ?_⟩
    · ((conv => whnf); (repeat' (first | (refine ⟨fun _ => ?_, fun _ => ?_⟩ <;> first | (exfalso; omega) | (conv => whnf)) | (refine ⟨by omega, ?_⟩; conv => whnf) | (intro _; conv => whnf))))
      exact (hr.mv fo).1 D' p' e σ' a b c
    · ((conv => whnf); (repeat' (first | (refine ⟨fun _ => ?_, fun _ => ?_⟩ <;> first | (exfalso; omega) | (conv => whnf)) | (refine ⟨by omega, ?_⟩; conv => whnf) | (intro _; conv => whnf))))
      exact (hr.mv fo).2 e σ' c
  have y : wdB tl tx (txtL 1) p = false := y
  rw [if_neg (tf y)] at hr
  ((conv => whnf); (repeat' (first | (refine ⟨fun _ => ?_, fun _ => ?_⟩ <;> first | (exfalso; omega) | (conv => whnf)) | (refine ⟨by omega, ?_⟩; conv => whnf) | (intro _; conv => whnf))))
  refine t_X5_isWord (by omega) (by omega) (by omega) (by omega) (by omega) (by omega) ht hp h0 (fun y => ?_) (fun y => ?_)
  · have y : wdB tl tx (txtL 2) p = true := y
    rw [if_pos y] at hr
    have g := L6 2 (by omega) y
    rw [show ((txtL ((2 : Nat) : Int)).length : Int) = 6 from rfl] at g
    obtain ⟨τ, eτ, f30, fo, f5⟩ := am_f σ (p + 6)
    rw [eτ]
    ((conv => whnf); (repeat' (first | (refine ⟨fun _ => ?_, fun _ => ?_⟩ <;> first | (exfalso; omega) | (conv => whnf)) | (refine ⟨by omega, ?_⟩; conv => whnf) | (intro _; conv => whnf))))
    refine t_X5_readsLayer (by omega) (by omega) (fo.txt ht) (by rw [f30]; exact hs) hw f5 (by omega) ⟨fun D' p' e σ' a b c => ?_, fun e σ' c => ?_⟩
    · ((conv => whnf); (repeat' (first | (refine ⟨fun _ => ?_, fun _ => ?_⟩ <;> first | (exfalso; omega) | (conv => whnf)) | (refine ⟨by omega, ?_⟩; conv => whnf) | (intro _; conv => whnf))))
      exact (hr.mv fo).1 D' p' e σ' a b c
    · ((conv => whnf); (repeat' (first | (refine ⟨fun _ => ?_, fun _ => ?_⟩ <;> first | (exfalso; omega) | (conv => whnf)) | (refine ⟨by omega, ?_⟩; conv => whnf) | (intro _; conv => whnf))))
      exact (hr.mv fo).2 e σ' c
  have y : wdB tl tx (txtL 2) p = false := y
  rw [if_neg (tf y)] at hr
  ((conv => whnf); (repeat' (first | (refine ⟨fun _ => ?_, fun _ => ?_⟩ <;> first | (exfalso; omega) | (conv => whnf)) | (refine ⟨by omega, ?_⟩; conv => whnf) | (intro _; conv => whnf))))
  refine t_X5_isWord3 (by omega) (by omega) (by omega) (by omega) ht hp h0 (fun y => ?_) (fun y => ?_)
  · have y : wdB tl tx (txtL 3) p = true := y
    rw [if_pos y] at hr
    have g := L6 3 (by omega) y
    rw [show ((txtL ((3 : Nat) : Int)).length : Int) = 4 from rfl] at g
    obtain ⟨τ, eτ, f30, fo, f5⟩ := am_f σ (p + 4)
    rw [eτ]
    ((conv => whnf); (repeat' (first | (refine ⟨fun _ => ?_, fun _ => ?_⟩ <;> first | (exfalso; omega) | (conv => whnf)) | (refine ⟨by omega, ?_⟩; conv => whnf) | (intro _; conv => whnf))))
    refine t_X5_readsGap (by omega) (fo.txt ht) (by rw [f30]; exact hs) hw f5 (by omega) ⟨fun D' p' e σ' a b c => ?_, fun e σ' c => ?_⟩
    · ((conv => whnf); (repeat' (first | (refine ⟨fun _ => ?_, fun _ => ?_⟩ <;> first | (exfalso; omega) | (conv => whnf)) | (refine ⟨by omega, ?_⟩; conv => whnf) | (intro _; conv => whnf))))
      exact (hr.mv fo).1 D' p' e σ' a b c
    · ((conv => whnf); (repeat' (first | (refine ⟨fun _ => ?_, fun _ => ?_⟩ <;> first | (exfalso; omega) | (conv => whnf)) | (refine ⟨by omega, ?_⟩; conv => whnf) | (intro _; conv => whnf))))
      exact (hr.mv fo).2 e σ' c
  have y : wdB tl tx (txtL 3) p = false := y
  rw [if_neg (tf y)] at hr
  ((conv => whnf); (repeat' (first | (refine ⟨fun _ => ?_, fun _ => ?_⟩ <;> first | (exfalso; omega) | (conv => whnf)) | (refine ⟨by omega, ?_⟩; conv => whnf) | (intro _; conv => whnf))))
  refine t_X5_isWord3 (by omega) (by omega) (by omega) (by omega) ht hp h0 (fun y => ?_) (fun y => ?_)
  · have y : wdB tl tx (txtL 4) p = true := y
    rw [if_pos y] at hr
    have g := L6 4 (by omega) y
    rw [show ((txtL ((4 : Nat) : Int)).length : Int) = 4 from rfl] at g
    obtain ⟨τ, eτ, f30, fo, f5⟩ := am_f σ (p + 4)
    rw [eτ]
    ((conv => whnf); (repeat' (first | (refine ⟨fun _ => ?_, fun _ => ?_⟩ <;> first | (exfalso; omega) | (conv => whnf)) | (refine ⟨by omega, ?_⟩; conv => whnf) | (intro _; conv => whnf))))
    refine t_X5_readsAsh (by omega) (fo.txt ht) (by rw [f30]; exact hs) hw f5 (by omega) ⟨fun D' p' e σ' a b c => ?_, fun e σ' c => ?_⟩
    · ((conv => whnf); (repeat' (first | (refine ⟨fun _ => ?_, fun _ => ?_⟩ <;> first | (exfalso; omega) | (conv => whnf)) | (refine ⟨by omega, ?_⟩; conv => whnf) | (intro _; conv => whnf))))
      exact (hr.mv fo).1 D' p' e σ' a b c
    · ((conv => whnf); (repeat' (first | (refine ⟨fun _ => ?_, fun _ => ?_⟩ <;> first | (exfalso; omega) | (conv => whnf)) | (refine ⟨by omega, ?_⟩; conv => whnf) | (intro _; conv => whnf))))
      exact (hr.mv fo).2 e σ' c
  have y : wdB tl tx (txtL 4) p = false := y
  rw [if_neg (tf y)] at hr
  ((conv => whnf); (repeat' (first | (refine ⟨fun _ => ?_, fun _ => ?_⟩ <;> first | (exfalso; omega) | (conv => whnf)) | (refine ⟨by omega, ?_⟩; conv => whnf) | (intro _; conv => whnf))))
  exact hr.2 rfl σ offM.rf
theorem cmdH_ok {tl : Int} {tx : Int → Int} {p : Int} {D D' : KV} {p' : Int} (h0 : 0 ≤ p ∧ p ≤ tl) (h : cmdH tl tx p D = some (D', p')) : p ≤ p' ∧ p' ≤ tl := by
  have L6 : ∀ n : Nat, n < 5 → wdB tl tx (txtL (n : Int)) p = true → p + ((txtL (n : Int)).length : Int) ≤ tl := fun n hn y => wdB_in _ _ h0.2 (txt_fc n hn).1 y
  have LQ : ∀ k q, p ≤ q → q ≤ tl → layH tl tx k q D = some (D', p') → p ≤ p' ∧ p' ≤ tl := fun k q q0 q1 e => by
    have b := numF_b (tl := tl) (tx := tx) 3 (-1) q (by omega) q1 (by omega)
    unfold layH at e
    split at e
    · rw [Option.some.injEq, Prod.mk.injEq] at e
      omega
    · cases e
  unfold cmdH at h
  by_cases y : wdB tl tx (txtL 0) p = true
  · rw [if_pos y] at h
    have := L6 0 (by omega) y
    rw [show ((txtL ((0 : Nat) : Int)).length : Int) = 6 from rfl] at this
    exact LQ 0 _ (by omega) (by omega) h
  rw [if_neg y] at h
  by_cases y : wdB tl tx (txtL 1) p = true
  · rw [if_pos y] at h
    have := L6 1 (by omega) y
    rw [show ((txtL ((1 : Nat) : Int)).length : Int) = 6 from rfl] at this
    exact LQ 1 _ (by omega) (by omega) h
  rw [if_neg y] at h
  by_cases y : wdB tl tx (txtL 2) p = true
  · rw [if_pos y] at h
    have := L6 2 (by omega) y
    rw [show ((txtL ((2 : Nat) : Int)).length : Int) = 6 from rfl] at this
    exact LQ 2 _ (by omega) (by omega) h
  rw [if_neg y] at h
  by_cases y : wdB tl tx (txtL 3) p = true
  · rw [if_pos y] at h
    have := L6 3 (by omega) y
    rw [show ((txtL ((3 : Nat) : Int)).length : Int) = 4 from rfl] at this
    have b := numF_b (tl := tl) (tx := tx) 3 (-1) (p + 4) (by omega) (by omega) (by omega)
    unfold gapH at h
    split at h
    · rw [Option.some.injEq, Prod.mk.injEq] at h
      omega
    · cases h
  rw [if_neg y] at h
  by_cases y : wdB tl tx (txtL 4) p = true
  · rw [if_pos y] at h
    have := L6 4 (by omega) y
    rw [show ((txtL ((4 : Nat) : Int)).length : Int) = 4 from rfl] at this
    have b := numF_b (tl := tl) (tx := tx) 3 (-1) (p + 4) (by omega) (by omega) (by omega)
    unfold ashH ashK at h
    split at h
    · rename_i c
      rw [Option.some.injEq, Prod.mk.injEq] at h
      have s1 := sg_in c.2.1 (by omega)
      have b2 := numF_b (tl := tl) (tx := tx) 3 (-1) ((numF tl tx 3 (-1) (p + 4)).2 + 1) (by omega) (by omega) (by omega)
      omega
    · cases h
  rw [if_neg y] at h
  cases h
theorem t_X5_fault {d : Nat} (hd : 5 ≤ d) {σ : Sto} {Q : Post} {tl : Int} {tx : Int → Int} (ht : TxtM σ tl tx) (hq : ∀ σ' r, (parF tl tx 90 0 emK).1 = r → (r = -4 → strip (vwM (σ' 30 0)) = (parF tl tx 90 0 emK).2 ∧ WFK (parF tl tx 90 0 emK).2) → offM σ σ' → Q (some (.inl r)) σ') : WPd d m_X5_fault [.inr (26, 0)] σ Q := by
  obtain ⟨d, rfl⟩ : ∃ k, d = k + 1 := ⟨d - 1, by omega⟩
  intro P hP
  have ht2 := ht.2.1
  have L : ∀ (m : Nat) (p : Int) (D : KV) (τ : Sto), tl - p ≤ m → 0 ≤ p → p ≤ tl → τ 26 0 5 = p → τ 26 0 4 = tl → offM σ τ → strip (vwM (τ 30 0)) = D → WFK D → parF tl tx 90 0 emK = parF tl tx m p D → ∀ ls : List AV, ls = [] ∨ (∃ x, ls = [.inl x]) → P 27 (.inr (26, 0) :: ls) [] τ := by
    intro m
    induction m with
    | zero =>
      intro p D τ hm p0 p1 s3 s2 fo hs hw he ls hl
      rw [he] at hq
      have E := hq τ _ rfl (fun _ => ⟨hs, hw⟩) fo
      rcases hl with rfl | ⟨x, rfl⟩
      · (refine go (t := tb_X5_fault) (WPd_mono d) hP 60 [2, 27] ?_; (conv => whnf); (repeat' (first | (refine ⟨fun _ => ?_, fun _ => ?_⟩ <;> first | (exfalso; omega) | (conv => whnf)) | (refine ⟨by omega, ?_⟩; conv => whnf) | (intro _; conv => whnf))))
        exact E
      · (refine go (t := tb_X5_fault) (WPd_mono d) hP 60 [2, 27] ?_; (conv => whnf); (repeat' (first | (refine ⟨fun _ => ?_, fun _ => ?_⟩ <;> first | (exfalso; omega) | (conv => whnf)) | (refine ⟨by omega, ?_⟩; conv => whnf) | (intro _; conv => whnf))))
        exact E
    | succ m ih =>
      intro p D τ hm p0 p1 s3 s2 fo hs hw he ls hl
      rw [parF_s m p D, cmdH_F] at he
      have E : τ 26 0 4 ≤ τ 26 0 5 → Q (some (.inl (-4))) τ := fun z => by
        rw [if_neg (by omega)] at he
        rw [he] at hq
        exact hq τ _ rfl (fun _ => ⟨hs, hw⟩) fo
      trace_state
      sorry
  have L1 : ∀ (m : Nat) (k : Int) (τ : Sto), m = (174 - k).toNat → 0 ≤ k → k ≤ 174 → (∀ i j, i ≠ 30 → τ i j = σ i j) → (∀ j, 0 ≤ j → j < k → τ 30 0 j = 0) → P 2 [.inr (26, 0), .inl k] [] τ := by
    intro m
    induction m with
    | zero =>
      intro k τ hm k0 k1 ho hz
      (refine go (t := tb_X5_fault) (WPd_mono d) hP 60 [2, 27] ?_; (conv => whnf); (repeat' (first | (refine ⟨fun _ => ?_, fun _ => ?_⟩ <;> first | (exfalso; omega) | (conv => whnf)) | (refine ⟨by omega, ?_⟩; conv => whnf) | (intro _; conv => whnf))))
      trace_state
      sorry
    | succ m ih =>
      intro k τ hm k0 k1 ho hz
      (refine go (t := tb_X5_fault) (WPd_mono d) hP 60 [2, 27] ?_; (conv => whnf); (repeat' (first | (refine ⟨fun _ => ?_, fun _ => ?_⟩ <;> first | (exfalso; omega) | (conv => whnf)) | (refine ⟨by omega, ?_⟩; conv => whnf) | (intro _; conv => whnf))))
      trace_state
      sorry
  (refine go (t := tb_X5_fault) (WPd_mono d) hP 60 [2, 27] ?_; (conv => whnf); (repeat' (first | (refine ⟨fun _ => ?_, fun _ => ?_⟩ <;> first | (exfalso; omega) | (conv => whnf)) | (refine ⟨by omega, ?_⟩; conv => whnf) | (intro _; conv => whnf))))
  exact L1 _ 0 σ rfl (by omega) (by omega) (fun _ _ _ => rfl) (fun j j0 j1 => by omega)
