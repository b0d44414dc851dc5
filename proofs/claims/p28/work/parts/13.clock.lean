/-! THE CLASS: its changes and plain answers -/
theorem t_X4_isWithin {d : Nat} (hd : 1 ≤ d) {σ : Sto} {Q : Post} {x a b : Int} (hx : inR x) (ha : inR a) (hb : inR b) (h1 : a ≤ x ∧ x ≤ b → Q (some (.inl 1)) σ) (h0 : ¬ (a ≤ x ∧ x ≤ b) → Q (some (.inl 0)) σ) : WPd d m_X4_isWithin [.inl x, .inl a, .inl b] σ Q := by
  obtain ⟨d, rfl⟩ : ∃ k, d = k + 1 := ⟨d - 1, by omega⟩
  intro P hP
  (refine go (t := tb_X4_isWithin) (WPd_mono d) hP 20 [] ?_; (conv => whnf); (repeat' (first | (refine ⟨fun _ => ?_, fun _ => ?_⟩ <;> first | (exfalso; omega) | (conv => whnf)) | (refine ⟨by omega, ?_⟩; conv => whnf) | (intro _; conv => whnf))))
  all_goals first | exact h1 (by omega) | exact h0 (by omega)
theorem t_X2_forget {d : Nat} (hd : 1 ≤ d) {σ : Sto} {Q : Post} (h : ∀ σ', σ' 3 0 12 = 0 → σ' 3 0 13 = 0 → σ' 3 0 14 = -1 → (∀ k i, k ≠ 3 → σ' k i = σ k i) → Q none σ') : WPd d m_X2_forget [.inr (3, 0)] σ Q := by
  obtain ⟨d, rfl⟩ : ∃ k, d = k + 1 := ⟨d - 1, by omega⟩
  intro P hP
  (refine go (t := tb_X2_forget) (WPd_mono d) hP 20 [] ?_; (conv => whnf); (repeat' (first | (refine ⟨fun _ => ?_, fun _ => ?_⟩ <;> first | (exfalso; omega) | (conv => whnf)) | (refine ⟨by omega, ?_⟩; conv => whnf) | (intro _; conv => whnf))))
  ((repeat ((try simp only [setR_same, setR_nk, upS_setR, cpS_setR, setR_setR, ne_eq, Nat.reduceEqDiff, not_false_eq_true, Int.reduceEq, ↓reduceIte]); refine ⟨by omega, ?_⟩; ((conv => whnf); (repeat' (first | (refine ⟨fun _ => ?_, fun _ => ?_⟩ <;> first | (exfalso; omega) | (conv => whnf)) | (refine ⟨by omega, ?_⟩; conv => whnf) | (intro _; conv => whnf)))))); (try simp only [setR_same, setR_nk, upS_setR, cpS_setR, setR_setR, ne_eq, Nat.reduceEqDiff, not_false_eq_true, Int.reduceEq, ↓reduceIte]))
  refine h _ ?_ ?_ ?_ (fun k i hk => setR_nk hk)
  all_goals (try simp only [setR_same, setR_nk, upS_setR, cpS_setR, setR_setR, ne_eq, Nat.reduceEqDiff, not_false_eq_true, Int.reduceEq, ↓reduceIte])
theorem t_X4_beginChange {d : Nat} (hd : 4 ≤ d) {σ : Sto} {Q : Post} {h : Int} {HK : Int → KV} (hh : HistR σ h HK) (hw : WFK (vwC σ 0)) (hq : ∀ σ', HistR σ' (min 6 (h + 1)) (pushH h HK (vwC σ 0)) → σ' 3 0 12 = 0 → σ' 3 0 13 = 0 → σ' 3 0 14 = -1 → (∀ k i, k ≠ 1 → k ≠ 3 → ¬ (16 ≤ k ∧ k ≤ 23 ∧ 2 ≤ i) → σ' k i = σ k i) → Q none σ') : WPd d m_X4_beginChange [.inr (0, 0)] σ Q := by
  obtain ⟨d, rfl⟩ : ∃ k, d = k + 1 := ⟨d - 1, by omega⟩
  intro P hP
  (refine go (t := tb_X4_beginChange) (WPd_mono d) hP 20 [] ?_; (conv => whnf); (repeat' (first | (refine ⟨fun _ => ?_, fun _ => ?_⟩ <;> first | (exfalso; omega) | (conv => whnf)) | (refine ⟨by omega, ?_⟩; conv => whnf) | (intro _; conv => whnf))))
  refine t_X1_keep (by omega) hh.2.2.1 (by rw [hh.1]; exact hh.2.1) hw.1 hw.2.1 (fun σ1 e1 e2 e3 o1 => ?_)
  ((conv => whnf); (repeat' (first | (refine ⟨fun _ => ?_, fun _ => ?_⟩ <;> first | (exfalso; omega) | (conv => whnf)) | (refine ⟨by omega, ?_⟩; conv => whnf) | (intro _; conv => whnf))))
  refine t_X2_forget (by omega) (fun σ2 f1 f2 f3 o2 => ?_)
  ((conv => whnf); (repeat' (first | (refine ⟨fun _ => ?_, fun _ => ?_⟩ <;> first | (exfalso; omega) | (conv => whnf)) | (refine ⟨by omega, ?_⟩; conv => whnf) | (intro _; conv => whnf))))
  have hp := HistR_push hh hw e1 e2 e3 o1
  refine hq σ2 (HistR_off hp (fun k i hk => o2 k i (by omega))) f1 f2 f3 (fun k i h1 h2 h3 => ?_)
  rw [o2 k i h2, o1 k i h1 (by have := hh.2.2.1; omega)]
theorem t_X4_isLayer {d : Nat} (hd : 2 ≤ d) {σ : Sto} {Q : Post} {x : Int} (hx : inR x) (hn : 0 ≤ σ 16 0 7 ∧ σ 16 0 7 ≤ 50) (h1 : 0 ≤ x ∧ x < σ 16 0 7 → Q (some (.inl 1)) σ) (h0 : ¬ (0 ≤ x ∧ x < σ 16 0 7) → Q (some (.inl 0)) σ) : WPd d m_X4_isLayer [.inr (0, 0), .inl x] σ Q := by
  obtain ⟨d, rfl⟩ : ∃ k, d = k + 1 := ⟨d - 1, by omega⟩
  intro P hP
  (refine go (t := tb_X4_isLayer) (WPd_mono d) hP 20 [] ?_; (conv => whnf); (repeat' (first | (refine ⟨fun _ => ?_, fun _ => ?_⟩ <;> first | (exfalso; omega) | (conv => whnf)) | (refine ⟨by omega, ?_⟩; conv => whnf) | (intro _; conv => whnf))))
  refine t_X4_isWithin (by omega) hx (by omega) (by omega) (fun q => ?_) (fun q => ?_)
  · ((conv => whnf); (repeat' (first | (refine ⟨fun _ => ?_, fun _ => ?_⟩ <;> first | (exfalso; omega) | (conv => whnf)) | (refine ⟨by omega, ?_⟩; conv => whnf) | (intro _; conv => whnf))))
    exact h1 (by omega)
  · ((conv => whnf); (repeat' (first | (refine ⟨fun _ => ?_, fun _ => ?_⟩ <;> first | (exfalso; omega) | (conv => whnf)) | (refine ⟨by omega, ?_⟩; conv => whnf) | (intro _; conv => whnf))))
    exact h0 (by omega)
theorem t_X4_isPlace {d : Nat} (hd : 2 ≤ d) {σ : Sto} {Q : Post} {x : Int} (hx : inR x) (hn : 0 ≤ σ 16 0 7 ∧ σ 16 0 7 ≤ 50) (h1 : 0 ≤ x ∧ x ≤ σ 16 0 7 → Q (some (.inl 1)) σ) (h0 : ¬ (0 ≤ x ∧ x ≤ σ 16 0 7) → Q (some (.inl 0)) σ) : WPd d m_X4_isPlace [.inr (0, 0), .inl x] σ Q := by
  obtain ⟨d, rfl⟩ : ∃ k, d = k + 1 := ⟨d - 1, by omega⟩
  intro P hP
  (refine go (t := tb_X4_isPlace) (WPd_mono d) hP 20 [] ?_; (conv => whnf); (repeat' (first | (refine ⟨fun _ => ?_, fun _ => ?_⟩ <;> first | (exfalso; omega) | (conv => whnf)) | (refine ⟨by omega, ?_⟩; conv => whnf) | (intro _; conv => whnf))))
  refine t_X4_isWithin (by omega) hx (by omega) (by omega) (fun q => ?_) (fun q => ?_)
  · ((conv => whnf); (repeat' (first | (refine ⟨fun _ => ?_, fun _ => ?_⟩ <;> first | (exfalso; omega) | (conv => whnf)) | (refine ⟨by omega, ?_⟩; conv => whnf) | (intro _; conv => whnf))))
    exact h1 (by omega)
  · ((conv => whnf); (repeat' (first | (refine ⟨fun _ => ?_, fun _ => ?_⟩ <;> first | (exfalso; omega) | (conv => whnf)) | (refine ⟨by omega, ?_⟩; conv => whnf) | (intro _; conv => whnf))))
    exact h0 (by omega)
theorem t_X4_isAsh {d : Nat} (hd : 2 ≤ d) {σ : Sto} {Q : Post} {x : Int} (hx : inR x) (hn : 0 ≤ σ 16 0 8 ∧ σ 16 0 8 ≤ 6) (h1 : 0 ≤ x ∧ x < σ 16 0 8 → Q (some (.inl 1)) σ) (h0 : ¬ (0 ≤ x ∧ x < σ 16 0 8) → Q (some (.inl 0)) σ) : WPd d m_X4_isAsh [.inr (0, 0), .inl x] σ Q := by
  obtain ⟨d, rfl⟩ : ∃ k, d = k + 1 := ⟨d - 1, by omega⟩
  intro P hP
  (refine go (t := tb_X4_isAsh) (WPd_mono d) hP 20 [] ?_; (conv => whnf); (repeat' (first | (refine ⟨fun _ => ?_, fun _ => ?_⟩ <;> first | (exfalso; omega) | (conv => whnf)) | (refine ⟨by omega, ?_⟩; conv => whnf) | (intro _; conv => whnf))))
  refine t_X4_isWithin (by omega) hx (by omega) (by omega) (fun q => ?_) (fun q => ?_)
  · ((conv => whnf); (repeat' (first | (refine ⟨fun _ => ?_, fun _ => ?_⟩ <;> first | (exfalso; omega) | (conv => whnf)) | (refine ⟨by omega, ?_⟩; conv => whnf) | (intro _; conv => whnf))))
    exact h1 (by omega)
  · ((conv => whnf); (repeat' (first | (refine ⟨fun _ => ?_, fun _ => ?_⟩ <;> first | (exfalso; omega) | (conv => whnf)) | (refine ⟨by omega, ?_⟩; conv => whnf) | (intro _; conv => whnf))))
    exact h0 (by omega)
theorem t_X4_isAshOfRange {d : Nat} (hd : 2 ≤ d) {σ : Sto} {Q : Post} {p a u : Int} (hp : inR p) (ha : inR a) (hu : inR u) (hn : 0 ≤ σ 16 0 7 ∧ σ 16 0 7 ≤ 50) (h1 : (1 ≤ p ∧ p ≤ σ 16 0 7) ∧ (0 ≤ a ∧ a ≤ 500) ∧ (0 ≤ u ∧ u ≤ 9) → Q (some (.inl 1)) σ) (h0 : ¬ ((1 ≤ p ∧ p ≤ σ 16 0 7) ∧ (0 ≤ a ∧ a ≤ 500) ∧ (0 ≤ u ∧ u ≤ 9)) → Q (some (.inl 0)) σ) : WPd d m_X4_isAshOfRange [.inr (0, 0), .inl p, .inl a, .inl u] σ Q := by
  obtain ⟨d, rfl⟩ : ∃ k, d = k + 1 := ⟨d - 1, by omega⟩
  intro P hP
  (refine go (t := tb_X4_isAshOfRange) (WPd_mono d) hP 40 [] ?_; (conv => whnf); (repeat' (first | (refine ⟨fun _ => ?_, fun _ => ?_⟩ <;> first | (exfalso; omega) | (conv => whnf)) | (refine ⟨by omega, ?_⟩; conv => whnf) | (intro _; conv => whnf))))
  refine t_X4_isWithin (by omega) hp (by omega) (by omega) (fun q => ?_) (fun q => ?_)
  · ((conv => whnf); (repeat' (first | (refine ⟨fun _ => ?_, fun _ => ?_⟩ <;> first | (exfalso; omega) | (conv => whnf)) | (refine ⟨by omega, ?_⟩; conv => whnf) | (intro _; conv => whnf))))
    refine t_X4_isWithin (by omega) ha (by omega) (by omega) (fun q => ?_) (fun q => ?_)
    · ((conv => whnf); (repeat' (first | (refine ⟨fun _ => ?_, fun _ => ?_⟩ <;> first | (exfalso; omega) | (conv => whnf)) | (refine ⟨by omega, ?_⟩; conv => whnf) | (intro _; conv => whnf))))
      refine t_X4_isWithin (by omega) hu (by omega) (by omega) (fun q => ?_) (fun q => ?_)
      · ((conv => whnf); (repeat' (first | (refine ⟨fun _ => ?_, fun _ => ?_⟩ <;> first | (exfalso; omega) | (conv => whnf)) | (refine ⟨by omega, ?_⟩; conv => whnf) | (intro _; conv => whnf))))
        exact h1 (by omega)
      · ((conv => whnf); (repeat' (first | (refine ⟨fun _ => ?_, fun _ => ?_⟩ <;> first | (exfalso; omega) | (conv => whnf)) | (refine ⟨by omega, ?_⟩; conv => whnf) | (intro _; conv => whnf))))
        exact h0 (by omega)
    · ((conv => whnf); (repeat' (first | (refine ⟨fun _ => ?_, fun _ => ?_⟩ <;> first | (exfalso; omega) | (conv => whnf)) | (refine ⟨by omega, ?_⟩; conv => whnf) | (intro _; conv => whnf))))
      exact h0 (by omega)
  · ((conv => whnf); (repeat' (first | (refine ⟨fun _ => ?_, fun _ => ?_⟩ <;> first | (exfalso; omega) | (conv => whnf)) | (refine ⟨by omega, ?_⟩; conv => whnf) | (intro _; conv => whnf))))
    exact h0 (by omega)
def frC (σ σ' : Sto) : Prop := ∀ k i, 26 ≤ k → σ' k i = σ k i
theorem ClassR_chg {σ σ1 σ2 : Sto} {h' : Int} {HK' : Int → KV} {tl : Int} {tx : Int → Int} {K' : KV} (g1 : HistR σ1 h' HK') (g2 : σ1 3 0 12 = 0) (g3 : σ1 3 0 13 = 0) (g4 : σ1 3 0 14 = -1) (o1 : ∀ k i, k ≠ 1 → k ≠ 3 → ¬ (16 ≤ k ∧ k ≤ 23 ∧ 2 ≤ i) → σ1 k i = σ k i) (o2 : offC 0 σ1 σ2) (htx : TxtR σ tl tx) (e2 : vwC σ2 0 = K') (hw : WFK K') : ClassR σ2 K' h' HK' tl tx ∧ frC σ σ2 := by
  refine ⟨⟨e2, hw, HistR_off g1 (fun k i hk => o2 k i (by omega)), TxtR_off htx (fun k i hk => ?_), RecOk_0 ?_ ?_ ?_⟩, fun k i hk => ?_⟩
  · rw [o2 k i (by omega), o1 k i (by omega) (by omega) (by omega)]
  · rw [o2 3 0 (by omega)]
    exact g2
  · rw [o2 3 0 (by omega)]
    exact g3
  · rw [o2 3 0 (by omega)]
    exact g4
  · rw [o2 k i (by omega), o1 k i (by omega) (by omega) (by omega)]
theorem vw_in {σ : Sto} {c j : Int} : (0 ≤ j → j < σ 16 c 7 → vwC σ c 0 j = σ 17 c j ∧ vwC σ c 1 j = σ 18 c j ∧ vwC σ c 2 j = σ 19 c j) ∧ (0 ≤ j → j < σ 16 c 8 → vwC σ c 3 j = σ 20 c j ∧ vwC σ c 4 j = σ 21 c j ∧ vwC σ c 5 j = σ 22 c j) ∧ (0 ≤ j → j < 4 → vwC σ c 6 j = σ 23 c j) :=
  ⟨fun h0 h1 => ⟨mask_in h0 h1, mask_in h0 h1, mask_in h0 h1⟩, fun h0 h1 => ⟨mask_in h0 h1, mask_in h0 h1, mask_in h0 h1⟩, fun h0 h1 => mask_in h0 h1⟩
/-- what the start of a change leaves of the core -/
theorem core_kept {σ σ1 : Sto} (o1 : ∀ k i, k ≠ 1 → k ≠ 3 → ¬ (16 ≤ k ∧ k ≤ 23 ∧ 2 ≤ i) → σ1 k i = σ k i) : vwC σ1 0 = vwC σ 0 ∧ ∀ k, 16 ≤ k → k ≤ 23 → σ1 k 0 = σ k 0 := ⟨vwC_cg fun k h1 h2 => o1 k 0 (by omega) (by omega) (by omega), fun k h1 h2 => o1 k 0 (by omega) (by omega) (by omega)⟩
theorem t_X4_addLayer {d : Nat} (hd : 5 ≤ d) {σ : Sto} {Q : Post} {K : KV} {h : Int} {HK : Int → KV} {tl : Int} {tx : Int → Int} {i t k m : Int} (hC : ClassR σ K h HK tl tx) (hi : inR i) (ht : inR t) (hk : inR k) (hm : inR m) (hbad : ¬ ((0 ≤ i ∧ i ≤ K 7 0) ∧ (1 ≤ t ∧ t ≤ 99) ∧ (0 ≤ k ∧ k ≤ 2) ∧ (0 ≤ m ∧ m ≤ 20)) → Q (some (.inl (-1))) σ) (hful : (0 ≤ i ∧ i ≤ K 7 0) ∧ (1 ≤ t ∧ t ≤ 99) ∧ (0 ≤ k ∧ k ≤ 2) ∧ (0 ≤ m ∧ m ≤ 20) → K 7 0 = 50 → Q (some (.inl (-3))) σ) (hok : (0 ≤ i ∧ i ≤ K 7 0) ∧ (1 ≤ t ∧ t ≤ 99) ∧ (0 ≤ k ∧ k ≤ 2) ∧ (0 ≤ m ∧ m ≤ 20) → K 7 0 < 50 → ∀ σ', ClassR σ' (insK K i t k m) (min 6 (h + 1)) (pushH h HK K) tl tx → frC σ σ' → Q (some (.inl (K 7 0 + 1))) σ') : WPd d m_X4_addLayer [.inr (0, 0), .inl i, .inl t, .inl k, .inl m] σ Q := by
  obtain ⟨d, rfl⟩ : ∃ k, d = k + 1 := ⟨d - 1, by omega⟩
  intro P hP
  obtain ⟨rfl, hw, hh, htx, hr⟩ := hC
  have hn := hw.1
  rw [vw_n] at hn hbad hful hok
  (refine go (t := tb_X4_addLayer) (WPd_mono d) hP 60 [] ?_; (conv => whnf); (repeat' (first | (refine ⟨fun _ => ?_, fun _ => ?_⟩ <;> first | (exfalso; omega) | (conv => whnf)) | (refine ⟨by omega, ?_⟩; conv => whnf) | (intro _; conv => whnf))))
  refine t_X4_isWithin (by omega) hi (by omega) (by omega) (fun q1 => ?_) (fun q => ?_)
  · ((conv => whnf); (repeat' (first | (refine ⟨fun _ => ?_, fun _ => ?_⟩ <;> first | (exfalso; omega) | (conv => whnf)) | (refine ⟨by omega, ?_⟩; conv => whnf) | (intro _; conv => whnf))))
    refine t_X4_isWithin (by omega) ht (by omega) (by omega) (fun q2 => ?_) (fun q => ?_)
    · ((conv => whnf); (repeat' (first | (refine ⟨fun _ => ?_, fun _ => ?_⟩ <;> first | (exfalso; omega) | (conv => whnf)) | (refine ⟨by omega, ?_⟩; conv => whnf) | (intro _; conv => whnf))))
      refine t_X4_isWithin (by omega) hk (by omega) (by omega) (fun q3 => ?_) (fun q => ?_)
      · ((conv => whnf); (repeat' (first | (refine ⟨fun _ => ?_, fun _ => ?_⟩ <;> first | (exfalso; omega) | (conv => whnf)) | (refine ⟨by omega, ?_⟩; conv => whnf) | (intro _; conv => whnf))))
        refine t_X4_isWithin (by omega) hm (by omega) (by omega) (fun q4 => ?_) (fun q => ?_)
        · ((conv => whnf); (repeat' (first | (refine ⟨fun _ => ?_, fun _ => ?_⟩ <;> first | (exfalso; omega) | (conv => whnf)) | (refine ⟨by omega, ?_⟩; conv => whnf) | (intro _; conv => whnf))))
          · refine t_X4_beginChange (by omega) hh hw (fun σ1 g1 g2 g3 g4 o1 => ?_)
            have ec : vwC σ1 0 = vwC σ 0 := vwC_cg fun k h1 h2 => o1 k 0 (by omega) (by omega) (by omega)
            have e16 : σ1 16 0 = σ 16 0 := o1 16 0 (by omega) (by omega) (by omega)
            have e20 : σ1 20 0 = σ 20 0 := o1 20 0 (by omega) (by omega) (by omega)
            ((conv => whnf); (repeat' (first | (refine ⟨fun _ => ?_, fun _ => ?_⟩ <;> first | (exfalso; omega) | (conv => whnf)) | (refine ⟨by omega, ?_⟩; conv => whnf) | (intro _; conv => whnf))))
            refine t_X0_insertLayer (by omega) (by rw [e16]; omega) (by rw [e16]; exact hw.2.1) (by rw [e16]; exact q1) ht hk hm (fun j j0 j1 => ?_) (fun σ2 e2 o2 => ?_)
            · rw [e16] at j1
              rw [e20]
              have := (hw.2.2.2.1 j j0 j1).1
              rw [show vwC σ 0 3 j = σ 20 0 j from mask_in j0 j1] at this
              have := hn
              have e7 := vw_n σ 0
              omega
            · rw [ec] at e2
              have e7 : σ2 16 0 7 = σ 16 0 7 + 1 := by
                rw [← vw_n σ2 0, e2]
                rfl
              ((conv => whnf); (repeat' (first | (refine ⟨fun _ => ?_, fun _ => ?_⟩ <;> first | (exfalso; omega) | (conv => whnf)) | (refine ⟨by omega, ?_⟩; conv => whnf) | (intro _; conv => whnf))))
              rw [e7]
              obtain ⟨r1, r2⟩ := ClassR_chg g1 g2 g3 g4 o1 o2 htx e2 (WFK_ins hw (by rw [vw_n]; omega) (by rw [vw_n]; exact q1) q2 q3 q4)
              exact hok ⟨q1, q2, q3, q4⟩ (by omega) σ2 r1 r2
          · exact hful ⟨q1, q2, q3, q4⟩ (by omega)
        · ((conv => whnf); (repeat' (first | (refine ⟨fun _ => ?_, fun _ => ?_⟩ <;> first | (exfalso; omega) | (conv => whnf)) | (refine ⟨by omega, ?_⟩; conv => whnf) | (intro _; conv => whnf))))
          exact hbad (by omega)
      · ((conv => whnf); (repeat' (first | (refine ⟨fun _ => ?_, fun _ => ?_⟩ <;> first | (exfalso; omega) | (conv => whnf)) | (refine ⟨by omega, ?_⟩; conv => whnf) | (intro _; conv => whnf))))
        exact hbad (by omega)
    · ((conv => whnf); (repeat' (first | (refine ⟨fun _ => ?_, fun _ => ?_⟩ <;> first | (exfalso; omega) | (conv => whnf)) | (refine ⟨by omega, ?_⟩; conv => whnf) | (intro _; conv => whnf))))
      exact hbad (by omega)
  · ((conv => whnf); (repeat' (first | (refine ⟨fun _ => ?_, fun _ => ?_⟩ <;> first | (exfalso; omega) | (conv => whnf)) | (refine ⟨by omega, ?_⟩; conv => whnf) | (intro _; conv => whnf))))
    exact hbad (by omega)
theorem t_X4_removeLayer {d : Nat} (hd : 5 ≤ d) {σ : Sto} {Q : Post} {K : KV} {h : Int} {HK : Int → KV} {tl : Int} {tx : Int → Int} {i : Int} (hC : ClassR σ K h HK tl tx) (hi : inR i) (hbad : ¬ (0 ≤ i ∧ i < K 7 0) → Q (some (.inl (-1))) σ) (hok : 0 ≤ i ∧ i < K 7 0 → ∀ σ', ClassR σ' (remK K i) (min 6 (h + 1)) (pushH h HK K) tl tx → frC σ σ' → Q (some (.inl (K 7 0 - 1))) σ') : WPd d m_X4_removeLayer [.inr (0, 0), .inl i] σ Q := by
  obtain ⟨d, rfl⟩ : ∃ k, d = k + 1 := ⟨d - 1, by omega⟩
  intro P hP
  obtain ⟨rfl, hw, hh, htx, hr⟩ := hC
  have hn := hw.1
  rw [vw_n] at hn hbad hok
  (refine go (t := tb_X4_removeLayer) (WPd_mono d) hP 60 [] ?_; (conv => whnf); (repeat' (first | (refine ⟨fun _ => ?_, fun _ => ?_⟩ <;> first | (exfalso; omega) | (conv => whnf)) | (refine ⟨by omega, ?_⟩; conv => whnf) | (intro _; conv => whnf))))
  refine t_X4_isLayer (by omega) hi hn (fun q1 => ?_) (fun q => ?_)
  · ((conv => whnf); (repeat' (first | (refine ⟨fun _ => ?_, fun _ => ?_⟩ <;> first | (exfalso; omega) | (conv => whnf)) | (refine ⟨by omega, ?_⟩; conv => whnf) | (intro _; conv => whnf))))
    refine t_X4_beginChange (by omega) hh hw (fun σ1 g1 g2 g3 g4 o1 => ?_)
    obtain ⟨ec, ek⟩ := core_kept o1
    have e16 := ek 16 (by omega) (by omega)
    have e20 := ek 20 (by omega) (by omega)
    ((conv => whnf); (repeat' (first | (refine ⟨fun _ => ?_, fun _ => ?_⟩ <;> first | (exfalso; omega) | (conv => whnf)) | (refine ⟨by omega, ?_⟩; conv => whnf) | (intro _; conv => whnf))))
    refine t_X0_deleteLayer (by omega) (by rw [e16]; exact hn) (by rw [e16]; exact hw.2.1) (by rw [e16]; exact q1) (fun j j0 j1 => ?_) (fun σ2 e2 o2 => ?_)
    · rw [e16] at j1
      rw [e20]
      have a := (hw.2.2.2.1 j j0 j1).1
      rw [(vw_in.2.1 j0 j1).1, vw_n] at a
      omega
    · rw [ec] at e2
      have e7 : σ2 16 0 7 = σ 16 0 7 - 1 := by
        rw [← vw_n σ2 0, e2]
        unfold remK
        split <;> rfl
      ((conv => whnf); (repeat' (first | (refine ⟨fun _ => ?_, fun _ => ?_⟩ <;> first | (exfalso; omega) | (conv => whnf)) | (refine ⟨by omega, ?_⟩; conv => whnf) | (intro _; conv => whnf))))
      rw [e7]
      obtain ⟨r1, r2⟩ := ClassR_chg g1 g2 g3 g4 o1 o2 htx e2 (WFK_rem hw (by rw [vw_n]; exact q1))
      exact hok q1 σ2 r1 r2
  · ((conv => whnf); (repeat' (first | (refine ⟨fun _ => ?_, fun _ => ?_⟩ <;> first | (exfalso; omega) | (conv => whnf)) | (refine ⟨by omega, ?_⟩; conv => whnf) | (intro _; conv => whnf))))
    exact hbad q
theorem t_X4_leastProperty {d : Nat} (hd : 1 ≤ d) {σ : Sto} {Q : Post} {w : Int} (hw : inR w) (h : Q (some (.inl (if w = 0 then 1 else 0))) σ) : WPd d m_X4_leastProperty [.inl w] σ Q := by
  obtain ⟨d, rfl⟩ : ∃ k, d = k + 1 := ⟨d - 1, by omega⟩
  intro P hP
  (refine go (t := tb_X4_leastProperty) (WPd_mono d) hP 20 [] ?_; (conv => whnf); (repeat' (first | (refine ⟨fun _ => ?_, fun _ => ?_⟩ <;> first | (exfalso; omega) | (conv => whnf)) | (refine ⟨by omega, ?_⟩; conv => whnf) | (intro _; conv => whnf))))
  · rwa [if_neg (by assumption)] at h
  · rwa [if_pos (by assumption)] at h
theorem t_X4_mostProperty {d : Nat} (hd : 1 ≤ d) {σ : Sto} {Q : Post} {w : Int} (hw : inR w) (h : Q (some (.inl (if w = 0 then 99 else if w = 1 then 2 else 20))) σ) : WPd d m_X4_mostProperty [.inl w] σ Q := by
  obtain ⟨d, rfl⟩ : ∃ k, d = k + 1 := ⟨d - 1, by omega⟩
  intro P hP
  (refine go (t := tb_X4_mostProperty) (WPd_mono d) hP 20 [] ?_; (conv => whnf); (repeat' (first | (refine ⟨fun _ => ?_, fun _ => ?_⟩ <;> first | (exfalso; omega) | (conv => whnf)) | (refine ⟨by omega, ?_⟩; conv => whnf) | (intro _; conv => whnf))))
  all_goals first | (rwa [if_pos (by omega)] at h) | (rwa [if_neg (by omega), if_pos (by omega)] at h) | (rwa [if_neg (by omega), if_neg (by omega)] at h)
def lowP (w : Int) : Int := if w = 0 then 1 else 0
def topP (w : Int) : Int := if w = 0 then 99 else if w = 1 then 2 else 20
theorem set_mk {σ : Sto} {i v : Int} {k : Nat} (hk : k = 17 ∨ k = 18 ∨ k = 19) (hi : 0 ≤ i ∧ i < σ 16 0 7) : vwC (upS σ k 0 i v) 0 = setLK (vwC σ 0) i ((k : Int) - 17) v := by
  have key : ∀ f : Int → Int, mask (σ 16 0 7) (fun j' => if j' = i then v else f j') = setM (mask (σ 16 0 7) f) i v := by
    intro f
    funext j
    simp only [mask, setM]
    ((repeat' split) <;> first | rfl | (exfalso; omega) | (congr 1; omega) | omega)
  funext q
  rcases hk with rfl | rfl | rfl <;> unfold vwC setLK <;> (try simp only [setR_same, setR_nk, upS_setR, cpS_setR, setR_setR, ne_eq, Nat.reduceEqDiff, not_false_eq_true, Int.reduceEq, ↓reduceIte]) <;> rcases q with _ | _ | _ | _ | _ | _ | _ | _ | q <;> first | rfl | exact key _ | (rw [if_neg (by omega)]; rfl)
theorem t_X4_setLayer {d : Nat} (hd : 5 ≤ d) {σ : Sto} {Q : Post} {K : KV} {h : Int} {HK : Int → KV} {tl : Int} {tx : Int → Int} {i w v : Int} (hC : ClassR σ K h HK tl tx) (hi : inR i) (hw0 : inR w) (hv : inR v) (hbad : ¬ ((0 ≤ i ∧ i < K 7 0) ∧ (0 ≤ w ∧ w ≤ 2) ∧ (lowP w ≤ v ∧ v ≤ topP w)) → Q (some (.inl (-1))) σ) (hok : (0 ≤ i ∧ i < K 7 0) ∧ (0 ≤ w ∧ w ≤ 2) ∧ (lowP w ≤ v ∧ v ≤ topP w) → ∀ σ', ClassR σ' (setLK K i w v) (min 6 (h + 1)) (pushH h HK K) tl tx → frC σ σ' → Q (some (.inl (K w.toNat i))) σ') : WPd d m_X4_setLayer [.inr (0, 0), .inl i, .inl w, .inl v] σ Q := by
  obtain ⟨d, rfl⟩ : ∃ k, d = k + 1 := ⟨d - 1, by omega⟩
  intro P hP
  obtain ⟨rfl, hw, hh, htx, hr⟩ := hC
  have hn := hw.1
  rw [vw_n] at hn hbad hok
  have bl : 0 ≤ lowP w ∧ lowP w ≤ 1 := by unfold lowP; split <;> omega
  have bt : 2 ≤ topP w ∧ topP w ≤ 99 := by unfold topP; split <;> (try split) <;> omega
  (refine go (t := tb_X4_setLayer) (WPd_mono d) hP 60 [] ?_; (conv => whnf); (repeat' (first | (refine ⟨fun _ => ?_, fun _ => ?_⟩ <;> first | (exfalso; omega) | (conv => whnf)) | (refine ⟨by omega, ?_⟩; conv => whnf) | (intro _; conv => whnf))))
  refine t_X4_isLayer (by omega) hi hn (fun q1 => ?_) (fun q => ?_)
  · ((conv => whnf); (repeat' (first | (refine ⟨fun _ => ?_, fun _ => ?_⟩ <;> first | (exfalso; omega) | (conv => whnf)) | (refine ⟨by omega, ?_⟩; conv => whnf) | (intro _; conv => whnf))))
    refine t_X4_isWithin (by omega) hw0 (by omega) (by omega) (fun q2 => ?_) (fun q => ?_)
    · ((conv => whnf); (repeat' (first | (refine ⟨fun _ => ?_, fun _ => ?_⟩ <;> first | (exfalso; omega) | (conv => whnf)) | (refine ⟨by omega, ?_⟩; conv => whnf) | (intro _; conv => whnf))))
      refine t_X4_leastProperty (by omega) hw0 ?_
      ((conv => whnf); (repeat' (first | (refine ⟨fun _ => ?_, fun _ => ?_⟩ <;> first | (exfalso; omega) | (conv => whnf)) | (refine ⟨by omega, ?_⟩; conv => whnf) | (intro _; conv => whnf))))
      refine t_X4_mostProperty (by omega) hw0 ?_
      ((conv => whnf); (repeat' (first | (refine ⟨fun _ => ?_, fun _ => ?_⟩ <;> first | (exfalso; omega) | (conv => whnf)) | (refine ⟨by omega, ?_⟩; conv => whnf) | (intro _; conv => whnf))))
      refine t_X4_isWithin (by omega) hv (show inR (lowP w) by omega) (show inR (topP w) by omega) (fun q3 => ?_) (fun q => ?_)
      · have q3 : lowP w ≤ v ∧ v ≤ topP w := q3
        have hvv : (w = 0 ∧ 1 ≤ v ∧ v ≤ 99) ∨ (w = 1 ∧ 0 ≤ v ∧ v ≤ 2) ∨ (w = 2 ∧ 0 ≤ v ∧ v ≤ 20) := by
          unfold lowP topP at q3
          rcases (show w = 0 ∨ w = 1 ∨ w = 2 by omega) with e | e | e <;> subst e <;> simp at q3 <;> omega
        have fin : ∀ (k : Nat) (r : Int), (k = 17 ∨ k = 18 ∨ k = 19) → w = (k : Int) - 17 → r = vwC σ 0 w.toNat i → ∀ σ1, HistR σ1 (min 6 (h + 1)) (pushH h HK (vwC σ 0)) → σ1 3 0 12 = 0 → σ1 3 0 13 = 0 → σ1 3 0 14 = -1 → (∀ k i, k ≠ 1 → k ≠ 3 → ¬ (16 ≤ k ∧ k ≤ 23 ∧ 2 ≤ i) → σ1 k i = σ k i) → Q (some (.inl r)) (upS σ1 k 0 i v) := by
          intro k r hk hwk hr0 σ1 g1 g2 g3 g4 o1
          obtain ⟨ec, ek⟩ := core_kept o1
          have e2 := set_mk (σ := σ1) (v := v) hk (by rw [ek 16 (by omega) (by omega)]; exact q1)
          rw [ec, ← hwk] at e2
          obtain ⟨r1, r2⟩ := ClassR_chg g1 g2 g3 g4 o1 (offC.rf.up (by omega)) htx e2 (WFK_setL hw (by rw [vw_n]; exact q1) hvv)
          rw [hr0]
          exact hok ⟨q1, q2, q3⟩ _ r1 r2
        ((conv => whnf); (repeat' (first | (refine ⟨fun _ => ?_, fun _ => ?_⟩ <;> first | (exfalso; omega) | (conv => whnf)) | (refine ⟨by omega, ?_⟩; conv => whnf) | (intro _; conv => whnf))))
        refine t_X0_layerProperties (by omega) q2 (fun e => ?_) (fun e => ?_) (fun e => ?_)
        · ((conv => whnf); (repeat' (first | (refine ⟨fun _ => ?_, fun _ => ?_⟩ <;> first | (exfalso; omega) | (conv => whnf)) | (refine ⟨by omega, ?_⟩; conv => whnf) | (intro _; conv => whnf))))
          refine t_X4_beginChange (by omega) hh hw (fun σ1 g1 g2 g3 g4 o1 => ?_)
          ((conv => whnf); (repeat' (first | (refine ⟨fun _ => ?_, fun _ => ?_⟩ <;> first | (exfalso; omega) | (conv => whnf)) | (refine ⟨by omega, ?_⟩; conv => whnf) | (intro _; conv => whnf))))
          exact fin 17 _ (by omega) (by omega) (by rw [e]; exact (vw_in.1 q1.1 q1.2).1.symm) σ1 g1 g2 g3 g4 o1
        · ((conv => whnf); (repeat' (first | (refine ⟨fun _ => ?_, fun _ => ?_⟩ <;> first | (exfalso; omega) | (conv => whnf)) | (refine ⟨by omega, ?_⟩; conv => whnf) | (intro _; conv => whnf))))
          refine t_X4_beginChange (by omega) hh hw (fun σ1 g1 g2 g3 g4 o1 => ?_)
          ((conv => whnf); (repeat' (first | (refine ⟨fun _ => ?_, fun _ => ?_⟩ <;> first | (exfalso; omega) | (conv => whnf)) | (refine ⟨by omega, ?_⟩; conv => whnf) | (intro _; conv => whnf))))
          exact fin 18 _ (by omega) (by omega) (by rw [e]; exact (vw_in.1 q1.1 q1.2).2.1.symm) σ1 g1 g2 g3 g4 o1
        · ((conv => whnf); (repeat' (first | (refine ⟨fun _ => ?_, fun _ => ?_⟩ <;> first | (exfalso; omega) | (conv => whnf)) | (refine ⟨by omega, ?_⟩; conv => whnf) | (intro _; conv => whnf))))
          refine t_X4_beginChange (by omega) hh hw (fun σ1 g1 g2 g3 g4 o1 => ?_)
          ((conv => whnf); (repeat' (first | (refine ⟨fun _ => ?_, fun _ => ?_⟩ <;> first | (exfalso; omega) | (conv => whnf)) | (refine ⟨by omega, ?_⟩; conv => whnf) | (intro _; conv => whnf))))
          exact fin 19 _ (by omega) (by omega) (by rw [e]; exact (vw_in.1 q1.1 q1.2).2.2.symm) σ1 g1 g2 g3 g4 o1
      · ((conv => whnf); (repeat' (first | (refine ⟨fun _ => ?_, fun _ => ?_⟩ <;> first | (exfalso; omega) | (conv => whnf)) | (refine ⟨by omega, ?_⟩; conv => whnf) | (intro _; conv => whnf))))
        exact hbad (fun e => q e.2.2)
    · ((conv => whnf); (repeat' (first | (refine ⟨fun _ => ?_, fun _ => ?_⟩ <;> first | (exfalso; omega) | (conv => whnf)) | (refine ⟨by omega, ?_⟩; conv => whnf) | (intro _; conv => whnf))))
      exact hbad (fun e => q e.2.1)
  · ((conv => whnf); (repeat' (first | (refine ⟨fun _ => ?_, fun _ => ?_⟩ <;> first | (exfalso; omega) | (conv => whnf)) | (refine ⟨by omega, ?_⟩; conv => whnf) | (intro _; conv => whnf))))
    exact hbad (fun e => q e.1)
