/-! THE MODEL: its changes and plain answers -/
def vwM (f : Int → Int) : KV := mkV (f 0) (f 151) (fun j => f (1 + j)) (fun j => f (51 + j)) (fun j => f (101 + j)) (fun j => f (152 + j)) (fun j => f (158 + j)) (fun j => f (164 + j)) (fun j => f (170 + j))
def HistM (σ : Sto) (h : Int) (HK : Int → KV) : Prop := σ 26 0 2 = h ∧ (0 ≤ h ∧ h ≤ 6) ∧ ∀ s, 0 ≤ s → s < h → vwM (fun j => σ 28 0 (174 * s + j)) = HK s ∧ WFK (HK s)
def TxtM (σ : Sto) (tl : Int) (tx : Int → Int) : Prop := σ 26 0 4 = tl ∧ (0 ≤ tl ∧ tl ≤ 90) ∧ ∀ j, 0 ≤ j → j < tl → σ 29 0 j = tx j ∧ (32 ≤ tx j ∧ tx j ≤ 126)
def ModelR (σ : Sto) (K : KV) (h : Int) (HK : Int → KV) (tl : Int) (tx : Int → Int) : Prop := vwM (σ 27 0) = K ∧ WFK K ∧ HistM σ h HK ∧ TxtM σ tl tx
theorem vm_n (f : Int → Int) : vwM f 7 0 = f 0 := rfl
theorem vm_a (f : Int → Int) : vwM f 7 1 = f 151 := rfl
theorem vm_in {f : Int → Int} {j : Int} : (0 ≤ j → j < f 0 → vwM f 0 j = f (1 + j) ∧ vwM f 1 j = f (51 + j) ∧ vwM f 2 j = f (101 + j)) ∧ (0 ≤ j → j < f 151 → vwM f 3 j = f (152 + j) ∧ vwM f 4 j = f (158 + j) ∧ vwM f 5 j = f (164 + j)) ∧ (0 ≤ j → j < 4 → vwM f 6 j = f (170 + j)) :=
  ⟨fun h0 h1 => ⟨mask_in (f := fun j => f (1 + j)) h0 h1, mask_in (f := fun j => f (51 + j)) h0 h1, mask_in (f := fun j => f (101 + j)) h0 h1⟩, fun h0 h1 => ⟨mask_in (f := fun j => f (152 + j)) h0 h1, mask_in (f := fun j => f (158 + j)) h0 h1, mask_in (f := fun j => f (164 + j)) h0 h1⟩, fun h0 h1 => mask_in (f := fun j => f (170 + j)) h0 h1⟩
theorem vm_cg {f g : Int → Int} (h : ∀ j, 0 ≤ j → j < 174 → f j = g j) (hn : f 0 ≤ 50) (ha : f 151 ≤ 6) : vwM f = vwM g := by
  unfold vwM
  rw [← h 0 (by omega) (by omega), ← h 151 (by omega) (by omega)]
  funext q
  rcases q with _ | _ | _ | _ | _ | _ | _ | _ | q <;> first | rfl | (refine mask_cg fun j j0 j1 => ?_; exact h _ (by omega) (by omega))
theorem ax_vm {f : Int → Int} {p : Int} : ashIx (fun j => f (152 + j)) p (f 151).toNat 0 = axK (vwM f) p := by
  unfold axK
  rw [vm_a]
  exact ashIx_cg _ _ fun j h1 h2 => (mask_in (f := fun j => f (152 + j)) h1 (by omega)).symm
theorem HistM_off {σ σ' : Sto} {h : Int} {HK : Int → KV} (hh : HistM σ h HK) (h1 : σ' 26 0 2 = σ 26 0 2) (h2 : σ' 28 0 = σ 28 0) : HistM σ' h HK := by
  unfold HistM at hh ⊢
  rw [h1, h2]
  exact hh
theorem TxtM_off {σ σ' : Sto} {tl : Int} {tx : Int → Int} (hh : TxtM σ tl tx) (h1 : σ' 26 0 4 = σ 26 0 4) (h2 : σ' 29 0 = σ 29 0) : TxtM σ' tl tx := by
  unfold TxtM at hh ⊢
  rw [h1, h2]
  exact hh
theorem t_X5_in {d : Nat} (hd : 1 ≤ d) {σ : Sto} {Q : Post} {x a b : Int} (hx : inR x) (ha : inR a) (hb : inR b) (h1 : a ≤ x ∧ x ≤ b → Q (some (.inl 1)) σ) (h0 : ¬ (a ≤ x ∧ x ≤ b) → Q (some (.inl 0)) σ) : WPd d m_X5_in [.inl x, .inl a, .inl b] σ Q := by
  obtain ⟨d, rfl⟩ : ∃ k, d = k + 1 := ⟨d - 1, by omega⟩
  intro P hP
  (refine go (t := tb_X5_in) (WPd_mono d) hP 20 [] ?_; (conv => whnf); (repeat' (first | (refine ⟨fun _ => ?_, fun _ => ?_⟩ <;> first | (exfalso; omega) | (conv => whnf)) | (refine ⟨by omega, ?_⟩; conv => whnf) | (intro _; conv => whnf))))
  all_goals first | exact h1 (by omega) | exact h0 (by omega)
theorem t_X5_isLayer {d : Nat} (hd : 2 ≤ d) {σ : Sto} {Q : Post} {x : Int} (hx : inR x) (hn : 0 ≤ σ 27 0 0 ∧ σ 27 0 0 ≤ 50) (h1 : 0 ≤ x ∧ x < σ 27 0 0 → Q (some (.inl 1)) σ) (h0 : ¬ (0 ≤ x ∧ x < σ 27 0 0) → Q (some (.inl 0)) σ) : WPd d m_X5_isLayer [.inr (26, 0), .inl x] σ Q := by
  obtain ⟨d, rfl⟩ : ∃ k, d = k + 1 := ⟨d - 1, by omega⟩
  intro P hP
  (refine go (t := tb_X5_isLayer) (WPd_mono d) hP 20 [] ?_; (conv => whnf); (repeat' (first | (refine ⟨fun _ => ?_, fun _ => ?_⟩ <;> first | (exfalso; omega) | (conv => whnf)) | (refine ⟨by omega, ?_⟩; conv => whnf) | (intro _; conv => whnf))))
  refine t_X5_in (by omega) hx (by omega) (by omega) (fun q => ?_) (fun q => ?_)
  · ((conv => whnf); (repeat' (first | (refine ⟨fun _ => ?_, fun _ => ?_⟩ <;> first | (exfalso; omega) | (conv => whnf)) | (refine ⟨by omega, ?_⟩; conv => whnf) | (intro _; conv => whnf))))
    exact h1 (by omega)
  · ((conv => whnf); (repeat' (first | (refine ⟨fun _ => ?_, fun _ => ?_⟩ <;> first | (exfalso; omega) | (conv => whnf)) | (refine ⟨by omega, ?_⟩; conv => whnf) | (intro _; conv => whnf))))
    exact h0 (by omega)
theorem t_X5_isPlace {d : Nat} (hd : 2 ≤ d) {σ : Sto} {Q : Post} {x : Int} (hx : inR x) (hn : 0 ≤ σ 27 0 0 ∧ σ 27 0 0 ≤ 50) (h1 : 0 ≤ x ∧ x ≤ σ 27 0 0 → Q (some (.inl 1)) σ) (h0 : ¬ (0 ≤ x ∧ x ≤ σ 27 0 0) → Q (some (.inl 0)) σ) : WPd d m_X5_isPlace [.inr (26, 0), .inl x] σ Q := by
  obtain ⟨d, rfl⟩ : ∃ k, d = k + 1 := ⟨d - 1, by omega⟩
  intro P hP
  (refine go (t := tb_X5_isPlace) (WPd_mono d) hP 20 [] ?_; (conv => whnf); (repeat' (first | (refine ⟨fun _ => ?_, fun _ => ?_⟩ <;> first | (exfalso; omega) | (conv => whnf)) | (refine ⟨by omega, ?_⟩; conv => whnf) | (intro _; conv => whnf))))
  refine t_X5_in (by omega) hx (by omega) (by omega) (fun q => ?_) (fun q => ?_)
  · ((conv => whnf); (repeat' (first | (refine ⟨fun _ => ?_, fun _ => ?_⟩ <;> first | (exfalso; omega) | (conv => whnf)) | (refine ⟨by omega, ?_⟩; conv => whnf) | (intro _; conv => whnf))))
    exact h1 (by omega)
  · ((conv => whnf); (repeat' (first | (refine ⟨fun _ => ?_, fun _ => ?_⟩ <;> first | (exfalso; omega) | (conv => whnf)) | (refine ⟨by omega, ?_⟩; conv => whnf) | (intro _; conv => whnf))))
    exact h0 (by omega)
theorem t_X5_isAsh {d : Nat} (hd : 2 ≤ d) {σ : Sto} {Q : Post} {x : Int} (hx : inR x) (hn : 0 ≤ σ 27 0 151 ∧ σ 27 0 151 ≤ 6) (h1 : 0 ≤ x ∧ x < σ 27 0 151 → Q (some (.inl 1)) σ) (h0 : ¬ (0 ≤ x ∧ x < σ 27 0 151) → Q (some (.inl 0)) σ) : WPd d m_X5_isAsh [.inr (26, 0), .inl x] σ Q := by
  obtain ⟨d, rfl⟩ : ∃ k, d = k + 1 := ⟨d - 1, by omega⟩
  intro P hP
  (refine go (t := tb_X5_isAsh) (WPd_mono d) hP 20 [] ?_; (conv => whnf); (repeat' (first | (refine ⟨fun _ => ?_, fun _ => ?_⟩ <;> first | (exfalso; omega) | (conv => whnf)) | (refine ⟨by omega, ?_⟩; conv => whnf) | (intro _; conv => whnf))))
  refine t_X5_in (by omega) hx (by omega) (by omega) (fun q => ?_) (fun q => ?_)
  · ((conv => whnf); (repeat' (first | (refine ⟨fun _ => ?_, fun _ => ?_⟩ <;> first | (exfalso; omega) | (conv => whnf)) | (refine ⟨by omega, ?_⟩; conv => whnf) | (intro _; conv => whnf))))
    exact h1 (by omega)
  · ((conv => whnf); (repeat' (first | (refine ⟨fun _ => ?_, fun _ => ?_⟩ <;> first | (exfalso; omega) | (conv => whnf)) | (refine ⟨by omega, ?_⟩; conv => whnf) | (intro _; conv => whnf))))
    exact h0 (by omega)
theorem t_X5_isNewAsh {d : Nat} (hd : 2 ≤ d) {σ : Sto} {Q : Post} {p a u : Int} (hp : inR p) (ha : inR a) (hu : inR u) (hn : 0 ≤ σ 27 0 0 ∧ σ 27 0 0 ≤ 50) (h1 : (1 ≤ p ∧ p ≤ σ 27 0 0) ∧ (0 ≤ a ∧ a ≤ 500) ∧ (0 ≤ u ∧ u ≤ 9) → Q (some (.inl 1)) σ) (h0 : ¬ ((1 ≤ p ∧ p ≤ σ 27 0 0) ∧ (0 ≤ a ∧ a ≤ 500) ∧ (0 ≤ u ∧ u ≤ 9)) → Q (some (.inl 0)) σ) : WPd d m_X5_isNewAsh [.inr (26, 0), .inl p, .inl a, .inl u] σ Q := by
  obtain ⟨d, rfl⟩ : ∃ k, d = k + 1 := ⟨d - 1, by omega⟩
  intro P hP
  (refine go (t := tb_X5_isNewAsh) (WPd_mono d) hP 40 [] ?_; (conv => whnf); (repeat' (first | (refine ⟨fun _ => ?_, fun _ => ?_⟩ <;> first | (exfalso; omega) | (conv => whnf)) | (refine ⟨by omega, ?_⟩; conv => whnf) | (intro _; conv => whnf))))
  refine t_X5_in (by omega) hp (by omega) (by omega) (fun q => ?_) (fun q => ?_)
  · ((conv => whnf); (repeat' (first | (refine ⟨fun _ => ?_, fun _ => ?_⟩ <;> first | (exfalso; omega) | (conv => whnf)) | (refine ⟨by omega, ?_⟩; conv => whnf) | (intro _; conv => whnf))))
    refine t_X5_in (by omega) ha (by omega) (by omega) (fun q => ?_) (fun q => ?_)
    · ((conv => whnf); (repeat' (first | (refine ⟨fun _ => ?_, fun _ => ?_⟩ <;> first | (exfalso; omega) | (conv => whnf)) | (refine ⟨by omega, ?_⟩; conv => whnf) | (intro _; conv => whnf))))
      refine t_X5_in (by omega) hu (by omega) (by omega) (fun q => ?_) (fun q => ?_)
      · ((conv => whnf); (repeat' (first | (refine ⟨fun _ => ?_, fun _ => ?_⟩ <;> first | (exfalso; omega) | (conv => whnf)) | (refine ⟨by omega, ?_⟩; conv => whnf) | (intro _; conv => whnf))))
        exact h1 (by omega)
      · ((conv => whnf); (repeat' (first | (refine ⟨fun _ => ?_, fun _ => ?_⟩ <;> first | (exfalso; omega) | (conv => whnf)) | (refine ⟨by omega, ?_⟩; conv => whnf) | (intro _; conv => whnf))))
        exact h0 (by omega)
    · ((conv => whnf); (repeat' (first | (refine ⟨fun _ => ?_, fun _ => ?_⟩ <;> first | (exfalso; omega) | (conv => whnf)) | (refine ⟨by omega, ?_⟩; conv => whnf) | (intro _; conv => whnf))))
      exact h0 (by omega)
  · ((conv => whnf); (repeat' (first | (refine ⟨fun _ => ?_, fun _ => ?_⟩ <;> first | (exfalso; omega) | (conv => whnf)) | (refine ⟨by omega, ?_⟩; conv => whnf) | (intro _; conv => whnf))))
    exact h0 (by omega)
theorem t_X5_ashAt {d : Nat} (hd : 1 ≤ d) {σ : Sto} {Q : Post} {w : Int} (hw : inR w) (hn : 0 ≤ σ 27 0 151 ∧ σ 27 0 151 ≤ 6) (h : Q (some (.inl (axK (vwM (σ 27 0)) w))) σ) : WPd d m_X5_ashAt [.inr (26, 0), .inl w] σ Q := by
  obtain ⟨d, rfl⟩ : ∃ k, d = k + 1 := ⟨d - 1, by omega⟩
  intro P hP
  rw [← ax_vm] at h
  have L : ∀ (n : Nat) (i : Int), n = (σ 27 0 151 - i).toNat → 0 ≤ i → i ≤ σ 27 0 151 → Q (some (.inl (ashIx (fun j => σ 27 0 (152 + j)) w n i))) σ → P 2 [.inr (26, 0), .inl w, .inl i] [] σ := by
    intro n
    induction n with
    | zero =>
      intro i hn0 h0 h1 hq
      (refine go (t := tb_X5_ashAt) (WPd_mono d) hP 30 [2] ?_; (conv => whnf); (repeat' (first | (refine ⟨fun _ => ?_, fun _ => ?_⟩ <;> first | (exfalso; omega) | (conv => whnf)) | (refine ⟨by omega, ?_⟩; conv => whnf) | (intro _; conv => whnf))))
      exact hq
    | succ n ih =>
      intro i hn0 h0 h1 hq
      (refine go (t := tb_X5_ashAt) (WPd_mono d) hP 30 [2] ?_; (conv => whnf); (repeat' (first | (refine ⟨fun _ => ?_, fun _ => ?_⟩ <;> first | (exfalso; omega) | (conv => whnf)) | (refine ⟨by omega, ?_⟩; conv => whnf) | (intro _; conv => whnf))))
      · exact ih (i + 1) (by omega) (by omega) (by omega) (by rwa [ashIx, if_neg (by assumption)] at hq)
      · rwa [ashIx, if_pos (by assumption)] at hq
  (refine go (t := tb_X5_ashAt) (WPd_mono d) hP 30 [2] ?_; (conv => whnf); (repeat' (first | (refine ⟨fun _ => ?_, fun _ => ?_⟩ <;> first | (exfalso; omega) | (conv => whnf)) | (refine ⟨by omega, ?_⟩; conv => whnf) | (intro _; conv => whnf))))
  exact L _ 0 (by omega) (by omega) (by omega) h
theorem HistM_push {σ σ' : Sto} {h : Int} {HK : Int → KV} (hh : HistM σ h HK) (hw : WFK (vwM (σ 27 0))) (e1 : σ' 26 0 2 = min 6 (h + 1)) (e2 : ∀ j, 0 ≤ j → j < 174 * h + 174 → σ' 28 0 (if h = 6 then j - 174 else j) = if 174 * h ≤ j then σ 27 0 (j - 174 * h) else if h = 6 ∧ j < 174 then σ' 28 0 (j - 174) else σ 28 0 j) : HistM σ' (min 6 (h + 1)) (pushH h HK (vwM (σ 27 0))) := by
  obtain ⟨h1, h2, h3⟩ := hh
  refine ⟨e1, by omega, fun s s0 s1 => ?_⟩
  unfold pushH
  have wn := hw.1
  have wa := hw.2.1
  rw [vm_n] at wn
  rw [vm_a] at wa
  by_cases q : h = 6
  · rw [if_pos q]
    by_cases q2 : s < 5
    · rw [if_pos q2]
      obtain ⟨a, b⟩ := h3 (s + 1) (by omega) (by omega)
      refine ⟨?_, b⟩
      rw [← a]
      have wn2 := b.1
      have wa2 := b.2.1
      rw [← a, vm_n] at wn2
      rw [← a, vm_a] at wa2
      refine (vm_cg (fun j j0 j1 => ?_) wn2.2 wa2.2).symm
      have := e2 (174 * (s + 1) + j) (by omega) (by omega)
      rw [if_pos q, if_neg (by omega), if_neg (by omega)] at this
      rw [← this]
      congr 1
      omega
    · rw [if_neg q2]
      refine ⟨?_, hw⟩
      refine (vm_cg (fun j j0 j1 => ?_) wn.2 wa.2).symm
      have := e2 (174 * h + j) (by omega) (by omega)
      rw [if_pos q, if_pos (by omega)] at this
      rw [show σ 27 0 j = σ 27 0 (174 * h + j - 174 * h) by congr 1; omega, ← this]
      congr 1
      omega
  · rw [if_neg q]
    by_cases q2 : s < h
    · rw [if_pos q2]
      obtain ⟨a, b⟩ := h3 s s0 q2
      refine ⟨?_, b⟩
      rw [← a]
      have wn2 := b.1
      have wa2 := b.2.1
      rw [← a, vm_n] at wn2
      rw [← a, vm_a] at wa2
      refine (vm_cg (fun j j0 j1 => ?_) wn2.2 wa2.2).symm
      have := e2 (174 * s + j) (by omega) (by omega)
      rw [if_neg q, if_neg (by omega), if_neg (by omega)] at this
      exact this.symm
    · rw [if_neg q2]
      refine ⟨?_, hw⟩
      refine (vm_cg (fun j j0 j1 => ?_) wn.2 wa.2).symm
      have := e2 (174 * h + j) (by omega) (by omega)
      rw [if_neg q, if_pos (by omega)] at this
      rw [show σ 27 0 j = σ 27 0 (174 * h + j - 174 * h) by congr 1; omega, ← this]
      congr 1
      omega
theorem t_X5_records {d : Nat} (hd : 1 ≤ d) {σ : Sto} {Q : Post} {h : Int} {HK : Int → KV} (hh : HistM σ h HK) (hw : WFK (vwM (σ 27 0))) (hq : ∀ σ', HistM σ' (min 6 (h + 1)) (pushH h HK (vwM (σ 27 0))) → (∀ k i, k ≠ 26 → k ≠ 28 → σ' k i = σ k i) → (∀ j, j ≠ 2 → σ' 26 0 j = σ 26 0 j) → Q none σ') : WPd d m_X5_records [.inr (26, 0)] σ Q := by
  obtain ⟨d, rfl⟩ : ∃ k, d = k + 1 := ⟨d - 1, by omega⟩
  intro P hP
  obtain ⟨h1, h2, h3⟩ := id hh
  have L2 : ∀ (n : Nat) (k s : Int) (τ : Sto) (ls : List AV), n = (174 - k).toNat → 0 ≤ k → k ≤ 174 → s = (if h = 6 then 5 else h) → τ 26 0 2 = s → (∀ j, j ≠ 2 → τ 26 0 j = σ 26 0 j) → (∀ k i, k ≠ 26 → k ≠ 28 → τ k i = σ k i) → (∀ j, τ 28 0 j = if 174 * s ≤ j ∧ j < 174 * s + k then σ 27 0 (j - 174 * s) else if h = 6 ∧ 0 ≤ j ∧ j < 870 then σ 28 0 (j + 174) else σ 28 0 j) → P 52 [.inr (26, 0), .inl k] [] τ := by
    intro n
    induction n with
    | zero =>
      intro k s τ _ hn k0 k1 hs e1 e2 e3 e4
      have ek : k = 174 := by omega
      subst ek
      have hs2 : (h = 6 ∧ s = 5) ∨ (h ≠ 6 ∧ s = h) := by
        rw [hs]
        split <;> omega
      (refine go (t := tb_X5_records) (WPd_mono d) hP 60 [52] ?_; (conv => whnf); (repeat' (first | (refine ⟨fun _ => ?_, fun _ => ?_⟩ <;> first | (exfalso; omega) | (conv => whnf)) | (refine ⟨by omega, ?_⟩; conv => whnf) | (intro _; conv => whnf))))
      ((repeat ((try simp only [setR_same, setR_nk, upS_setR, cpS_setR, setR_setR, ne_eq, Nat.reduceEqDiff, not_false_eq_true, Int.reduceEq, ↓reduceIte]); refine ⟨by omega, ?_⟩; ((conv => whnf); (repeat' (first | (refine ⟨fun _ => ?_, fun _ => ?_⟩ <;> first | (exfalso; omega) | (conv => whnf)) | (refine ⟨by omega, ?_⟩; conv => whnf) | (intro _; conv => whnf)))))); (try simp only [setR_same, setR_nk, upS_setR, cpS_setR, setR_setR, ne_eq, Nat.reduceEqDiff, not_false_eq_true, Int.reduceEq, ↓reduceIte]))
      refine hq _ (HistM_push hh hw ?_ (fun j j0 j1 => ?_)) (fun k i a b => ?_) (fun j hj => ?_)
      · (try simp only [setR_same, setR_nk, upS_setR, cpS_setR, setR_setR, ne_eq, Nat.reduceEqDiff, not_false_eq_true, Int.reduceEq, ↓reduceIte])
        omega
      · (try simp only [setR_same, setR_nk, upS_setR, cpS_setR, setR_setR, ne_eq, Nat.reduceEqDiff, not_false_eq_true, Int.reduceEq, ↓reduceIte])
        rw [e4]
        rcases hs2 with ⟨q, q2⟩ | ⟨q, q2⟩
        · subst q2
          rw [if_pos q]
          by_cases a : 174 * h ≤ j
          · rw [if_pos (by omega), if_pos a]
            congr 1
            omega
          · rw [if_neg (by omega), if_neg a]
            by_cases b : j < 174
            · rw [if_neg (by omega), if_pos ⟨q, b⟩, e4, if_neg (by omega), if_neg (by omega)]
            · rw [if_pos (by omega), if_neg (by omega)]
              congr 1
              omega
        · subst q2
          rw [if_neg q]
          by_cases a : 174 * s ≤ j
          · rw [if_pos (by omega), if_pos a]
          · rw [if_neg (by omega), if_neg a, if_neg (by omega), if_neg (by omega)]
      · rw [setR_nk a]
        exact e3 k i a b
      · (try simp only [setR_same, setR_nk, upS_setR, cpS_setR, setR_setR, ne_eq, Nat.reduceEqDiff, not_false_eq_true, Int.reduceEq, ↓reduceIte])
        rw [if_neg hj]
        exact e2 j hj
    | succ n ih =>
      intro k s τ ls hn k0 k1 hs e1 e2 e3 e4
      have hs2 : 0 ≤ s ∧ s ≤ 5 := by
        rw [hs]
        split <;> omega
      (refine go (t := tb_X5_records) (WPd_mono d) hP 60 [52] ?_; (conv => whnf); (repeat' (first | (refine ⟨fun _ => ?_, fun _ => ?_⟩ <;> first | (exfalso; omega) | (conv => whnf)) | (refine ⟨by omega, ?_⟩; conv => whnf) | (intro _; conv => whnf))))
      rw [e1]
      refine ih (k + 1) s _ ls (by omega) (by omega) (by omega) hs (by rw [up_k (by decide)]; exact e1) (fun j hj => by rw [up_k (by decide)]; exact e2 j hj) (fun k i a b => by rw [up_k b]; exact e3 k i a b) (fun j => ?_)
      by_cases a : j = 174 * s + k
      · rw [a, up_hit, if_pos (by omega), e3 27 0 (by omega) (by omega)]
        congr 1
        omega
      · rw [up_j a, e4]
        by_cases b : 174 * s ≤ j ∧ j < 174 * s + k
        · rw [if_pos b, if_pos (by omega)]
        · rw [if_neg b, if_neg (show ¬ (174 * s ≤ j ∧ j < 174 * s + (k + 1)) by omega)]
  have L1 : ∀ (n : Nat) (k : Int) (τ : Sto) (ls : List AV), n = (870 - k).toNat → h = 6 → 0 ≤ k → k ≤ 870 → (∀ j, τ 26 0 j = σ 26 0 j) → (∀ k i, k ≠ 28 → τ k i = σ k i) → (∀ j, τ 28 0 j = if 0 ≤ j ∧ j < k then σ 28 0 (j + 174) else σ 28 0 j) → P 11 [.inr (26, 0), .inl k] [] τ := by
    intro n
    induction n with
    | zero =>
      intro k τ ls hn q k0 k1 e2 e3 e4
      have ek : k = 870 := by omega
      subst ek
      have s6 : τ 26 0 2 = 6 := by rw [e2]; omega
      (refine go (t := tb_X5_records) (WPd_mono d) hP 60 [11, 52] ?_; (conv => whnf); (repeat' (first | (refine ⟨fun _ => ?_, fun _ => ?_⟩ <;> first | (exfalso; omega) | (conv => whnf)) | (refine ⟨by omega, ?_⟩; conv => whnf) | (intro _; conv => whnf))))
      rw [s6]
      ((repeat ((try simp only [setR_same, setR_nk, upS_setR, cpS_setR, setR_setR, ne_eq, Nat.reduceEqDiff, not_false_eq_true, Int.reduceEq, ↓reduceIte]); refine ⟨by omega, ?_⟩; ((conv => whnf); (repeat' (first | (refine ⟨fun _ => ?_, fun _ => ?_⟩ <;> first | (exfalso; omega) | (conv => whnf)) | (refine ⟨by omega, ?_⟩; conv => whnf) | (intro _; conv => whnf)))))); (try simp only [setR_same, setR_nk, upS_setR, cpS_setR, setR_setR, ne_eq, Nat.reduceEqDiff, not_false_eq_true, Int.reduceEq, ↓reduceIte]))
      refine L2 _ 0 5 _ ls rfl (by omega) (by omega) (by rw [if_pos q]) (by (try simp only [setR_same, setR_nk, upS_setR, cpS_setR, setR_setR, ne_eq, Nat.reduceEqDiff, not_false_eq_true, Int.reduceEq, ↓reduceIte]); rfl) (fun j hj => ?_) (fun k i a b => ?_) (fun j => ?_)
      · (try simp only [setR_same, setR_nk, upS_setR, cpS_setR, setR_setR, ne_eq, Nat.reduceEqDiff, not_false_eq_true, Int.reduceEq, ↓reduceIte])
        rw [if_neg hj]
        exact e2 j
      · rw [setR_nk a]
        exact e3 k i b
      · (try simp only [setR_same, setR_nk, upS_setR, cpS_setR, setR_setR, ne_eq, Nat.reduceEqDiff, not_false_eq_true, Int.reduceEq, ↓reduceIte])
        rw [if_neg (by omega), e4]
        by_cases b : 0 ≤ j ∧ j < 870
        · rw [if_pos b, if_pos ⟨q, b⟩]
        · rw [if_neg b, if_neg (fun z => b z.2)]
    | succ n ih =>
      intro k τ ls hn q k0 k1 e2 e3 e4
      (refine go (t := tb_X5_records) (WPd_mono d) hP 60 [11, 52] ?_; (conv => whnf); (repeat' (first | (refine ⟨fun _ => ?_, fun _ => ?_⟩ <;> first | (exfalso; omega) | (conv => whnf)) | (refine ⟨by omega, ?_⟩; conv => whnf) | (intro _; conv => whnf))))
      refine ih (k + 1) _ ls (by omega) q (by omega) (by omega) (fun j => by rw [up_k (by decide)]; exact e2 j) (fun k i a => by rw [up_k a]; exact e3 k i a) (fun j => ?_)
      by_cases a : j = k
      · rw [a, up_hit, if_pos (by omega), e4, if_neg (by omega)]
      · rw [up_j a, e4]
        by_cases b : 0 ≤ j ∧ j < k
        · rw [if_pos b, if_pos (by omega)]
        · rw [if_neg b, if_neg (by omega)]
  (refine go (t := tb_X5_records) (WPd_mono d) hP 60 [11, 52] ?_; (conv => whnf); (repeat' (first | (refine ⟨fun _ => ?_, fun _ => ?_⟩ <;> first | (exfalso; omega) | (conv => whnf)) | (refine ⟨by omega, ?_⟩; conv => whnf) | (intro _; conv => whnf))))
  · refine L2 _ 0 h _ [] rfl (by omega) (by omega) (by rw [if_neg (by omega)]) (by omega) (fun j hj => rfl) (fun k i a b => rfl) (fun j => ?_)
    rw [if_neg (by omega), if_neg (by omega)]
  · refine L1 _ 0 _ [] rfl (by omega) (by omega) (by omega) (fun j => rfl) (fun k i a => rfl) (fun j => ?_)
    rw [if_neg (by omega)]
