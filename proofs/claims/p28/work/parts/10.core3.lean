theorem vwC_set6 {σ : Sto} {c : Int} {g : Int → Int} {A B : KV} (h : vwC σ c = takeK A B) (hg : mask 4 g = A 6) : vwC (setR σ 23 c g) c = A := by
  funext q
  have e := congrFun h q
  unfold vwC at e ⊢
  (try simp only [setR_same, setR_nk, upS_setR, cpS_setR, setR_setR, ne_eq, Nat.reduceEqDiff, not_false_eq_true, Int.reduceEq, ↓reduceIte])
  rcases q with _ | _ | _ | _ | _ | _ | _ | _ | q <;> first | exact e | exact hg
theorem t_X0_takeAll {d : Nat} (hd : 2 ≤ d) {σ : Sto} {Q : Post} {c c2 : Int} (hc : c2 ≠ c) (hn : 0 ≤ σ 16 c2 7 ∧ σ 16 c2 7 ≤ 50) (ha : 0 ≤ σ 16 c2 8 ∧ σ 16 c2 8 ≤ 6) (h : ∀ σ', vwC σ' c = vwC σ c2 → offC c σ σ' → Q none σ') : WPd d m_X0_takeAll [.inr (16, c), .inr (16, c2)] σ Q := by
  obtain ⟨d, rfl⟩ : ∃ k, d = k + 1 := ⟨d - 1, by omega⟩
  intro P hP
  (refine go (t := tb_X0_takeAll) (WPd_mono d) hP 80 [] ?_; (conv => whnf); (repeat' (first | (refine ⟨fun _ => ?_, fun _ => ?_⟩ <;> first | (exfalso; omega) | (conv => whnf)) | (refine ⟨by omega, ?_⟩; conv => whnf) | (intro _; conv => whnf))))
  refine t_X0_takeLayersAndAshes (by omega) hc hn ha (fun σ1 e1 o1 => ?_)
  ((conv => whnf); (repeat' (first | (refine ⟨fun _ => ?_, fun _ => ?_⟩ <;> first | (exfalso; omega) | (conv => whnf)) | (refine ⟨by omega, ?_⟩; conv => whnf) | (intro _; conv => whnf))))
  rw [cpS_setR]
  refine h _ (vwC_set6 e1 ?_) (o1.set (by omega))
  have e2 : σ1 23 c2 = σ 23 c2 := o1 23 c2 (fun e => hc e.2.2)
  rw [e2]
  show mask 4 _ = mask 4 (σ 23 c2)
  refine mask_cg fun j h0 h1 => ?_
  rw [if_pos (by omega)]
  congr 1
  omega
theorem t_X0_deleteLayer {d : Nat} (hd : 3 ≤ d) {σ : Sto} {Q : Post} {c i : Int} (hn : 0 ≤ σ 16 c 7 ∧ σ 16 c 7 ≤ 50) (ha : 0 ≤ σ 16 c 8 ∧ σ 16 c 8 ≤ 6) (hi : 0 ≤ i ∧ i < σ 16 c 7) (hp : ∀ j, 0 ≤ j → j < σ 16 c 8 → 0 ≤ σ 20 c j ∧ σ 20 c j ≤ 1000) (h : ∀ σ', vwC σ' c = remK (vwC σ c) i → offC c σ σ' → Q none σ') : WPd d m_X0_deleteLayer [.inr (16, c), .inl i] σ Q := by
  obtain ⟨d, rfl⟩ : ∃ k, d = k + 1 := ⟨d - 1, by omega⟩
  intro P hP
  have M : ∀ (db : Int) (τ0 : Sto), τ0 16 c 7 = σ 16 c 7 → 0 ≤ τ0 16 c 8 → τ0 16 c 8 ≤ 6 → (∀ j, 0 ≤ j → j < τ0 16 c 8 → 0 ≤ τ0 20 c j ∧ τ0 20 c j ≤ 1000) → offC c σ τ0 → (∀ σ', vwC σ' c = delLK (vwC τ0 c) i → offC c σ σ' → Q none σ') → P 31 [.inr (16, c), .inl i, .inl db] [] τ0 := by
    intro db τ0 q1 q2 q3 q4 q5 q6
    have L : ∀ (n : Nat) (j : Int) (ls4 : List AV) (τ : Sto), n = (τ0 16 c 8 - j).toNat → 0 ≤ j → j ≤ τ0 16 c 8 → τ 16 c 8 = τ0 16 c 8 → τ 16 c 7 = σ 16 c 7 - 1 → τ 17 c = delF (τ0 17 c) i (σ 16 c 7) → τ 18 c = delF (τ0 18 c) i (σ 16 c 7) → τ 19 c = delF (τ0 19 c) i (σ 16 c 7) → τ 21 c = τ0 21 c → τ 22 c = τ0 22 c → τ 23 c = τ0 23 c → offC c σ τ → (∀ x, τ 20 c x = if 0 ≤ x ∧ x < j ∧ i < τ0 20 c x then τ0 20 c x - 1 else τ0 20 c x) → P 79 [.inr (16, c), .inl i, .inl db, .inl j] [] τ := by
      intro n
      induction n with
      | zero =>
        intro j _ τ hn0 h0 h1 e1 e2 e3 e4 e5 e6 e7 e8 e9 e10
        (refine go (t := tb_X0_deleteLayer) (WPd_mono d) hP 40 [79] ?_; (conv => whnf); (repeat' (first | (refine ⟨fun _ => ?_, fun _ => ?_⟩ <;> first | (exfalso; omega) | (conv => whnf)) | (refine ⟨by omega, ?_⟩; conv => whnf) | (intro _; conv => whnf))))
        refine q6 τ ?_ e9
        have ej : j = τ0 16 c 8 := by omega
        unfold vwC
        rw [e1, e2, e3, e4, e5, e6, e7, e8, show τ 20 c = _ from funext e10, ej, q1]
        exact delLK_mk hi.1 hi.2
      | succ n ih =>
        intro j _ τ hn0 h0 h1 e1 e2 e3 e4 e5 e6 e7 e8 e9 e10
        have ex := e10 j
        rw [if_neg (by omega)] at ex
        have hpj := q4 j h0 (by omega)
        (refine go (t := tb_X0_deleteLayer) (WPd_mono d) hP 40 [79] ?_; (conv => whnf); (repeat' (first | (refine ⟨fun _ => ?_, fun _ => ?_⟩ <;> first | (exfalso; omega) | (conv => whnf)) | (refine ⟨by omega, ?_⟩; conv => whnf) | (intro _; conv => whnf))))
        · exact ih (j + 1) [] τ (by omega) (by omega) (by omega) e1 e2 e3 e4 e5 e6 e7 e8 e9 (fun x => by
            rw [e10]
            by_cases q : x = j
            · subst q
              rw [if_neg (by omega), if_neg (by omega)]
            · ((repeat' split) <;> first | rfl | (exfalso; omega) | (congr 1; omega) | omega))
        · refine ih (j + 1) [] _ (by omega) (by omega) (by omega) (by rw [up_k (by decide)]; exact e1) (by rw [up_k (by decide)]; exact e2) (by rw [up_k (by decide)]; exact e3) (by rw [up_k (by decide)]; exact e4) (by rw [up_k (by decide)]; exact e5) (by rw [up_k (by decide)]; exact e6) (by rw [up_k (by decide)]; exact e7) (by rw [up_k (by decide)]; exact e8) (e9.up (by omega)) (fun x => ?_)
          by_cases q : x = j
          · subst q
            rw [up_hit, ex, if_pos (by omega)]
          · rw [up_j q, e10]
            ((repeat' split) <;> first | rfl | (exfalso; omega) | (congr 1; omega) | omega)
    (refine go (t := tb_X0_deleteLayer) (WPd_mono d) hP 40 [31, 79] ?_; (conv => whnf); (repeat' (first | (refine ⟨fun _ => ?_, fun _ => ?_⟩ <;> first | (exfalso; omega) | (conv => whnf)) | (refine ⟨by omega, ?_⟩; conv => whnf) | (intro _; conv => whnf))))
    refine t_X0_deleteAt (len := 50) (by omega) rfl (by omega) (by omega) (by omega) (by omega) ?_
    ((conv => whnf); (repeat' (first | (refine ⟨fun _ => ?_, fun _ => ?_⟩ <;> first | (exfalso; omega) | (conv => whnf)) | (refine ⟨by omega, ?_⟩; conv => whnf) | (intro _; conv => whnf))))
    (try simp only [setR_same, setR_nk, upS_setR, cpS_setR, setR_setR, ne_eq, Nat.reduceEqDiff, not_false_eq_true, Int.reduceEq, ↓reduceIte])
    refine t_X0_deleteAt (len := 50) (by omega) rfl (by omega) (by omega) (by omega) (by omega) ?_
    ((conv => whnf); (repeat' (first | (refine ⟨fun _ => ?_, fun _ => ?_⟩ <;> first | (exfalso; omega) | (conv => whnf)) | (refine ⟨by omega, ?_⟩; conv => whnf) | (intro _; conv => whnf))))
    (try simp only [setR_same, setR_nk, upS_setR, cpS_setR, setR_setR, ne_eq, Nat.reduceEqDiff, not_false_eq_true, Int.reduceEq, ↓reduceIte])
    refine t_X0_deleteAt (len := 50) (by omega) rfl (by omega) (by omega) (by omega) (by omega) ?_
    ((conv => whnf); (repeat' (first | (refine ⟨fun _ => ?_, fun _ => ?_⟩ <;> first | (exfalso; omega) | (conv => whnf)) | (refine ⟨by omega, ?_⟩; conv => whnf) | (intro _; conv => whnf))))
    (try simp only [setR_same, setR_nk, upS_setR, cpS_setR, setR_setR, ne_eq, Nat.reduceEqDiff, not_false_eq_true, Int.reduceEq, ↓reduceIte])
    refine ⟨by omega, ?_⟩
    ((conv => whnf); (repeat' (first | (refine ⟨fun _ => ?_, fun _ => ?_⟩ <;> first | (exfalso; omega) | (conv => whnf)) | (refine ⟨by omega, ?_⟩; conv => whnf) | (intro _; conv => whnf))))
    (try simp only [setR_same, setR_nk, upS_setR, cpS_setR, setR_setR, ne_eq, Nat.reduceEqDiff, not_false_eq_true, Int.reduceEq, ↓reduceIte])
    rw [q1]
    refine L _ 0 [] _ rfl (by omega) (by omega) ?_ ?_ ?_ ?_ ?_ ?_ ?_ ?_ ?_ ?_
    all_goals first | ((try simp only [setR_same, setR_nk, upS_setR, cpS_setR, setR_setR, ne_eq, Nat.reduceEqDiff, not_false_eq_true, Int.reduceEq, ↓reduceIte]); done) | skip
    · exact (((q5.set (by omega)).set (by omega)).set (by omega)).set (by omega)
    · intro x
      (try simp only [setR_same, setR_nk, upS_setR, cpS_setR, setR_setR, ne_eq, Nat.reduceEqDiff, not_false_eq_true, Int.reduceEq, ↓reduceIte])
      rw [if_neg (by omega)]
  have eax : ∀ p, ashIx (σ 20 c) p (σ 16 c 8).toNat 0 = axK (vwC σ c) p := fun p => ax_vw
  have bx := ashIx_of (σ 20 c) (i + 1) (σ 16 c 8).toNat 0
  have bx2 := ashIx_of (σ 20 c) i (σ 16 c 8).toNat 0
  rw [eax] at bx bx2
  have D : vwC σ c = vwC σ c := rfl
  unfold remK at h
  (refine go (t := tb_X0_deleteLayer) (WPd_mono d) hP 40 [31, 79] ?_; (conv => whnf); (repeat' (first | (refine ⟨fun _ => ?_, fun _ => ?_⟩ <;> first | (exfalso; omega) | (conv => whnf)) | (refine ⟨by omega, ?_⟩; conv => whnf) | (intro _; conv => whnf))))
  refine t_X0_ashAt (by omega) (by omega) ha ?_
  rw [eax]
  have hdel : ∀ (h9 : axK (vwC σ c) (i + 1) ≠ -1) (h10 : i = 0 ∨ axK (vwC σ c) i ≠ -1), WPd d m_X0_deleteAsh [.inr (16, c), .inl (axK (vwC σ c) (i + 1))] σ (fun r σ' => P 31 [.inr (16, c), .inl i, .inl (axK (vwC σ c) (i + 1))] [] σ' ∧ r = none) := by
    intro h9 h10
    rw [if_pos ⟨h9, h10⟩] at h
    refine t_X0_deleteAsh (by omega) ha (by omega) (fun σ1 e1 o1 f1 f2 => ⟨M _ σ1 ?_ ?_ ?_ ?_ o1 ?_, rfl⟩)
    · rw [f1 16 (by omega), if_pos rfl, if_neg (by omega)]
    · rw [f1 16 (by omega), if_pos rfl, if_pos rfl]
      omega
    · rw [f1 16 (by omega), if_pos rfl, if_pos rfl]
      omega
    · intro j h0 h1
      rw [f1 16 (by omega), if_pos rfl, if_pos rfl] at h1
      rw [f2]
      unfold delF
      split
      · exact hp _ (by omega) (by omega)
      · exact hp _ (by omega) (by omega)
    · rw [e1]
      exact h
  have hno : ¬ (axK (vwC σ c) (i + 1) ≠ -1 ∧ (i = 0 ∨ axK (vwC σ c) i ≠ -1)) → P 31 [.inr (16, c), .inl i, .inl (axK (vwC σ c) (i + 1))] [] σ := by
    intro h9
    rw [if_neg h9] at h
    exact M _ σ rfl ha.1 ha.2 hp offC.rf h
  ((conv => whnf); (repeat' (first | (refine ⟨fun _ => ?_, fun _ => ?_⟩ <;> first | (exfalso; omega) | (conv => whnf)) | (refine ⟨by omega, ?_⟩; conv => whnf) | (intro _; conv => whnf))))
  · exact hno (fun e => e.1 (by assumption))
  · exact WPd_mono _ _ _ _ _ _ (fun r σ' e => by obtain ⟨e1, rfl⟩ := e; exact e1) (hdel (by assumption) (Or.inl (by assumption)))
  · refine t_X0_ashAt (by omega) (by omega) ha ?_
    rw [eax]
    ((conv => whnf); (repeat' (first | (refine ⟨fun _ => ?_, fun _ => ?_⟩ <;> first | (exfalso; omega) | (conv => whnf)) | (refine ⟨by omega, ?_⟩; conv => whnf) | (intro _; conv => whnf))))
    · exact hno (fun e => by rcases e.2 with q | q; exact absurd q (by assumption); exact q (by assumption))
    · exact WPd_mono _ _ _ _ _ _ (fun r σ' e => by obtain ⟨e1, rfl⟩ := e; exact e1) (hdel (by assumption) (Or.inr (by assumption)))
def ltF (f : Int → Int) (w : Int) : Nat → Int → Int
  | 0, _ => 0
  | n + 1, i => (if f i < w then 1 else 0) + ltF f w n (i + 1)
theorem ltF_b (f : Int → Int) (w : Int) : ∀ (n : Nat) (i : Int), 0 ≤ ltF f w n i ∧ ltF f w n i ≤ n
  | 0, _ => ⟨Int.le_refl _, Int.le_refl _⟩
  | n + 1, i => by
    unfold ltF
    have := ltF_b f w n (i + 1)
    split <;> omega
theorem ltF_cg {f g : Int → Int} {w : Int} : ∀ (n : Nat) (i : Int), (∀ j, i ≤ j → j < i + n → f j = g j) → ltF f w n i = ltF g w n i
  | 0, _, _ => rfl
  | n + 1, i, h => by
    unfold ltF
    rw [h i (by omega) (by omega), ltF_cg n (i + 1) (fun j h1 h2 => h j (by omega) (by omega))]
/-- the number that a new ash at a place would have -/
def nxK (K : KV) (p : Int) : Int := ltF (K 3) p (K 7 1).toNat 0
theorem nx_vw {σ : Sto} {c p : Int} : ltF (σ 20 c) p (σ 16 c 8).toNat 0 = nxK (vwC σ c) p := by
  unfold nxK
  rw [vw_a]
  exact ltF_cg _ _ fun j h1 h2 => (mask_in h1 (by omega)).symm
theorem t_X0_insertAsh {d : Nat} (hd : 2 ≤ d) {σ : Sto} {Q : Post} {c p a u : Int} (hn : 0 ≤ σ 16 c 8 ∧ σ 16 c 8 < 6) (hp : inR p) (ha : inR a) (hu : inR u) (h : ∀ σ', vwC σ' c = insAK (vwC σ c) (nxK (vwC σ c) p) p a u → offC c σ σ' → Q (some (.inl (nxK (vwC σ c) p))) σ') : WPd d m_X0_insertAsh [.inr (16, c), .inl p, .inl a, .inl u] σ Q := by
  obtain ⟨d, rfl⟩ : ∃ k, d = k + 1 := ⟨d - 1, by omega⟩
  intro P hP
  have en : ltF (σ 20 c) p (σ 16 c 8).toNat 0 = nxK (vwC σ c) p := nx_vw
  have L : ∀ (n : Nat) (s i : Int), n = (σ 16 c 8 - i).toNat → 0 ≤ i → i ≤ σ 16 c 8 → s + ltF (σ 20 c) p n i = nxK (vwC σ c) p → P 6 [.inr (16, c), .inl p, .inl a, .inl u, .inl s, .inl i] [] σ := by
    intro n
    induction n with
    | zero =>
      intro s i hn0 h0 h1 hq
      have hb := ltF_b (σ 20 c) p (σ 16 c 8).toNat 0
      rw [ltF, Int.add_zero] at hq
      rw [en] at hb
      subst hq
      (refine go (t := tb_X0_insertAsh) (WPd_mono d) hP 40 [6] ?_; (conv => whnf); (repeat' (first | (refine ⟨fun _ => ?_, fun _ => ?_⟩ <;> first | (exfalso; omega) | (conv => whnf)) | (refine ⟨by omega, ?_⟩; conv => whnf) | (intro _; conv => whnf))))
      refine t_X0_insertAt (len := 6) (by omega) rfl hp (by omega) (by omega) (by omega) (by omega) ?_
      ((conv => whnf); (repeat' (first | (refine ⟨fun _ => ?_, fun _ => ?_⟩ <;> first | (exfalso; omega) | (conv => whnf)) | (refine ⟨by omega, ?_⟩; conv => whnf) | (intro _; conv => whnf))))
      (try simp only [setR_same, setR_nk, upS_setR, cpS_setR, setR_setR, ne_eq, Nat.reduceEqDiff, not_false_eq_true, Int.reduceEq, ↓reduceIte])
      refine t_X0_insertAt (len := 6) (by omega) rfl ha (by omega) (by omega) (by omega) (by omega) ?_
      ((conv => whnf); (repeat' (first | (refine ⟨fun _ => ?_, fun _ => ?_⟩ <;> first | (exfalso; omega) | (conv => whnf)) | (refine ⟨by omega, ?_⟩; conv => whnf) | (intro _; conv => whnf))))
      (try simp only [setR_same, setR_nk, upS_setR, cpS_setR, setR_setR, ne_eq, Nat.reduceEqDiff, not_false_eq_true, Int.reduceEq, ↓reduceIte])
      refine t_X0_insertAt (len := 6) (by omega) rfl hu (by omega) (by omega) (by omega) (by omega) ?_
      ((conv => whnf); (repeat' (first | (refine ⟨fun _ => ?_, fun _ => ?_⟩ <;> first | (exfalso; omega) | (conv => whnf)) | (refine ⟨by omega, ?_⟩; conv => whnf) | (intro _; conv => whnf))))
      (try simp only [setR_same, setR_nk, upS_setR, cpS_setR, setR_setR, ne_eq, Nat.reduceEqDiff, not_false_eq_true, Int.reduceEq, ↓reduceIte])
      refine ⟨by omega, ?_⟩
      ((conv => whnf); (repeat' (first | (refine ⟨fun _ => ?_, fun _ => ?_⟩ <;> first | (exfalso; omega) | (conv => whnf)) | (refine ⟨by omega, ?_⟩; conv => whnf) | (intro _; conv => whnf))))
      (try simp only [setR_same, setR_nk, upS_setR, cpS_setR, setR_setR, ne_eq, Nat.reduceEqDiff, not_false_eq_true, Int.reduceEq, ↓reduceIte])
      refine h _ ?_ ((((offC.rf.set (by omega)).set (by omega)).set (by omega)).set (by omega))
      show mkV _ _ _ _ _ _ _ _ _ = insAK (mkV _ _ _ _ _ _ _ _ _) _ _ _ _
      (try simp only [setR_same, setR_nk, upS_setR, cpS_setR, setR_setR, ne_eq, Nat.reduceEqDiff, not_false_eq_true, Int.reduceEq, ↓reduceIte])
      exact insAK_mk (by omega) (by omega)
    | succ n ih =>
      intro s i hn0 h0 h1 hq
      (refine go (t := tb_X0_insertAsh) (WPd_mono d) hP 40 [6] ?_; (conv => whnf); (repeat' (first | (refine ⟨fun _ => ?_, fun _ => ?_⟩ <;> first | (exfalso; omega) | (conv => whnf)) | (refine ⟨by omega, ?_⟩; conv => whnf) | (intro _; conv => whnf))))
      · exact ih _ (i + 1) (by omega) (by omega) (by omega) (by rwa [ltF, if_neg (by omega), Int.zero_add] at hq)
      · exact ih _ (i + 1) (by omega) (by omega) (by omega) (by rwa [ltF, if_pos (by omega), ← Int.add_assoc] at hq)
  (refine go (t := tb_X0_insertAsh) (WPd_mono d) hP 40 [6] ?_; (conv => whnf); (repeat' (first | (refine ⟨fun _ => ?_, fun _ => ?_⟩ <;> first | (exfalso; omega) | (conv => whnf)) | (refine ⟨by omega, ?_⟩; conv => whnf) | (intro _; conv => whnf))))
  exact L (σ 16 c 8).toNat 0 0 (by omega) (by omega) (by omega) (by rw [Int.zero_add]; exact en)
/-! History -/
theorem t_X1_keep {d : Nat} (hd : 3 ≤ d) {σ : Sto} {Q : Post} (hx : 0 ≤ σ 1 0 1 ∧ σ 1 0 1 < 6) (hs : 0 ≤ σ 1 0 2 ∧ σ 1 0 2 ≤ 6) (hn : 0 ≤ σ 16 0 7 ∧ σ 16 0 7 ≤ 50) (ha : 0 ≤ σ 16 0 8 ∧ σ 16 0 8 ≤ 6) (h : ∀ σ', σ' 1 0 1 = (if σ 1 0 1 = 5 then 0 else σ 1 0 1 + 1) → σ' 1 0 2 = min 6 (σ 1 0 2 + 1) → vwC σ' (2 + σ 1 0 1) = vwC σ 0 → (∀ k i, k ≠ 1 → ¬ (16 ≤ k ∧ k ≤ 23 ∧ i = 2 + σ 1 0 1) → σ' k i = σ k i) → Q none σ') : WPd d m_X1_keep [.inr (1, 0), .inr (16, 0)] σ Q := by
  obtain ⟨d, rfl⟩ : ∃ k, d = k + 1 := ⟨d - 1, by omega⟩
  intro P hP
  (refine go (t := tb_X1_keep) (WPd_mono d) hP 60 [] ?_; (conv => whnf); (repeat' (first | (refine ⟨fun _ => ?_, fun _ => ?_⟩ <;> first | (exfalso; omega) | (conv => whnf)) | (refine ⟨by omega, ?_⟩; conv => whnf) | (intro _; conv => whnf))))
  refine t_X0_takeAll (by omega) (by omega) hn ha (fun σ1 e1 o1 => ?_)
  have e3 : σ1 1 0 = σ 1 0 := o1 1 0 (by omega)
  have e4 : σ1 1 0 1 = σ 1 0 1 := congrFun e3 1
  have e5 : σ1 1 0 2 = σ 1 0 2 := congrFun e3 2
  ((conv => whnf); (repeat' (first | (refine ⟨fun _ => ?_, fun _ => ?_⟩ <;> first | (exfalso; omega) | (conv => whnf)) | (refine ⟨by omega, ?_⟩; conv => whnf) | (intro _; conv => whnf))))
  · ((repeat ((try simp only [setR_same, setR_nk, upS_setR, cpS_setR, setR_setR, ne_eq, Nat.reduceEqDiff, not_false_eq_true, Int.reduceEq, ↓reduceIte]); refine ⟨by omega, ?_⟩; ((conv => whnf); (repeat' (first | (refine ⟨fun _ => ?_, fun _ => ?_⟩ <;> first | (exfalso; omega) | (conv => whnf)) | (refine ⟨by omega, ?_⟩; conv => whnf) | (intro _; conv => whnf)))))); (try simp only [setR_same, setR_nk, upS_setR, cpS_setR, setR_setR, ne_eq, Nat.reduceEqDiff, not_false_eq_true, Int.reduceEq, ↓reduceIte]))
    refine h _ ?_ ?_ ?_ (fun k i h1 h2 => ?_)
    · (try simp only [setR_same, setR_nk, upS_setR, cpS_setR, setR_setR, ne_eq, Nat.reduceEqDiff, not_false_eq_true, Int.reduceEq, ↓reduceIte])
      rw [e4, if_neg (by omega)]
    · (try simp only [setR_same, setR_nk, upS_setR, cpS_setR, setR_setR, ne_eq, Nat.reduceEqDiff, not_false_eq_true, Int.reduceEq, ↓reduceIte])
      rw [e5]
    · rw [← e1]
      exact vwC_cg fun k h1 h2 => by rw [setR_nk (by omega)]
    · rw [setR_nk h1]
      exact o1 k i h2
  · ((repeat ((try simp only [setR_same, setR_nk, upS_setR, cpS_setR, setR_setR, ne_eq, Nat.reduceEqDiff, not_false_eq_true, Int.reduceEq, ↓reduceIte]); refine ⟨by omega, ?_⟩; ((conv => whnf); (repeat' (first | (refine ⟨fun _ => ?_, fun _ => ?_⟩ <;> first | (exfalso; omega) | (conv => whnf)) | (refine ⟨by omega, ?_⟩; conv => whnf) | (intro _; conv => whnf)))))); (try simp only [setR_same, setR_nk, upS_setR, cpS_setR, setR_setR, ne_eq, Nat.reduceEqDiff, not_false_eq_true, Int.reduceEq, ↓reduceIte]))
    refine h _ ?_ ?_ ?_ (fun k i h1 h2 => ?_)
    · (try simp only [setR_same, setR_nk, upS_setR, cpS_setR, setR_setR, ne_eq, Nat.reduceEqDiff, not_false_eq_true, Int.reduceEq, ↓reduceIte])
      rw [if_pos (by omega)]
    · (try simp only [setR_same, setR_nk, upS_setR, cpS_setR, setR_setR, ne_eq, Nat.reduceEqDiff, not_false_eq_true, Int.reduceEq, ↓reduceIte])
      rw [e5]
    · rw [← e1]
      exact vwC_cg fun k h1 h2 => by rw [setR_nk (by omega)]
    · rw [setR_nk h1]
      exact o1 k i h2
theorem t_X1_restore {d : Nat} (hd : 3 ≤ d) {σ : Sto} {Q : Post} (hx : 0 ≤ σ 1 0 1 ∧ σ 1 0 1 < 6) (hs : 0 < σ 1 0 2 ∧ σ 1 0 2 ≤ 6) (hn : ∀ x, x = (if σ 1 0 1 = 0 then 5 else σ 1 0 1 - 1) → (0 ≤ σ 16 (2 + x) 7 ∧ σ 16 (2 + x) 7 ≤ 50) ∧ (0 ≤ σ 16 (2 + x) 8 ∧ σ 16 (2 + x) 8 ≤ 6)) (h : ∀ σ' x, x = (if σ 1 0 1 = 0 then 5 else σ 1 0 1 - 1) → σ' 1 0 1 = x → σ' 1 0 2 = σ 1 0 2 - 1 → vwC σ' 0 = vwC σ (2 + x) → (∀ k i, k ≠ 1 → ¬ (16 ≤ k ∧ k ≤ 23 ∧ i = 0) → σ' k i = σ k i) → Q none σ') : WPd d m_X1_restore [.inr (1, 0), .inr (16, 0)] σ Q := by
  obtain ⟨d, rfl⟩ : ∃ k, d = k + 1 := ⟨d - 1, by omega⟩
  intro P hP
  have fin : ∀ (x : Int), x = (if σ 1 0 1 = 0 then 5 else σ 1 0 1 - 1) → 0 ≤ x → x < 6 → P 31 [.inr (1, 0), .inr (16, 0)] [.inr (16, 2 + x), .inr (16, 0)] (setR σ 1 0 (fun j => if j = 1 then x else σ 1 0 j)) := by
    intro x hx0 hx1 hx2
    (refine go (t := tb_X1_restore) (WPd_mono d) hP 60 [] ?_; (conv => whnf); (repeat' (first | (refine ⟨fun _ => ?_, fun _ => ?_⟩ <;> first | (exfalso; omega) | (conv => whnf)) | (refine ⟨by omega, ?_⟩; conv => whnf) | (intro _; conv => whnf))))
    refine t_X0_takeAll (by omega) (by omega) (by (try simp only [setR_same, setR_nk, upS_setR, cpS_setR, setR_setR, ne_eq, Nat.reduceEqDiff, not_false_eq_true, Int.reduceEq, ↓reduceIte]); exact (hn _ hx0).1) (by (try simp only [setR_same, setR_nk, upS_setR, cpS_setR, setR_setR, ne_eq, Nat.reduceEqDiff, not_false_eq_true, Int.reduceEq, ↓reduceIte]); exact (hn _ hx0).2) (fun σ1 e1 o1 => ?_)
    have e3 : σ1 1 0 = fun j => if j = 1 then x else σ 1 0 j := by
      rw [o1 1 0 (by omega)]
      exact setR_same
    have e5 : σ1 1 0 2 = σ 1 0 2 := by
      rw [e3]
      rfl
    have e6 : σ1 1 0 1 = x := by
      rw [e3]
      rfl
    ((conv => whnf); (repeat' (first | (refine ⟨fun _ => ?_, fun _ => ?_⟩ <;> first | (exfalso; omega) | (conv => whnf)) | (refine ⟨by omega, ?_⟩; conv => whnf) | (intro _; conv => whnf))))
    ((repeat ((try simp only [setR_same, setR_nk, upS_setR, cpS_setR, setR_setR, ne_eq, Nat.reduceEqDiff, not_false_eq_true, Int.reduceEq, ↓reduceIte]); refine ⟨by omega, ?_⟩; ((conv => whnf); (repeat' (first | (refine ⟨fun _ => ?_, fun _ => ?_⟩ <;> first | (exfalso; omega) | (conv => whnf)) | (refine ⟨by omega, ?_⟩; conv => whnf) | (intro _; conv => whnf)))))); (try simp only [setR_same, setR_nk, upS_setR, cpS_setR, setR_setR, ne_eq, Nat.reduceEqDiff, not_false_eq_true, Int.reduceEq, ↓reduceIte]))
    refine h _ x hx0 ?_ ?_ ?_ (fun k i h1 h2 => ?_)
    · (try simp only [setR_same, setR_nk, upS_setR, cpS_setR, setR_setR, ne_eq, Nat.reduceEqDiff, not_false_eq_true, Int.reduceEq, ↓reduceIte])
      exact e6
    · (try simp only [setR_same, setR_nk, upS_setR, cpS_setR, setR_setR, ne_eq, Nat.reduceEqDiff, not_false_eq_true, Int.reduceEq, ↓reduceIte])
      rw [e5]
    · rw [vwC_cg (σ := σ1) (fun k h1 h2 => by rw [setR_nk (by omega)]), e1]
      exact vwC_cg fun k h1 h2 => by rw [setR_nk (by omega)]
    · rw [setR_nk h1, o1 k i h2, setR_nk h1]
  (refine go (t := tb_X1_restore) (WPd_mono d) hP 60 [31] ?_; (conv => whnf); (repeat' (first | (refine ⟨fun _ => ?_, fun _ => ?_⟩ <;> first | (exfalso; omega) | (conv => whnf)) | (refine ⟨by omega, ?_⟩; conv => whnf) | (intro _; conv => whnf))))
  · (try simp only [setR_same, setR_nk, upS_setR, cpS_setR, setR_setR, ne_eq, Nat.reduceEqDiff, not_false_eq_true, Int.reduceEq, ↓reduceIte])
    refine ⟨by omega, ?_⟩
    ((conv => whnf); (repeat' (first | (refine ⟨fun _ => ?_, fun _ => ?_⟩ <;> first | (exfalso; omega) | (conv => whnf)) | (refine ⟨by omega, ?_⟩; conv => whnf) | (intro _; conv => whnf))))
    exact fin _ (by rw [if_neg (by assumption)]) (by omega) (by omega)
  · (try simp only [setR_same, setR_nk, upS_setR, cpS_setR, setR_setR, ne_eq, Nat.reduceEqDiff, not_false_eq_true, Int.reduceEq, ↓reduceIte])
    refine ⟨by omega, ?_⟩
    ((conv => whnf); (repeat' (first | (refine ⟨fun _ => ?_, fun _ => ?_⟩ <;> first | (exfalso; omega) | (conv => whnf)) | (refine ⟨by omega, ?_⟩; conv => whnf) | (intro _; conv => whnf))))
    exact fin _ (by rw [if_pos (by assumption)]) (by omega) (by omega)
