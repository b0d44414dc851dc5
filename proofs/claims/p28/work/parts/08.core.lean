/-! THE CLASS Core: what its methods do to the store -/
def setR (σ : Sto) (k : Nat) (i : Int) (g : Int → Int) : Sto := fun k' i' => if k' = k ∧ i' = i then g else σ k' i'
theorem setR_same {σ : Sto} {k : Nat} {i : Int} {g : Int → Int} : setR σ k i g k i = g := if_pos ⟨rfl, rfl⟩
theorem setR_ne {σ : Sto} {k k' : Nat} {i i' : Int} {g : Int → Int} (h : ¬ (k' = k ∧ i' = i)) : setR σ k i g k' i' = σ k' i' := if_neg h
theorem setR_nk {σ : Sto} {k k' : Nat} {i i' : Int} {g : Int → Int} (h : k' ≠ k) : setR σ k i g k' i' = σ k' i' := if_neg fun e => h e.1
theorem upS_setR {σ : Sto} {k : Nat} {i j v : Int} : upS σ k i j v = setR σ k i (fun j' => if j' = j then v else σ k i j') := by
  funext k' i' j'
  unfold upS setR
  by_cases h : k' = k ∧ i' = i
  · obtain ⟨rfl, rfl⟩ := h
    simp
  · rw [if_neg (fun e => h ⟨e.1, e.2.1⟩), if_neg h]
theorem setR_setR {σ : Sto} {k : Nat} {i : Int} {g g' : Int → Int} : setR (setR σ k i g) k i g' = setR σ k i g' := by
  funext k' i'
  unfold setR
  by_cases h : k' = k ∧ i' = i
  · rw [if_pos h, if_pos h]
  · rw [if_neg h, if_neg h, if_neg h]
theorem setR_id {σ : Sto} {k : Nat} {i : Int} : setR σ k i (σ k i) = σ := by
  funext k' i'
  unfold setR
  by_cases h : k' = k ∧ i' = i
  · rw [if_pos h, h.1, h.2]
  · rw [if_neg h]
theorem setR_ni {σ : Sto} {k k' : Nat} {i i' : Int} {g : Int → Int} (h : i' ≠ i) : setR σ k i g k' i' = σ k' i' := if_neg fun e => h e.2
theorem cpS_setR {σ : Sto} {k1 k2 : Nat} {i1 i2 sp dp n : Int} : cpS σ k1 i1 sp k2 i2 dp n = setR σ k2 i2 (fun j => if dp ≤ j ∧ j < dp + n then σ k1 i1 (sp + (j - dp)) else σ k2 i2 j) := by
  funext k' i' j'
  unfold cpS setR
  by_cases h : k' = k2 ∧ i' = i2
  · obtain ⟨rfl, rfl⟩ := h
    simp
  · rw [if_neg (fun e => h ⟨e.1, e.2.1⟩), if_neg h]
theorem setR_cg {σ : Sto} {k : Nat} {i : Int} {g g' : Int → Int} (h : ∀ j, g j = g' j) : setR σ k i g = setR σ k i g' := by rw [show g = g' from funext h]
def insF (f : Int → Int) (a z x : Int) : Int → Int := fun j => if a < j ∧ j ≤ z then f (j - 1) else if j = a then x else f j
def delF (f : Int → Int) (a z : Int) : Int → Int := fun j => if a ≤ j ∧ j + 1 < z then f (j + 1) else f j
theorem t_X0_insertAt {d : Nat} (hd : 1 ≤ d) {σ : Sto} {Q : Post} {k : Nat} {c a z x len : Int} (hk : lenI k = some len) (hr : inR x) (h0 : 0 ≤ a) (h1 : a ≤ z) (h2 : z < len) (h3 : len ≤ 1000) (h : Q none (setR σ k c (insF (σ k c) a z x))) : WPd d m_X0_insertAt [.inr (k, c), .inl a, .inl z, .inl x] σ Q := by
  obtain ⟨d, rfl⟩ : ∃ k, d = k + 1 := ⟨d - 1, by omega⟩
  intro P hP
  have L : ∀ (n : Nat) (i : Int) (g : Int → Int), n = (i - a).toNat → a ≤ i → i ≤ z → (∀ j, g j = if i < j ∧ j ≤ z then σ k c (j - 1) else σ k c j) → P 3 [.inr (k, c), .inl a, .inl z, .inl x, .inl i] [] (setR σ k c g) := by
    intro n
    induction n with
    | zero =>
      intro i g hn hi hz hg
      (refine go (t := tb_X0_insertAt) (WPd_mono d) hP 30 [3] ?_; (conv => whnf); (repeat' (first | (refine ⟨fun _ => ?_, fun _ => ?_⟩ <;> first | (exfalso; omega) | (conv => whnf)) | (refine ⟨by omega, ?_⟩; conv => whnf) | (intro _; conv => whnf))))
      simp only [hk]
      ((conv => whnf); (repeat' (first | (refine ⟨fun _ => ?_, fun _ => ?_⟩ <;> first | (exfalso; omega) | (conv => whnf)) | (refine ⟨by omega, ?_⟩; conv => whnf) | (intro _; conv => whnf))))
      rw [upS_setR, setR_same, setR_setR, setR_cg (g' := insF (σ k c) a z x) (fun j => ?_)]
      · exact h
      · try dsimp only
        rw [hg]
        unfold insF
        by_cases q : j = a
        · rw [if_pos (by omega), if_neg (by omega), if_pos q]
        · rw [if_neg (by omega), if_neg q]
          by_cases q2 : a < j ∧ j ≤ z
          · rw [if_pos (by omega), if_pos q2]
          · rw [if_neg (by omega), if_neg q2]
    | succ n ih =>
      intro i g hn hi hz hg
      (refine go (t := tb_X0_insertAt) (WPd_mono d) hP 30 [3] ?_; (conv => whnf); (repeat' (first | (refine ⟨fun _ => ?_, fun _ => ?_⟩ <;> first | (exfalso; omega) | (conv => whnf)) | (refine ⟨by omega, ?_⟩; conv => whnf) | (intro _; conv => whnf))))
      simp only [hk]
      ((conv => whnf); (repeat' (first | (refine ⟨fun _ => ?_, fun _ => ?_⟩ <;> first | (exfalso; omega) | (conv => whnf)) | (refine ⟨by omega, ?_⟩; conv => whnf) | (intro _; conv => whnf))))
      simp only [hk]
      ((conv => whnf); (repeat' (first | (refine ⟨fun _ => ?_, fun _ => ?_⟩ <;> first | (exfalso; omega) | (conv => whnf)) | (refine ⟨by omega, ?_⟩; conv => whnf) | (intro _; conv => whnf))))
      rw [upS_setR, setR_same, setR_setR]
      refine ih (i + (-1)) _ (by omega) (by omega) (by omega) (fun j => ?_)
      try dsimp only
      by_cases q : j = i
      · rw [if_pos q, if_pos (by omega), hg, if_neg (by omega), q]
      · rw [if_neg q, hg]
        by_cases q2 : i < j ∧ j ≤ z
        · rw [if_pos q2, if_pos (by omega)]
        · rw [if_neg q2, if_neg (by omega)]
  (refine go (t := tb_X0_insertAt) (WPd_mono d) hP 30 [3] ?_; (conv => whnf); (repeat' (first | (refine ⟨fun _ => ?_, fun _ => ?_⟩ <;> first | (exfalso; omega) | (conv => whnf)) | (refine ⟨by omega, ?_⟩; conv => whnf) | (intro _; conv => whnf))))
  have e : σ = setR σ k c (σ k c) := setR_id.symm
  rw [e]
  refine L _ z _ rfl h1 (by omega) (fun j => ?_)
  rw [if_neg (by omega)]
theorem t_X0_deleteAt {d : Nat} (hd : 1 ≤ d) {σ : Sto} {Q : Post} {k : Nat} {c a z len : Int} (hk : lenI k = some len) (h0 : 0 ≤ a) (h1 : a < z) (h2 : z ≤ len) (h3 : len ≤ 1000) (h : Q none (setR σ k c (delF (σ k c) a z))) : WPd d m_X0_deleteAt [.inr (k, c), .inl a, .inl z] σ Q := by
  obtain ⟨d, rfl⟩ : ∃ k, d = k + 1 := ⟨d - 1, by omega⟩
  intro P hP
  have L : ∀ (n : Nat) (i : Int) (g : Int → Int), n = (z - i).toNat → a < i → i ≤ z → (∀ j, g j = if a ≤ j ∧ j + 1 < i then σ k c (j + 1) else σ k c j) → P 4 [.inr (k, c), .inl a, .inl z, .inl i] [] (setR σ k c g) := by
    intro n
    induction n with
    | zero =>
      intro i g hn hi hz hg
      (refine go (t := tb_X0_deleteAt) (WPd_mono d) hP 30 [4] ?_; (conv => whnf); (repeat' (first | (refine ⟨fun _ => ?_, fun _ => ?_⟩ <;> first | (exfalso; omega) | (conv => whnf)) | (refine ⟨by omega, ?_⟩; conv => whnf) | (intro _; conv => whnf))))
      rw [setR_cg (g' := delF (σ k c) a z) (fun j => ?_)]
      · exact h
      · rw [hg]
        unfold delF
        rw [show i = z by omega]
    | succ n ih =>
      intro i g hn hi hz hg
      (refine go (t := tb_X0_deleteAt) (WPd_mono d) hP 30 [4] ?_; (conv => whnf); (repeat' (first | (refine ⟨fun _ => ?_, fun _ => ?_⟩ <;> first | (exfalso; omega) | (conv => whnf)) | (refine ⟨by omega, ?_⟩; conv => whnf) | (intro _; conv => whnf))))
      simp only [hk]
      ((conv => whnf); (repeat' (first | (refine ⟨fun _ => ?_, fun _ => ?_⟩ <;> first | (exfalso; omega) | (conv => whnf)) | (refine ⟨by omega, ?_⟩; conv => whnf) | (intro _; conv => whnf))))
      simp only [hk]
      ((conv => whnf); (repeat' (first | (refine ⟨fun _ => ?_, fun _ => ?_⟩ <;> first | (exfalso; omega) | (conv => whnf)) | (refine ⟨by omega, ?_⟩; conv => whnf) | (intro _; conv => whnf))))
      rw [upS_setR, setR_same, setR_setR]
      refine ih (i + 1) _ (by omega) (by omega) (by omega) (fun j => ?_)
      try dsimp only
      by_cases q : j = i - 1
      · rw [if_pos q, if_pos (by omega), hg, if_neg (by omega), q]
        congr 1
        omega
      · rw [if_neg q, hg]
        by_cases q2 : a ≤ j ∧ j + 1 < i
        · rw [if_pos q2, if_pos (by omega)]
        · rw [if_neg q2, if_neg (by omega)]
  (refine go (t := tb_X0_deleteAt) (WPd_mono d) hP 30 [4] ?_; (conv => whnf); (repeat' (first | (refine ⟨fun _ => ?_, fun _ => ?_⟩ <;> first | (exfalso; omega) | (conv => whnf)) | (refine ⟨by omega, ?_⟩; conv => whnf) | (intro _; conv => whnf))))
  have e : σ = setR σ k c (σ k c) := setR_id.symm
  rw [e]
  refine L _ (a + 1) _ rfl (by omega) (by omega) (fun j => ?_)
  rw [if_neg (by omega)]
/-- the place's ash in a row of n -/
def ashIx (f : Int → Int) (w : Int) : Nat → Int → Int
  | 0, _ => -1
  | n + 1, i => if f i = w then i else ashIx f w n (i + 1)
theorem ashIx_of (f : Int → Int) (w : Int) : ∀ (n : Nat) (i : Int), (ashIx f w n i = -1 ∧ ∀ j, i ≤ j → j < i + n → f j ≠ w) ∨ (i ≤ ashIx f w n i ∧ ashIx f w n i < i + n ∧ f (ashIx f w n i) = w)
  | 0, i => Or.inl ⟨rfl, fun j h1 h2 => by omega⟩
  | n + 1, i => by
    unfold ashIx
    by_cases h : f i = w
    · rw [if_pos h]
      exact Or.inr ⟨by omega, by omega, h⟩
    · rw [if_neg h]
      rcases ashIx_of f w n (i + 1) with ⟨a, b⟩ | ⟨a, b, c⟩
      · refine Or.inl ⟨a, fun j h1 h2 => ?_⟩
        by_cases e : j = i
        · rw [e]
          exact h
        · exact b j (by omega) (by omega)
      · exact Or.inr ⟨by omega, by omega, c⟩
theorem t_X0_ashAt {d : Nat} (hd : 1 ≤ d) {σ : Sto} {Q : Post} {c w : Int} (hw : inR w) (hn : 0 ≤ σ 16 c 8 ∧ σ 16 c 8 ≤ 6) (h : Q (some (.inl (ashIx (σ 20 c) w (σ 16 c 8).toNat 0))) σ) : WPd d m_X0_ashAt [.inr (16, c), .inl w] σ Q := by
  obtain ⟨d, rfl⟩ : ∃ k, d = k + 1 := ⟨d - 1, by omega⟩
  intro P hP
  have L : ∀ (n : Nat) (i : Int), n = (σ 16 c 8 - i).toNat → 0 ≤ i → i ≤ σ 16 c 8 → Q (some (.inl (ashIx (σ 20 c) w n i))) σ → P 2 [.inr (16, c), .inl w, .inl i] [] σ := by
    intro n
    induction n with
    | zero =>
      intro i hn0 h0 h1 hq
      (refine go (t := tb_X0_ashAt) (WPd_mono d) hP 30 [2] ?_; (conv => whnf); (repeat' (first | (refine ⟨fun _ => ?_, fun _ => ?_⟩ <;> first | (exfalso; omega) | (conv => whnf)) | (refine ⟨by omega, ?_⟩; conv => whnf) | (intro _; conv => whnf))))
      exact hq
    | succ n ih =>
      intro i hn0 h0 h1 hq
      (refine go (t := tb_X0_ashAt) (WPd_mono d) hP 30 [2] ?_; (conv => whnf); (repeat' (first | (refine ⟨fun _ => ?_, fun _ => ?_⟩ <;> first | (exfalso; omega) | (conv => whnf)) | (refine ⟨by omega, ?_⟩; conv => whnf) | (intro _; conv => whnf))))
      · exact ih (i + 1) (by omega) (by omega) (by omega) (by rwa [ashIx, if_neg (by omega)] at hq)
      · rwa [ashIx, if_pos (by omega)] at hq
  (refine go (t := tb_X0_ashAt) (WPd_mono d) hP 30 [2] ?_; (conv => whnf); (repeat' (first | (refine ⟨fun _ => ?_, fun _ => ?_⟩ <;> first | (exfalso; omega) | (conv => whnf)) | (refine ⟨by omega, ?_⟩; conv => whnf) | (intro _; conv => whnf))))
  exact L _ 0 (by omega) (by omega) (by omega) h
def lo (k : Int) : Int := if k = 1 then 0 else 1
def hi (k : Int) : Int := if k = 2 then 2 else 1
theorem lo_b (k : Int) : 0 ≤ lo k ∧ lo k ≤ 1 := by unfold lo; split <;> omega
theorem hi_b (k : Int) : 1 ≤ hi k ∧ hi k ≤ 2 := by unfold hi; split <;> omega
theorem t_X0_leastOwn {d : Nat} (hd : 1 ≤ d) {σ : Sto} {Q : Post} {c i : Int} (hi0 : 0 ≤ i ∧ i < 50) (h : Q (some (.inl (lo (σ 18 c i)))) σ) : WPd d m_X0_leastOwn [.inr (16, c), .inl i] σ Q := by
  obtain ⟨d, rfl⟩ : ∃ k, d = k + 1 := ⟨d - 1, by omega⟩
  intro P hP
  unfold lo at h
  (refine go (t := tb_X0_leastOwn) (WPd_mono d) hP 30 [] ?_; (conv => whnf); (repeat' (first | (refine ⟨fun _ => ?_, fun _ => ?_⟩ <;> first | (exfalso; omega) | (conv => whnf)) | (refine ⟨by omega, ?_⟩; conv => whnf) | (intro _; conv => whnf))))
  · rwa [if_neg (by assumption)] at h
  · rwa [if_pos (by assumption)] at h
theorem t_X0_mostOwn {d : Nat} (hd : 1 ≤ d) {σ : Sto} {Q : Post} {c i : Int} (hi0 : 0 ≤ i ∧ i < 50) (h : Q (some (.inl (hi (σ 18 c i)))) σ) : WPd d m_X0_mostOwn [.inr (16, c), .inl i] σ Q := by
  obtain ⟨d, rfl⟩ : ∃ k, d = k + 1 := ⟨d - 1, by omega⟩
  intro P hP
  unfold hi at h
  (refine go (t := tb_X0_mostOwn) (WPd_mono d) hP 30 [] ?_; (conv => whnf); (repeat' (first | (refine ⟨fun _ => ?_, fun _ => ?_⟩ <;> first | (exfalso; omega) | (conv => whnf)) | (refine ⟨by omega, ?_⟩; conv => whnf) | (intro _; conv => whnf))))
  · rwa [if_neg (by assumption)] at h
  · rwa [if_pos (by assumption)] at h
theorem t_X0_mostYears {d : Nat} (hd : 1 ≤ d) {σ : Sto} {Q : Post} {c i : Int} (hi0 : 0 ≤ i ∧ i < 50) (h : Q (some (.inl (hi (σ 18 c i) + σ 19 c i))) σ) : WPd d m_X0_mostYears [.inr (16, c), .inl i] σ Q := by
  obtain ⟨d, rfl⟩ : ∃ k, d = k + 1 := ⟨d - 1, by omega⟩
  intro P hP
  unfold hi at h
  (refine go (t := tb_X0_mostYears) (WPd_mono d) hP 30 [] ?_; (conv => whnf); (repeat' (first | (refine ⟨fun _ => ?_, fun _ => ?_⟩ <;> first | (exfalso; omega) | (conv => whnf)) | (refine ⟨by omega, ?_⟩; conv => whnf) | (intro _; conv => whnf))))
  · rwa [if_neg (by assumption)] at h
  · rwa [if_pos (by assumption)] at h
def oCst (k o f t : Int) : Int := if k = 1 ∧ o = 0 then f else if k = 2 ∧ o = 2 then t else 0
theorem t_X0_ownCost {d : Nat} (hd : 1 ≤ d) {σ : Sto} {Q : Post} {c i o : Int} (hi0 : 0 ≤ i ∧ i < 50) (ho : inR o) (h : Q (some (.inl (oCst (σ 18 c i) o (σ 23 c 0) (σ 23 c 1)))) σ) : WPd d m_X0_ownCost [.inr (16, c), .inl i, .inl o] σ Q := by
  obtain ⟨d, rfl⟩ : ∃ k, d = k + 1 := ⟨d - 1, by omega⟩
  intro P hP
  unfold oCst at h
  (refine go (t := tb_X0_ownCost) (WPd_mono d) hP 40 [] ?_; (conv => whnf); (repeat' (first | (refine ⟨fun _ => ?_, fun _ => ?_⟩ <;> first | (exfalso; omega) | (conv => whnf)) | (refine ⟨by omega, ?_⟩; conv => whnf) | (intro _; conv => whnf))))
  all_goals first | (rwa [if_pos (by omega)] at h) | (rwa [if_neg (by omega), if_pos (by omega)] at h) | (rwa [if_neg (by omega), if_neg (by omega)] at h)
theorem t_X0_missingCost {d : Nat} (hd : 1 ≤ d) {σ : Sto} {Q : Post} {c y : Int} (h : Q (some (.inl (y * σ 23 c 2))) σ) : WPd d m_X0_missingCost [.inr (16, c), .inl y] σ Q := by
  obtain ⟨d, rfl⟩ : ∃ k, d = k + 1 := ⟨d - 1, by omega⟩
  intro P hP
  (refine go (t := tb_X0_missingCost) (WPd_mono d) hP 30 [] ?_; (conv => whnf); (repeat' (first | (refine ⟨fun _ => ?_, fun _ => ?_⟩ <;> first | (exfalso; omega) | (conv => whnf)) | (refine ⟨by omega, ?_⟩; conv => whnf) | (intro _; conv => whnf))))
  exact h
def dif (a b : Int) : Int := max (a - b) (-(a - b))
def aCst (x a due u w : Int) : Int := if x = -1 then 0 else if u < dif a due then 268435456 else dif a due * w
theorem t_X0_ashCost {d : Nat} (hd : 1 ≤ d) {σ : Sto} {Q : Post} {c x a : Int} (hx : -1 ≤ x ∧ x < 6) (ha : 0 ≤ a ∧ a ≤ 1000) (hx2 : 0 ≤ x → 0 ≤ σ 21 c x ∧ σ 21 c x ≤ 1000) (h : Q (some (.inl (aCst x a (σ 21 c x) (σ 22 c x) (σ 23 c 3)))) σ) : WPd d m_X0_ashCost [.inr (16, c), .inl x, .inl a] σ Q := by
  obtain ⟨d, rfl⟩ : ∃ k, d = k + 1 := ⟨d - 1, by omega⟩
  intro P hP
  unfold aCst dif at h
  (refine go (t := tb_X0_ashCost) (WPd_mono d) hP 40 [] ?_; (conv => whnf); (repeat' (first | (refine ⟨fun _ => ?_, fun _ => ?_⟩ <;> first | (exfalso; omega) | (conv => whnf)) | (refine ⟨by omega, ?_⟩; conv => whnf) | (intro _; conv => whnf))))
  all_goals first | (rwa [if_pos (by omega)] at h) | (rwa [if_neg (by omega), if_pos (by omega)] at h) | (rwa [if_neg (by omega), if_neg (by omega)] at h)
