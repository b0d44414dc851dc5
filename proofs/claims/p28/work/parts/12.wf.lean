/-! CHANGES keep a core well formed -/
theorem axK_of (K : KV) (p : Int) (ha : 0 ≤ K 7 1) : (axK K p = -1 ∧ ∀ j, 0 ≤ j → j < K 7 1 → K 3 j ≠ p) ∨ (0 ≤ axK K p ∧ axK K p < K 7 1 ∧ K 3 (axK K p) = p) := by
  unfold axK
  rcases ashIx_of (K 3) p (K 7 1).toNat 0 with ⟨a, b⟩ | ⟨a, b, c⟩
  · exact Or.inl ⟨a, fun j h0 h1 => b j h0 (by omega)⟩
  · exact Or.inr ⟨a, by omega, c⟩
theorem WFK_ins {K : KV} (hK : WFK K) {i t k m : Int} (hn : K 7 0 < 50) (hi : 0 ≤ i ∧ i ≤ K 7 0) (ht : 1 ≤ t ∧ t ≤ 99) (hk : 0 ≤ k ∧ k ≤ 2) (hm : 0 ≤ m ∧ m ≤ 20) : WFK (insK K i t k m) := by
  obtain ⟨h1, h2, h3, h4, h5, h6⟩ := hK
  refine ⟨?_, h2, ?_, ?_, ?_, h6⟩
  · show 0 ≤ K 7 0 + 1 ∧ K 7 0 + 1 ≤ 50
    omega
  · intro j j0 j1
    have j1 : j < K 7 0 + 1 := j1
    show (1 ≤ insM (K 0) i t j ∧ insM (K 0) i t j ≤ 99) ∧ (0 ≤ insM (K 1) i k j ∧ insM (K 1) i k j ≤ 2) ∧ (0 ≤ insM (K 2) i m j ∧ insM (K 2) i m j ≤ 20)
    unfold insM
    by_cases a : j < i
    · simp only [if_pos a]
      exact h3 j j0 (by omega)
    · simp only [if_neg a]
      by_cases b : j = i
      · simp only [if_pos b]
        exact ⟨ht, hk, hm⟩
      · simp only [if_neg b]
        exact h3 (j - 1) (by omega) (by omega)
  · intro j j0 j1
    have j1 : j < K 7 1 := j1
    obtain ⟨g1, g2⟩ := h4 j j0 j1
    refine ⟨?_, g2⟩
    show 1 ≤ upP (K 3) i j ∧ upP (K 3) i j ≤ K 7 0 + 1
    unfold upP
    split <;> omega
  · intro x y x0 xy y1
    have := h5 x y x0 xy y1
    show upP (K 3) i x < upP (K 3) i y
    unfold upP
    split <;> split <;> omega
theorem WFK_delA {K : KV} (hK : WFK K) {x : Int} (hx : 0 ≤ x ∧ x < K 7 1) : WFK (delAK K x) := by
  obtain ⟨h1, h2, h3, h4, h5, h6⟩ := hK
  refine ⟨h1, ?_, h3, ?_, ?_, h6⟩
  · show 0 ≤ K 7 1 - 1 ∧ K 7 1 - 1 ≤ 6
    omega
  · intro j j0 j1
    have j1 : j < K 7 1 - 1 := j1
    show (1 ≤ delM (K 3) x j ∧ delM (K 3) x j ≤ K 7 0) ∧ (0 ≤ delM (K 4) x j ∧ delM (K 4) x j ≤ 500) ∧ (0 ≤ delM (K 5) x j ∧ delM (K 5) x j ≤ 9)
    unfold delM
    by_cases a : j < x
    · simp only [if_pos a]
      exact h4 j j0 (by omega)
    · simp only [if_neg a]
      exact h4 (j + 1) (by omega) (by omega)
  · intro a b a0 ab b1
    have b1 : b < K 7 1 - 1 := b1
    show delM (K 3) x a < delM (K 3) x b
    unfold delM
    split <;> split
    · exact h5 a b a0 ab (by omega)
    · exact h5 a (b + 1) a0 (by omega) (by omega)
    · omega
    · exact h5 (a + 1) (b + 1) (by omega) (by omega) (by omega)
theorem WFK_delL {K : KV} (hK : WFK K) {i : Int} (hi : 0 ≤ i ∧ i < K 7 0) (hq : (∀ j, 0 ≤ j → j < K 7 1 → K 3 j ≠ i + 1) ∨ (i ≠ 0 ∧ ∀ j, 0 ≤ j → j < K 7 1 → K 3 j ≠ i)) : WFK (delLK K i) := by
  obtain ⟨h1, h2, h3, h4, h5, h6⟩ := hK
  refine ⟨?_, h2, ?_, ?_, ?_, h6⟩
  · show 0 ≤ K 7 0 - 1 ∧ K 7 0 - 1 ≤ 50
    omega
  · intro j j0 j1
    have j1 : j < K 7 0 - 1 := j1
    show (1 ≤ delM (K 0) i j ∧ delM (K 0) i j ≤ 99) ∧ (0 ≤ delM (K 1) i j ∧ delM (K 1) i j ≤ 2) ∧ (0 ≤ delM (K 2) i j ∧ delM (K 2) i j ≤ 20)
    unfold delM
    by_cases a : j < i
    · simp only [if_pos a]
      exact h3 j j0 (by omega)
    · simp only [if_neg a]
      exact h3 (j + 1) (by omega) (by omega)
  · intro j j0 j1
    have j1 : j < K 7 1 := j1
    obtain ⟨g1, g2⟩ := h4 j j0 j1
    refine ⟨?_, g2⟩
    show 1 ≤ dnP (K 3) i j ∧ dnP (K 3) i j ≤ K 7 0 - 1
    unfold dnP
    rcases hq with q | ⟨q0, q⟩
    · have := q j j0 j1
      split <;> omega
    · split <;> omega
  · intro x y x0 xy y1
    have y1 : y < K 7 1 := y1
    have e := h5 x y x0 xy y1
    show dnP (K 3) i x < dnP (K 3) i y
    unfold dnP
    rcases hq with q | ⟨q0, q⟩
    · have := q x x0 (by omega)
      have := q y (by omega) y1
      split <;> split <;> omega
    · have := q x x0 (by omega)
      have := q y (by omega) y1
      split <;> split <;> omega
theorem WFK_rem {K : KV} (hK : WFK K) {i : Int} (hi : 0 ≤ i ∧ i < K 7 0) : WFK (remK K i) := by
  unfold remK
  have ha := hK.2.1.1
  rcases axK_of K (i + 1) ha with ⟨a, b⟩ | ⟨a, b, c⟩
  · rw [if_neg (fun e => e.1 a)]
    exact WFK_delL hK hi (Or.inl b)
  · by_cases q : i = 0 ∨ axK K i ≠ -1
    · rw [if_pos ⟨by omega, q⟩]
      refine WFK_delL (WFK_delA hK ⟨a, b⟩) hi (Or.inl fun j j0 j1 => ?_)
      have j1 : j < K 7 1 - 1 := j1
      show delM (K 3) (axK K (i + 1)) j ≠ i + 1
      have h5 := hK.2.2.2.2.1
      unfold delM
      split
      · have := h5 j (axK K (i + 1)) j0 (by omega) b
        omega
      · have := h5 (axK K (i + 1)) (j + 1) a (by omega) (by omega)
        omega
    · rw [if_neg (fun e => q e.2)]
      refine WFK_delL hK hi (Or.inr ⟨fun e => q (Or.inl e), ?_⟩)
      rcases axK_of K i ha with ⟨a2, b2⟩ | ⟨a2, b2, c2⟩
      · exact b2
      · exact absurd (Or.inr (by omega)) q
theorem ltF_0 (f : Int → Int) (w : Int) : ∀ (n : Nat) (i : Int), (∀ j, i ≤ j → j < i + n → ¬ f j < w) → ltF f w n i = 0
  | 0, _, _ => rfl
  | n + 1, i, h => by
    unfold ltF
    rw [if_neg (h i (by omega) (by omega)), ltF_0 f w n (i + 1) (fun j h1 h2 => h j (by omega) (by omega))]
    rfl
theorem ltF_cut (f : Int → Int) (w : Int) : ∀ (n : Nat) (i : Int), (∀ x y, i ≤ x → x < y → y < i + n → f x < f y) → (∀ j, i ≤ j → j < i + ltF f w n i → f j < w) ∧ ∀ j, i + ltF f w n i ≤ j → j < i + n → ¬ f j < w
  | 0, i, _ => ⟨fun j h1 h2 => by simp only [ltF] at h2; omega, fun j h1 h2 => by simp only [ltF] at h1; omega⟩
  | n + 1, i, h => by
    by_cases q : f i < w
    · obtain ⟨a, b⟩ := ltF_cut f w n (i + 1) (fun x y h1 h2 h3 => h x y (by omega) h2 (by omega))
      unfold ltF
      rw [if_pos q]
      refine ⟨fun j h1 h2 => ?_, fun j h1 h2 => b j (by omega) (by omega)⟩
      by_cases e : j = i
      · rw [e]
        exact q
      · exact a j (by omega) (by omega)
    · have z : ∀ j, i ≤ j → j < i + ((n + 1 : Nat) : Int) → ¬ f j < w := fun j h1 h2 => by
        by_cases e : j = i
        · rw [e]
          exact q
        · have := h i j (by omega) (by omega) (by omega)
          omega
      rw [ltF_0 f w (n + 1) i z]
      exact ⟨fun j h1 h2 => by omega, fun j h1 h2 => z j (by omega) h2⟩
theorem nxK_cut {K : KV} (hK : WFK K) (p : Int) : (0 ≤ nxK K p ∧ nxK K p ≤ K 7 1) ∧ (∀ j, 0 ≤ j → j < nxK K p → K 3 j < p) ∧ ∀ j, nxK K p ≤ j → j < K 7 1 → p ≤ K 3 j := by
  obtain ⟨h1, h2, h3, h4, h5, h6⟩ := hK
  have e : ((K 7 1).toNat : Int) = K 7 1 := by omega
  have b := ltF_b (K 3) p (K 7 1).toNat 0
  obtain ⟨c1, c2⟩ := ltF_cut (K 3) p (K 7 1).toNat 0 (fun x y q1 q2 q3 => h5 x y q1 q2 (by omega))
  unfold nxK
  exact ⟨by omega, fun j j0 j1 => c1 j j0 (by omega), fun j j0 j1 => Int.not_lt.mp (c2 j (by omega) (by omega))⟩
theorem WFK_insA {K : KV} (hK : WFK K) {p a u : Int} (hn : K 7 1 < 6) (hp : 1 ≤ p ∧ p ≤ K 7 0) (ha : 0 ≤ a ∧ a ≤ 500) (hu : 0 ≤ u ∧ u ≤ 9) (hx : axK K p = -1) : WFK (insAK K (nxK K p) p a u) := by
  obtain ⟨⟨n0, n1⟩, c1, c2⟩ := nxK_cut hK p
  have hne : ∀ j, 0 ≤ j → j < K 7 1 → K 3 j ≠ p := by
    rcases axK_of K p hK.2.1.1 with ⟨_, b⟩ | ⟨a, _, _⟩
    · exact b
    · omega
  obtain ⟨h1, h2, h3, h4, h5, h6⟩ := hK
  generalize nxK K p = x at *
  refine ⟨h1, ?_, h3, ?_, ?_, h6⟩
  · show 0 ≤ K 7 1 + 1 ∧ K 7 1 + 1 ≤ 6
    omega
  · intro j j0 j1
    have j1 : j < K 7 1 + 1 := j1
    show (1 ≤ insM (K 3) x p j ∧ insM (K 3) x p j ≤ K 7 0) ∧ (0 ≤ insM (K 4) x a j ∧ insM (K 4) x a j ≤ 500) ∧ (0 ≤ insM (K 5) x u j ∧ insM (K 5) x u j ≤ 9)
    unfold insM
    by_cases b : j < x
    · simp only [if_pos b]
      exact h4 j j0 (by omega)
    · simp only [if_neg b]
      by_cases b2 : j = x
      · simp only [if_pos b2]
        exact ⟨hp, ha, hu⟩
      · simp only [if_neg b2]
        exact h4 (j - 1) (by omega) (by omega)
  · intro y z y0 yz z1
    have z1 : z < K 7 1 + 1 := z1
    show insM (K 3) x p y < insM (K 3) x p z
    unfold insM
    by_cases a1 : y < x
    · rw [if_pos a1]
      have q1 := c1 y y0 a1
      by_cases a2 : z < x
      · rw [if_pos a2]
        exact h5 y z y0 yz (by omega)
      · rw [if_neg a2]
        by_cases a3 : z = x
        · rw [if_pos a3]
          exact q1
        · rw [if_neg a3]
          have q2 := c2 (z - 1) (by omega) (by omega)
          omega
    · rw [if_neg a1, if_neg (show ¬ z < x by omega)]
      by_cases a3 : y = x
      · rw [if_pos a3, if_neg (show ¬ z = x by omega)]
        have q2 := c2 (z - 1) (by omega) (by omega)
        have q3 := hne (z - 1) (by omega) (by omega)
        omega
      · rw [if_neg a3, if_neg (show ¬ z = x by omega)]
        exact h5 (y - 1) (z - 1) (by omega) (by omega) (by omega)
def setLK (K : KV) (i w v : Int) : KV := fun q => if (q : Int) = w then setM (K q) i v else K q
def setSK (K : KV) (w v : Int) : KV := fun q => match q with
  | 6 => setM (K 6) w v
  | q => K q
theorem WFK_setL {K : KV} (hK : WFK K) {i w v : Int} (hi : 0 ≤ i ∧ i < K 7 0) (hw : (w = 0 ∧ 1 ≤ v ∧ v ≤ 99) ∨ (w = 1 ∧ 0 ≤ v ∧ v ≤ 2) ∨ (w = 2 ∧ 0 ≤ v ∧ v ≤ 20)) : WFK (setLK K i w v) := by
  obtain ⟨h1, h2, h3, h4, h5, h6⟩ := hK
  have e : ∀ q : Nat, 2 < q → setLK K i w v q = K q := fun q hq => if_neg (by omega)
  unfold WFK
  rw [e 7 (by omega), e 3 (by omega), e 4 (by omega), e 5 (by omega), e 6 (by omega)]
  refine ⟨h1, h2, fun j j0 j1 => ?_, h4, h5, h6⟩
  have g := h3 j j0 j1
  have r : ∀ q : Nat, setLK K i w v q j = if (q : Int) = w ∧ j = i then v else K q j := fun q => by
    unfold setLK setM
    by_cases a : (q : Int) = w
    · rw [if_pos a]
      by_cases b : j = i
      · rw [if_pos b, if_pos ⟨a, b⟩]
      · rw [if_neg b, if_neg (fun e => b e.2)]
    · rw [if_neg a, if_neg (fun e => a e.1)]
  rw [r 0, r 1, r 2]
  refine ⟨?_, ?_, ?_⟩
  · split <;> omega
  · split <;> omega
  · split <;> omega
theorem WFK_setS {K : KV} (hK : WFK K) {w v : Int} (hv : 0 ≤ v ∧ v ≤ 50) : WFK (setSK K w v) := by
  obtain ⟨h1, h2, h3, h4, h5, h6⟩ := hK
  refine ⟨h1, h2, h3, h4, h5, fun j j0 j1 => ?_⟩
  show 0 ≤ setM (K 6) w v j ∧ setM (K 6) w v j ≤ 50
  unfold setM
  split
  · exact hv
  · exact h6 j j0 j1
theorem WFK_take {A B : KV} (hA : WFK A) (hB : WFK B) : WFK (takeK A B) := by
  obtain ⟨h1, h2, h3, h4, h5, h6⟩ := hA
  exact ⟨h1, h2, h3, h4, h5, hB.2.2.2.2.2⟩
