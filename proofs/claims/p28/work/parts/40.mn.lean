/-! LEAST COSTS as values -/
theorem Mn_un {ι : Type} {S : Int → Prop} {N v : Int} {I : ι → Prop} {x k : ι → Int} {Si : ι → Int → Prop} (hi : ∀ i, I i → Mn (Si i) N (x i) ∧ 0 ≤ k i) (hS : ∀ c, S c ↔ ∃ i, I i ∧ ∃ c', Si i c' ∧ c = c' + k i) (hb : ∀ c, S c → c < N) (h1 : v ≤ N) (h2 : ∀ i, I i → v ≤ x i + k i) (h3 : v = N ∨ ∃ i, I i ∧ v = x i + k i) : Mn S N v := by
  have low : ∀ c, S c → v ≤ c := fun c hc => by
    obtain ⟨i, hI, c', hc', e⟩ := (hS c).1 hc
    have a := (hi i hI).1.1 c' hc'
    have b := h2 i hI
    omega
  refine ⟨low, ?_⟩
  by_cases q : v = N
  · refine Or.inl ⟨q, fun c hc => ?_⟩
    have a := low c hc
    have b := hb c hc
    omega
  · rcases h3 with e | ⟨i, hI, e⟩
    · exact absurd e q
    · obtain ⟨a, b⟩ := hi i hI
      rcases a.2 with ⟨c1, c2⟩ | ⟨c1, c2⟩
      · omega
      · exact Or.inr ⟨by omega, (hS v).2 ⟨i, hI, x i, c2, e⟩⟩
theorem Mn_iff {S T : Int → Prop} {N v : Int} (h : Mn S N v) (e : ∀ c, S c ↔ T c) : Mn T N v := ⟨fun c hc => h.1 c ((e c).2 hc), by
  rcases h.2 with ⟨a, b⟩ | ⟨a, b⟩
  · exact Or.inl ⟨a, fun c hc => b c ((e c).2 hc)⟩
  · exact Or.inr ⟨a, (e v).1 b⟩⟩
theorem Mn_eq {S : Int → Prop} {N v w : Int} (h : Mn S N v) (h' : Mn S N w) : v = w := by
  rcases h.2 with ⟨a, b⟩ | ⟨a, b⟩ <;> rcases h'.2 with ⟨c, e⟩ | ⟨c, e⟩
  · omega
  · exact absurd e (b w)
  · exact absurd b (e v)
  · have x := h.1 w e
    have y := h'.1 v b
    omega
theorem Mn_le {S : Int → Prop} {N v : Int} (h : Mn S N v) : v ≤ N := by
  rcases h.2 with ⟨a, b⟩ | ⟨a, b⟩ <;> omega
theorem Mn_0 {S : Int → Prop} {N v : Int} (h : Mn S N v) (hN : 0 ≤ N) (hs : ∀ c, S c → 0 ≤ c) : 0 ≤ v := by
  rcases h.2 with ⟨a, b⟩ | ⟨a, b⟩
  · omega
  · exact hs v b
theorem mul_b {g x G X : Int} (h0 : 0 ≤ g) (h1 : g ≤ G) (h2 : 0 ≤ x) (h3 : x ≤ X) : 0 ≤ g * x ∧ g * x ≤ G * X := ⟨Int.mul_nonneg h0 h2, Int.mul_le_mul h1 h3 h2 (by omega)⟩
def acB (ac : Int → Int → Option Int) (W : Int) : Prop := ∀ p a w, ac p a = some w → 0 ≤ w ∧ w ≤ W
theorem oK_b {K : KV} (hK : WFK K) (p o : Int) : 0 ≤ oK K p o ∧ oK K p o ≤ 50 := by
  have a := hK.2.2.2.2.2 0 (by omega) (by omega)
  have b := hK.2.2.2.2.2 1 (by omega) (by omega)
  unfold oK oCst
  (repeat' split) <;> omega
theorem gap_b {K : KV} (hK : WFK K) {p g : Int} (hp : 0 ≤ p ∧ p < K 7 0) (hg : 0 ≤ g ∧ g ≤ K 2 p) : 0 ≤ g * K 6 2 ∧ g * K 6 2 ≤ 1000 := by
  have a := hK.2.2.2.2.2 2 (by omega) (by omega)
  have b := (hK.2.2.1 p hp.1 hp.2).2.2
  exact mul_b (G := 20) (X := 50) hg.1 (by omega) a.1 a.2
theorem cont_b {K : KV} (hK : WFK K) {ac : Int → Int → Option Int} {B W : Int} (hac : acB ac W) : ∀ (m : Nat) (p a c : Int), 0 ≤ p → p + m ≤ K 7 0 → cont K ac B m p a c → 0 ≤ c ∧ c ≤ m * (1050 + W)
  | 0, p, a, c, _, _, h => by
    have h : c = 0 := h
    omega
  | m + 1, p, a, c, h0, h1, h => by
    obtain ⟨o, g, w, c', ho, hg, hb, hw, hc, rfl⟩ := h
    have ih := cont_b hK hac m (p + 1) _ c' (by omega) (by omega) hc
    have e1 := oK_b hK p o
    have e2 := gap_b hK (p := p) (g := g) (by omega) hg
    have e3 := hac _ _ _ hw
    rw [show ((m + 1 : Nat) : Int) * (1050 + W) = (m : Int) * (1050 + W) + (1050 + W) by rw [show ((m + 1 : Nat) : Int) = (m : Int) + 1 by omega, Int.add_mul, Int.one_mul]]
    omega
theorem acK_b {K : KV} (hK : WFK K) : acB (acK K) 450 := by
  intro p a w h
  unfold acK at h
  have s := hK.2.2.2.2.2 3 (by omega) (by omega)
  have bx := axK_of K p hK.2.1.1
  split at h
  · cases h
    omega
  · rename_i q
    split at h
    · cases h
    · rename_i q2
      cases h
      have u := (hK.2.2.2.1 (axK K p) (by omega) (by omega)).2.2
      have d0 : 0 ≤ dif a (K 4 (axK K p)) := by
        unfold dif
        omega
      exact mul_b (G := 9) (X := 50) d0 (by omega) s.1 s.2
theorem t_X2_clearRow {d : Nat} (hd : 1 ≤ d) {σ : Sto} {Q : Post} {k : Nat} {c v : Int} (hk : lenI k = some 601) (h3 : k ≠ 3) (hv : inR v) (ho : 0 ≤ σ 3 0 11 ∧ σ 3 0 11 ≤ 600) (hq : ∀ σ', (∀ k' i', ¬ (k' = k ∧ i' = c) → σ' k' i' = σ k' i') → (∀ j, 0 ≤ j → j ≤ σ 3 0 11 → σ' k c j = v) → Q none σ') : WPd d m_X2_clearRow [.inr (3, 0), .inr (k, c), .inl v] σ Q := by
  obtain ⟨d, rfl⟩ : ∃ k, d = k + 1 := ⟨d - 1, by omega⟩
  intro P hP
  have L : ∀ (m : Nat) (i : Int) (τ : Sto), m = (σ 3 0 11 + 1 - i).toNat → 0 ≤ i → i ≤ σ 3 0 11 + 1 → (∀ k' i', ¬ (k' = k ∧ i' = c) → τ k' i' = σ k' i') → (∀ j, 0 ≤ j → j < i → τ k c j = v) → P 2 [.inr (3, 0), .inr (k, c), .inl v, .inl i] [] τ := by
    intro m
    induction m with
    | zero =>
      intro i τ hm i0 i1 e1 e2
      have e3 : τ 3 0 11 = σ 3 0 11 := by rw [e1 3 0 (fun e => h3 e.1.symm)]
      (refine go (t := tb_X2_clearRow) (WPd_mono d) hP 30 [2] ?_; (conv => whnf); (repeat' (first | (refine ⟨fun _ => ?_, fun _ => ?_⟩ <;> first | (exfalso; omega) | (conv => whnf)) | (refine ⟨by omega, ?_⟩; conv => whnf) | (intro _; conv => whnf))))
      exact hq τ e1 (fun j j0 j1 => e2 j j0 (by omega))
    | succ m ih =>
      intro i τ hm i0 i1 e1 e2
      have e3 : τ 3 0 11 = σ 3 0 11 := by rw [e1 3 0 (fun e => h3 e.1.symm)]
      (refine go (t := tb_X2_clearRow) (WPd_mono d) hP 30 [2] ?_; (conv => whnf); (repeat' (first | (refine ⟨fun _ => ?_, fun _ => ?_⟩ <;> first | (exfalso; omega) | (conv => whnf)) | (refine ⟨by omega, ?_⟩; conv => whnf) | (intro _; conv => whnf))))
      simp only [hk]
      ((conv => whnf); (repeat' (first | (refine ⟨fun _ => ?_, fun _ => ?_⟩ <;> first | (exfalso; omega) | (conv => whnf)) | (refine ⟨by omega, ?_⟩; conv => whnf) | (intro _; conv => whnf))))
      refine ih (i + 1) _ (by omega) (by omega) (by omega) (fun k' i' h => ?_) (fun j j0 j1 => ?_)
      · funext j
        rw [show upS τ k c i v k' i' j = τ k' i' j from if_neg fun e => h ⟨e.1, e.2.1⟩, e1 k' i' h]
      · by_cases e : j = i
        · rw [e, up_hit]
        · rw [up_j e]
          exact e2 j j0 (by omega)
  (refine go (t := tb_X2_clearRow) (WPd_mono d) hP 30 [2] ?_; (conv => whnf); (repeat' (first | (refine ⟨fun _ => ?_, fun _ => ?_⟩ <;> first | (exfalso; omega) | (conv => whnf)) | (refine ⟨by omega, ?_⟩; conv => whnf) | (intro _; conv => whnf))))
  exact L _ 0 σ rfl (by omega) (by omega) (fun _ _ _ => rfl) (fun j j0 j1 => by omega)
