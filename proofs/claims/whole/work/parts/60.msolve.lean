/-! THE MODEL: costs and solves -/
theorem ClassM_off {σ σ' : Sto} {K : KV} {h : Int} {HK : Int → KV} {tl : Int} {tx : Int → Int} (hC : ModelR σ K h HK tl tx) (fo : ∀ k i, k ≠ 26 → ¬ (31 ≤ k ∧ k ≤ 35) → σ' k i = σ k i) (f2 : σ' 26 0 2 = σ 26 0 2) (f4 : σ' 26 0 4 = σ 26 0 4) : ModelR σ' K h HK tl tx ∧ frM σ σ' := by
  obtain ⟨c1, c2, c3, c4⟩ := hC
  refine ⟨⟨by rw [fo 27 0 (by decide) (by decide)]; exact c1, c2, ?_, ?_⟩, fun k i hk => fo k i (by omega) (by omega)⟩
  · unfold HistM at c3 ⊢
    rw [f2, fo 28 0 (by decide) (by decide)]
    exact c3
  · unfold TxtM at c4 ⊢
    rw [f4, fo 29 0 (by decide) (by decide)]
    exact c4
def mdR (σ : Sto) (l mp ma mu wi : Int) : Prop := σ 26 0 9 = l ∧ σ 26 0 10 = mp ∧ σ 26 0 13 = wi ∧ (mp = -1 ∨ (σ 26 0 11 = ma ∧ σ 26 0 12 = mu ∧ (0 ≤ ma ∧ ma ≤ 500))) ∧ (0 ≤ wi ∧ wi ≤ 500) ∧ (0 ≤ mu ∧ mu ≤ 9) ∧ inR l ∧ inR mp
theorem mdR_cg {σ σ' : Sto} {l mp ma mu wi : Int} (h : mdR σ l mp ma mu wi) (e : ∀ j, 9 ≤ j → j ≤ 13 → σ' 26 0 j = σ 26 0 j) : mdR σ' l mp ma mu wi := by
  unfold mdR at h ⊢
  rw [e 9 (by omega) (by omega), e 10 (by omega) (by omega), e 11 (by omega) (by omega), e 12 (by omega) (by omega), e 13 (by omega) (by omega)]
  exact h
def acN0 (K : KV) (l wi p a : Int) : Int := if axK K p = -1 ∨ axK K p = l then 0 else if K 5 (axK K p) + wi < dif a (K 4 (axK K p)) then 100000000 else dif a (K 4 (axK K p)) * K 6 3
def acN (K : KV) (l mp ma mu wi p a : Int) : Int := if p = mp ∧ acN0 K l wi p a < 100000000 then acN0 K l wi p a + (if mu + wi < dif a ma then 100000000 else dif a ma * K 6 3) else acN0 K l wi p a
theorem acN0_av {K : KV} (hK : WFK K) {l wi : Int} (hwi : 0 ≤ wi ∧ wi ≤ 500) (p a : Int) : (acB0 K l wi p a = none ∧ acN0 K l wi p a = 100000000) ∨ (acB0 K l wi p a = some (acN0 K l wi p a) ∧ 0 ≤ acN0 K l wi p a ∧ acN0 K l wi p a ≤ 30000) := by
  have b := acB0_g hK (l := l) (wi := wi) (by omega) p a
  unfold acN0
  cases e : acB0 K l wi p a with
  | none =>
    unfold acB0 at e
    split at e
    · cases e
    · rename_i q
      rw [if_neg q]
      split at e
      · rename_i q2
        rw [if_pos q2]
        exact Or.inl ⟨rfl, rfl⟩
      · cases e
  | some w =>
    have b2 := b w e
    right
    unfold acB0 at e
    split at e
    · rename_i q
      rw [if_pos q]
      cases e
      exact ⟨rfl, by omega, by omega⟩
    · rename_i q
      rw [if_neg q]
      split at e
      · cases e
      · rename_i q2
        rw [if_neg q2]
        cases e
        exact ⟨rfl, by omega, by omega⟩
theorem acN_av {K : KV} (hK : WFK K) {l mp ma mu wi : Int} (hwi : 0 ≤ wi ∧ wi ≤ 500) (hmu : mu ≤ 9) (p a : Int) : ((acG K l mp ma mu wi p a = none ∧ 100000000 ≤ acN K l mp ma mu wi p a) ∨ (acG K l mp ma mu wi p a = some (acN K l mp ma mu wi p a) ∧ 0 ≤ acN K l mp ma mu wi p a ∧ acN K l mp ma mu wi p a ≤ 60000)) ∧ acN K l mp ma mu wi p a ≤ 200000000 := by
  have b := acN0_av hK (l := l) hwi p a
  have s := hK.2.2.2.2.2 3 (by omega) (by omega)
  unfold acG acN acP1
  by_cases c : p = mp
  · rw [if_pos c]
    rcases b with ⟨e, e2⟩ | ⟨e, e1, e2⟩
    · rw [e, if_neg (by omega)]
      exact ⟨Or.inl ⟨rfl, by omega⟩, by omega⟩
    · rw [e, if_pos (show p = mp ∧ _ from ⟨c, by omega⟩)]
      dsimp only
      by_cases q : mu + wi < dif a ma
      · rw [if_pos q, if_pos q]
        exact ⟨Or.inl ⟨rfl, by omega⟩, by omega⟩
      · rw [if_neg q, if_neg q]
        have d0 : 0 ≤ dif a ma := by
          unfold dif
          omega
        have := mul_b (G := 520) (X := 50) d0 (by omega) s.1 s.2
        exact ⟨Or.inr ⟨rfl, by omega, by omega⟩, by omega⟩
  · rw [if_neg c, if_neg (by omega)]
    rcases b with ⟨e, e2⟩ | ⟨e, e1, e2⟩
    · exact ⟨Or.inl ⟨e, by omega⟩, by omega⟩
    · exact ⟨Or.inr ⟨e, by omega, by omega⟩, by omega⟩
theorem t_X5_offCost {d : Nat} (hd : 1 ≤ d) {σ : Sto} {Q : Post} {a b u : Int} (ha : 0 ≤ a ∧ a ≤ 1000) (hb : 0 ≤ b ∧ b ≤ 1000) (hu : 0 ≤ u ∧ u ≤ 1000) (hwi : 0 ≤ σ 26 0 13 ∧ σ 26 0 13 ≤ 1000) (h : Q (some (.inl (if u + σ 26 0 13 < dif a b then 100000000 else dif a b * σ 27 0 173))) σ) : WPd d m_X5_offCost [.inr (26, 0), .inl a, .inl b, .inl u] σ Q := by
  obtain ⟨d, rfl⟩ : ∃ k, d = k + 1 := ⟨d - 1, by omega⟩
  intro P hP
  by_cases c : b < a
  · have e : dif a b = a - b := by
      unfold dif
      omega
    rw [e] at h
    (refine go (t := tb_X5_offCost) (WPd_mono d) hP 60 [] ?_; (conv => whnf); (repeat' (first | (refine ⟨fun _ => ?_, fun _ => ?_⟩ <;> first | (exfalso; omega) | (conv => whnf)) | (refine ⟨by omega, ?_⟩; conv => whnf) | (intro _; conv => whnf))))
    · rw [if_neg (by omega)] at h
      exact h
    · rw [if_pos (by omega)] at h
      exact h
  · have e : dif a b = b - a := by
      unfold dif
      omega
    rw [e] at h
    (refine go (t := tb_X5_offCost) (WPd_mono d) hP 60 [] ?_; (conv => whnf); (repeat' (first | (refine ⟨fun _ => ?_, fun _ => ?_⟩ <;> first | (exfalso; omega) | (conv => whnf)) | (refine ⟨by omega, ?_⟩; conv => whnf) | (intro _; conv => whnf))))
    · rw [if_neg (by omega)] at h
      exact h
    · rw [if_pos (by omega)] at h
      exact h
theorem t_X5_ashCost {d : Nat} (hd : 2 ≤ d) {σ : Sto} {Q : Post} {K : KV} {l mp ma mu wi p a : Int} (hK : vwM (σ 27 0) = K) (hw : WFK K) (hM : mdR σ l mp ma mu wi) (hp : 0 ≤ p ∧ p ≤ 50) (ha : 0 ≤ a ∧ a ≤ 1000) (h : Q (some (.inl (acN K l mp ma mu wi p a))) σ) : WPd d m_X5_ashCost [.inr (26, 0), .inl p, .inl a] σ Q := by
  obtain ⟨d, rfl⟩ : ∃ k, d = k + 1 := ⟨d - 1, by omega⟩
  intro P hP
  obtain ⟨m1, m2, m3, m4, m5, m6, m7, m8⟩ := hM
  have hn := hw.1
  have hm := hw.2.1
  have a2 : σ 27 0 151 = K 7 1 := by rw [← hK, vm_a]
  have bx := axK_of K p hw.2.1.1
  have h63 : K 6 3 = σ 27 0 173 := by
    have := (vm_in (f := σ 27 0)).2.2 (show (0 : Int) ≤ 3 by omega) (by omega)
    rw [hK] at this
    rw [this]
    rfl
  have n0 := acN0_av hw (l := l) m5 p a
  have s := hw.2.2.2.2.2 3 (by omega) (by omega)
  have more : ∀ (v : Int), v = acN0 K l wi p a → runs (WPd d) Q P tb_X5_ashCost [49] 40 49 [.inr (26, 0), .inl p, .inl a, .inl (axK K p), .inl v] [] σ → True := fun _ _ _ => trivial
  have T49 : P 49 [.inr (26, 0), .inl p, .inl a, .inl (axK K p), .inl (acN0 K l wi p a)] [] σ := by
    unfold acN at h
    by_cases c : p = mp ∧ acN0 K l wi p a < 100000000
    · rw [if_pos c] at h
      have m4' : σ 26 0 11 = ma ∧ σ 26 0 12 = mu ∧ (0 ≤ ma ∧ ma ≤ 500) := by
        rcases m4 with z | z
        · omega
        · exact z
      (refine go (t := tb_X5_ashCost) (WPd_mono d) hP 60 [49] ?_; (conv => whnf); (repeat' (first | (refine ⟨fun _ => ?_, fun _ => ?_⟩ <;> first | (exfalso; omega) | (conv => whnf)) | (refine ⟨by omega, ?_⟩; conv => whnf) | (intro _; conv => whnf))))
      rw [m4'.1, m4'.2.1]
      ((conv => whnf); (repeat' (first | (refine ⟨fun _ => ?_, fun _ => ?_⟩ <;> first | (exfalso; omega) | (conv => whnf)) | (refine ⟨by omega, ?_⟩; conv => whnf) | (intro _; conv => whnf))))
      refine t_X5_offCost (by omega) (by omega) (by omega) (by omega) (by omega) ?_
      rw [m3, ← h63]
      ((conv => whnf); (repeat' (first | (refine ⟨fun _ => ?_, fun _ => ?_⟩ <;> first | (exfalso; omega) | (conv => whnf)) | (refine ⟨by omega, ?_⟩; conv => whnf) | (intro _; conv => whnf))))
      exact h
    · rw [if_neg c] at h
      by_cases c2 : p = mp
      · (refine go (t := tb_X5_ashCost) (WPd_mono d) hP 60 [49] ?_; (conv => whnf); (repeat' (first | (refine ⟨fun _ => ?_, fun _ => ?_⟩ <;> first | (exfalso; omega) | (conv => whnf)) | (refine ⟨by omega, ?_⟩; conv => whnf) | (intro _; conv => whnf))))
        exact h
      · (refine go (t := tb_X5_ashCost) (WPd_mono d) hP 60 [49] ?_; (conv => whnf); (repeat' (first | (refine ⟨fun _ => ?_, fun _ => ?_⟩ <;> first | (exfalso; omega) | (conv => whnf)) | (refine ⟨by omega, ?_⟩; conv => whnf) | (intro _; conv => whnf))))
        exact h
  clear more
  (refine go (t := tb_X5_ashCost) (WPd_mono d) hP 60 [49] ?_; (conv => whnf); (repeat' (first | (refine ⟨fun _ => ?_, fun _ => ?_⟩ <;> first | (exfalso; omega) | (conv => whnf)) | (refine ⟨by omega, ?_⟩; conv => whnf) | (intro _; conv => whnf))))
  refine t_X5_ashAt (by omega) (by omega) (by omega) ?_
  rw [hK]
  by_cases c : axK K p = -1 ∨ axK K p = l
  · have e : acN0 K l wi p a = 0 := by
      unfold acN0
      rw [if_pos c]
    rw [e] at T49
    by_cases c2 : axK K p = -1
    · ((conv => whnf); (repeat' (first | (refine ⟨fun _ => ?_, fun _ => ?_⟩ <;> first | (exfalso; omega) | (conv => whnf)) | (refine ⟨by omega, ?_⟩; conv => whnf) | (intro _; conv => whnf))))
      exact T49
    · ((conv => whnf); (repeat' (first | (refine ⟨fun _ => ?_, fun _ => ?_⟩ <;> first | (exfalso; omega) | (conv => whnf)) | (refine ⟨by omega, ?_⟩; conv => whnf) | (intro _; conv => whnf))))
      exact T49
  · obtain ⟨v0, v1, v2⟩ := (vm_in (f := σ 27 0)).2.1 (show 0 ≤ axK K p by omega) (by omega)
    rw [hK] at v1 v2
    have u := hw.2.2.2.1 (axK K p) (by omega) (by omega)
    have e : acN0 K l wi p a = if K 5 (axK K p) + wi < dif a (K 4 (axK K p)) then 100000000 else dif a (K 4 (axK K p)) * K 6 3 := by
      unfold acN0
      rw [if_neg c]
    rw [e] at T49
    ((conv => whnf); (repeat' (first | (refine ⟨fun _ => ?_, fun _ => ?_⟩ <;> first | (exfalso; omega) | (conv => whnf)) | (refine ⟨by omega, ?_⟩; conv => whnf) | (intro _; conv => whnf))))
    rw [← v1, ← v2]
    refine t_X5_offCost (by omega) (by omega) (by omega) (by omega) (by omega) ?_
    rw [m3, ← h63]
    ((conv => whnf); (repeat' (first | (refine ⟨fun _ => ?_, fun _ => ?_⟩ <;> first | (exfalso; omega) | (conv => whnf)) | (refine ⟨by omega, ?_⟩; conv => whnf) | (intro _; conv => whnf))))
    exact T49
theorem t_X5_leastOwn {d : Nat} (hd : 1 ≤ d) {σ : Sto} {Q : Post} {i : Int} (hi0 : 0 ≤ i ∧ i < 50) (h : Q (some (.inl (lo (σ 27 0 (51 + i))))) σ) : WPd d m_X5_leastOwn [.inr (26, 0), .inl i] σ Q := by
  obtain ⟨d, rfl⟩ : ∃ k, d = k + 1 := ⟨d - 1, by omega⟩
  intro P hP
  unfold lo at h
  by_cases c : σ 27 0 (51 + i) = 1
  · rw [if_pos c] at h
    (refine go (t := tb_X5_leastOwn) (WPd_mono d) hP 60 [] ?_; (conv => whnf); (repeat' (first | (refine ⟨fun _ => ?_, fun _ => ?_⟩ <;> first | (exfalso; omega) | (conv => whnf)) | (refine ⟨by omega, ?_⟩; conv => whnf) | (intro _; conv => whnf))))
    exact h
  · rw [if_neg c] at h
    (refine go (t := tb_X5_leastOwn) (WPd_mono d) hP 60 [] ?_; (conv => whnf); (repeat' (first | (refine ⟨fun _ => ?_, fun _ => ?_⟩ <;> first | (exfalso; omega) | (conv => whnf)) | (refine ⟨by omega, ?_⟩; conv => whnf) | (intro _; conv => whnf))))
    exact h
theorem t_X5_mostOwn {d : Nat} (hd : 1 ≤ d) {σ : Sto} {Q : Post} {i : Int} (hi0 : 0 ≤ i ∧ i < 50) (h : Q (some (.inl (hi (σ 27 0 (51 + i))))) σ) : WPd d m_X5_mostOwn [.inr (26, 0), .inl i] σ Q := by
  obtain ⟨d, rfl⟩ : ∃ k, d = k + 1 := ⟨d - 1, by omega⟩
  intro P hP
  unfold hi at h
  by_cases c : σ 27 0 (51 + i) = 2
  · rw [if_pos c] at h
    (refine go (t := tb_X5_mostOwn) (WPd_mono d) hP 60 [] ?_; (conv => whnf); (repeat' (first | (refine ⟨fun _ => ?_, fun _ => ?_⟩ <;> first | (exfalso; omega) | (conv => whnf)) | (refine ⟨by omega, ?_⟩; conv => whnf) | (intro _; conv => whnf))))
    exact h
  · rw [if_neg c] at h
    (refine go (t := tb_X5_mostOwn) (WPd_mono d) hP 60 [] ?_; (conv => whnf); (repeat' (first | (refine ⟨fun _ => ?_, fun _ => ?_⟩ <;> first | (exfalso; omega) | (conv => whnf)) | (refine ⟨by omega, ?_⟩; conv => whnf) | (intro _; conv => whnf))))
    exact h
def yrC (K : KV) (o g : Int) : Int := (if o = 0 then K 6 0 else if o = 2 then K 6 1 else 0) + g * K 6 2
theorem yr_st {K : KV} (hK : WFK K) {p o g : Int} (hp : 0 ≤ p ∧ p < K 7 0) (hr : rngK K p (o, g)) : yrC K o g = stK K p (o, g) := by
  have k := (hK.2.2.1 p hp.1 hp.2).2.1
  have r1 := hr.1
  unfold lo hi at r1
  dsimp only at r1
  unfold yrC stK oK oCst
  dsimp only
  congr 1
  revert r1
  (repeat' split) <;> omega
theorem t_X5_yearsCost {d : Nat} (hd : 1 ≤ d) {σ : Sto} {Q : Post} {K : KV} {p o g : Int} (hK : vwM (σ 27 0) = K) (ho : inR o) (h : Q (some (.inl (yrC K o g))) σ) : WPd d m_X5_yearsCost [.inr (26, 0), .inl p, .inl o, .inl g] σ Q := by
  obtain ⟨d, rfl⟩ : ∃ k, d = k + 1 := ⟨d - 1, by omega⟩
  intro P hP
  have h6 : ∀ j, 0 ≤ j → j < 4 → K 6 j = σ 27 0 (170 + j) := fun j j0 j1 => by
    have := (vm_in (f := σ 27 0)).2.2 j0 j1
    rwa [hK] at this
  unfold yrC at h
  rw [h6 0 (by omega) (by omega), h6 1 (by omega) (by omega), h6 2 (by omega) (by omega)] at h
  by_cases c : o = 0
  · rw [if_pos c] at h
    (refine go (t := tb_X5_yearsCost) (WPd_mono d) hP 60 [] ?_; (conv => whnf); (repeat' (first | (refine ⟨fun _ => ?_, fun _ => ?_⟩ <;> first | (exfalso; omega) | (conv => whnf)) | (refine ⟨by omega, ?_⟩; conv => whnf) | (intro _; conv => whnf))))
    exact h
  · rw [if_neg c] at h
    by_cases c2 : o = 2
    · rw [if_pos c2] at h
      (refine go (t := tb_X5_yearsCost) (WPd_mono d) hP 60 [] ?_; (conv => whnf); (repeat' (first | (refine ⟨fun _ => ?_, fun _ => ?_⟩ <;> first | (exfalso; omega) | (conv => whnf)) | (refine ⟨by omega, ?_⟩; conv => whnf) | (intro _; conv => whnf))))
      exact h
    · rw [if_neg c2] at h
      (refine go (t := tb_X5_yearsCost) (WPd_mono d) hP 60 [] ?_; (conv => whnf); (repeat' (first | (refine ⟨fun _ => ?_, fun _ => ?_⟩ <;> first | (exfalso; omega) | (conv => whnf)) | (refine ⟨by omega, ?_⟩; conv => whnf) | (intro _; conv => whnf))))
      exact h
theorem t_X5_plain {d : Nat} (hd : 1 ≤ d) {σ : Sto} {Q : Post} (h : Q none (upS (upS (upS σ 26 0 9 (-1)) 26 0 10 (-1)) 26 0 13 0)) : WPd d m_X5_plain [.inr (26, 0)] σ Q := by
  obtain ⟨d, rfl⟩ : ∃ k, d = k + 1 := ⟨d - 1, by omega⟩
  intro P hP
  (refine go (t := tb_X5_plain) (WPd_mono d) hP 60 [] ?_; (conv => whnf); (repeat' (first | (refine ⟨fun _ => ?_, fun _ => ?_⟩ <;> first | (exfalso; omega) | (conv => whnf)) | (refine ⟨by omega, ?_⟩; conv => whnf) | (intro _; conv => whnf))))
  exact h
