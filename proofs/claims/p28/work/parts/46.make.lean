/-! THE RECKONING: followBest, makeBelow, makeAbove -/
def offR (σ σ' : Sto) : Prop := ∀ k i, k ≠ 3 → ¬ (8 ≤ k ∧ k ≤ 15) → k ≠ 24 → k ≠ 25 → σ' k i = σ k i
theorem offR.rf (σ : Sto) : offR σ σ := fun _ _ _ _ _ _ => rfl
theorem offR.tr {σ τ ρ : Sto} (h : offR σ τ) (h' : offR τ ρ) : offR σ ρ := fun k i a b c d => by rw [h' k i a b c d, h k i a b c d]
theorem offR.core {σ τ : Sto} (h : offR σ τ) : vwC τ 0 = vwC σ 0 := vwC_cg fun k h1 h2 => h k 0 (by omega) (by omega) (by omega) (by omega)
theorem offR.ne {σ τ : Sto} (h : ∀ k i, k ≠ 3 → ¬ (8 ≤ k ∧ k ≤ 15) → k ≠ 24 → k ≠ 25 → τ k i = σ k i) : offR σ τ := h
theorem ClassR_R {σ σ' : Sto} {K : KV} {h : Int} {HK : Int → KV} {tl : Int} {tx : Int → Int} (hC : ClassR σ K h HK tl tx) (fo : offR σ σ') (hr : RecOk σ' K) : ClassR σ' K h HK tl tx ∧ frC σ σ' := by
  obtain ⟨c1, c2, c3, c4, c5⟩ := hC
  exact ⟨⟨by rw [fo.core]; exact c1, c2, HistR_off c3 (fun k i hk => fo k i (by omega) (by omega) (by omega) (by omega)), TxtR_off c4 (fun k i hk => fo k i (by omega) (by omega) (by omega) (by omega)), hr⟩, fun k i hk => fo k i (by omega) (by omega) (by omega) (by omega)⟩
theorem t_X2_followBest {d : Nat} (hd : 3 ≤ d) {σ : Sto} {Q : Post} {K : KV} {B : Int} (hK : vwC σ 0 = K) (hw : WFK K) (hB : σ 3 0 11 = B) (ho : 0 ≤ B ∧ B ≤ 600) (hbel : ∀ p a, 0 ≤ p → p ≤ K 7 0 → 0 ≤ a → a ≤ B → Mn (cont K (acK K) B (K 7 0 - p).toNat p a) 268435456 (σ 25 p a)) (hlt : σ 25 0 0 < 268435456) (hq : ∀ σ', (∀ k' i', k' ≠ 8 → k' ≠ 13 → k' ≠ 14 → k' ≠ 15 → σ' k' i' = σ k' i') → Bst K (acK K) B (σ' 15 0) (σ' 13 0) (σ' 14 0) → Q none σ') : WPd d m_X2_followBest [.inr (3, 0)] σ Q := by
  obtain ⟨d, rfl⟩ : ∃ k, d = k + 1 := ⟨d - 1, by omega⟩
  refine wpd_of fun P hT hP => ?_
  have n1 := hw.1
  have n2 : σ 16 0 7 = K 7 0 := by rw [← hK, vw_n]
  have L : ∀ (n : Nat) (p : Int) (τ : Sto), n = (K 7 0 - p).toNat → 0 ≤ p → p ≤ K 7 0 → (∀ k' i', k' ≠ 8 → k' ≠ 13 → k' ≠ 14 → k' ≠ 15 → τ k' i' = σ k' i') → τ 15 0 0 = 0 → (0 ≤ τ 15 0 p ∧ τ 15 0 p ≤ B) → σ 25 p (τ 15 0 p) < 268435456 → (∀ q, 0 ≤ q → q < p → PkL K (acK K) B (K 7 0 - q - 1).toNat q (τ 15 0 q) (τ 13 0 q) (τ 14 0 q) ∧ τ 15 0 (q + 1) = τ 15 0 q + τ 13 0 q + τ 14 0 q) → P 9 [.inr (3, 0), .inl p] [] τ := by
    intro n
    induction n with
    | zero =>
      intro p τ hn0 p0 p1 fr a0 ab al iv
      have f16 : τ 16 0 7 = K 7 0 := by rw [fr 16 0 (by decide) (by decide) (by decide) (by decide)]; exact n2
      (refine go (t := tb_X2_followBest) (WPd_mono d) hP 60 [9] ?_; (conv => whnf); (repeat' (first | (refine ⟨fun _ => ?_, fun _ => ?_⟩ <;> first | (exfalso; omega) | (conv => whnf)) | (refine ⟨by omega, ?_⟩; conv => whnf) | (intro _; conv => whnf))))
      exact hq τ fr ⟨a0, fun q q0 q1 => iv q q0 (by omega)⟩
    | succ n ih =>
      intro p τ hn0 p0 p1 fr a0 ab al iv
      have f16 : τ 16 0 7 = K 7 0 := by rw [fr 16 0 (by decide) (by decide) (by decide) (by decide)]; exact n2
      have fK : vwC τ 0 = K := by rw [vwC_cg (σ := σ) (fun k h1 h2 => fr k 0 (by omega) (by omega) (by omega) (by omega))]; exact hK
      have f25 : ∀ i, τ 25 i = σ 25 i := fun i => fr 25 i (by decide) (by decide) (by decide) (by decide)
      have f3 : τ 3 0 11 = B := by rw [fr 3 0 (by decide) (by decide) (by decide) (by decide)]; exact hB
      obtain ⟨m, hm⟩ : ∃ m : Nat, (K 7 0 - p - 1).toNat = m := ⟨_, rfl⟩
      have hbp : ∀ a, 0 ≤ a → a ≤ B → Mn (cont K (acK K) B m (p + 1) a) 268435456 (σ 25 (p + 1) a) := fun a a0 a1 => by
        have := hbel (p + 1) a (by omega) (by omega) a0 a1
        rwa [show (K 7 0 - (p + 1)).toNat = m by omega] at this
      have hbs : Mn (cont K (acK K) B (m + 1) p (τ 15 0 p)) 268435456 (σ 25 p (τ 15 0 p)) := by
        have := hbel p (τ 15 0 p) p0 (by omega) ab.1 ab.2
        rwa [show (K 7 0 - p).toNat = m + 1 by omega] at this
      (refine go (t := tb_X2_followBest) (WPd_mono d) hP 60 [9] ?_; (conv => whnf); (repeat' (first | (refine ⟨fun _ => ?_, fun _ => ?_⟩ <;> first | (exfalso; omega) | (conv => whnf)) | (refine ⟨by omega, ?_⟩; conv => whnf) | (intro _; conv => whnf))))
      refine t_X2_addAshCosts (K := K) (B := B) (by omega) (Or.inr rfl) fK hw (by omega) f3 ho (fun a h0 h1 => ?_) (fun σ1 g1 g2 => ?_)
      · rw [f25]
        exact cont_v hw (by omega) (hbp a h0 h1)
      · ((conv => whnf); (repeat' (first | (refine ⟨fun _ => ?_, fun _ => ?_⟩ <;> first | (exfalso; omega) | (conv => whnf)) | (refine ⟨by omega, ?_⟩; conv => whnf) | (intro _; conv => whnf))))
        have e1 : σ1 15 0 = τ 15 0 := g1 15 0 (by decide)
        rw [e1]
        ((conv => whnf); (repeat' (first | (refine ⟨fun _ => ?_, fun _ => ?_⟩ <;> first | (exfalso; omega) | (conv => whnf)) | (refine ⟨by omega, ?_⟩; conv => whnf) | (intro _; conv => whnf))))
        have w1 : ∀ x, 0 ≤ x → x ≤ B → Mn (cAt K (acK K) B m (p + 1) x) 268435456 (σ1 8 0 x) := fun x x0 x1 => by
          rw [g2 x x0 x1, f25]
          exact rowC_at hw (by omega) (hbp x x0 x1)
        have e25 : σ1 25 p = σ 25 p := by rw [g1 25 p (by decide), f25]
        refine t_X2_chooseYears (K := K) (B := B) (T := thr K (acK K) B m p (τ 15 0 p)) (by omega) (by rw [vwC_cg (σ := τ) (fun k h1 h2 => g1 k 0 (by omega))]; exact fK) hw (by omega) (by rw [g1 3 0 (by decide)]; exact f3) ho ab (fun x x0 x1 => cAt_v hw (by omega) (w1 x x0 x1)) (by rw [e25]; exact cont_v hw (by omega) hbs) (fun o g => ?_) (thr_ex hw (acK_g hw) hbs al) (fun o g t1 t2 => ?_)
        · rw [e25]
          constructor
          · intro t
            have r : rngK K p (o, g) ∧ τ 15 0 p + o + g ≤ B := ⟨⟨t.1, t.2.1⟩, t.2.2.1⟩
            have bl := lo_b (K 1 p)
            have r1 := r.1
            dsimp only [rngK] at r1
            exact ⟨r, (thr_iff hw (acK_g hw) (by decide) (by omega) r.1 r.2 (w1 _ (by omega) r.2) hbs al).1 t⟩
          · rintro ⟨r, e⟩
            have bl := lo_b (K 1 p)
            have r1 := r.1
            dsimp only [rngK] at r1
            exact (thr_iff hw (acK_g hw) (by decide) (by omega) r.1 r.2 (w1 _ (by omega) r.2) hbs al).2 e
        · ((conv => whnf); (repeat' (first | (refine ⟨fun _ => ?_, fun _ => ?_⟩ <;> first | (exfalso; omega) | (conv => whnf)) | (refine ⟨by omega, ?_⟩; conv => whnf) | (intro _; conv => whnf))))
          have s15 : upS (upS σ1 13 0 p o) 14 0 p g 15 0 p = τ 15 0 p := by rw [up_k (by decide), up_k (by decide), e1]
          have s13 : upS (upS σ1 13 0 p o) 14 0 p g 13 0 p = o := by rw [up_k (by decide), up_hit]
          have s14 : upS (upS σ1 13 0 p o) 14 0 p g 14 0 p = g := up_hit
          rw [s15, s13, s14]
          have bl := lo_b (K 1 p)
          have r1 := t1.1
          have r2 := t1.2.1
          have r3 := t1.2.2.1
          obtain ⟨w, c', hw1, hc1, -⟩ := t1.2.2.2
          have lt2 : σ 25 (p + 1) (τ 15 0 p + o + g) < 268435456 := by
            have a1 := (hbp _ (by omega) r3).1 c' hc1
            have a2 := cont_lt hw (acK_g hw) (by omega) hc1
            omega
          ((conv => whnf); (repeat' (first | (refine ⟨fun _ => ?_, fun _ => ?_⟩ <;> first | (exfalso; omega) | (conv => whnf)) | (refine ⟨by omega, ?_⟩; conv => whnf) | (intro _; conv => whnf))))
          refine ih (p + 1) _ (by omega) (by omega) (by omega) (fun k' i' h8 h13 h14 h15 => ?_) ?_ ?_ ?_ (fun q q0 q1 => ?_)
          · rw [up_k h15, up_k h14, up_k h13, g1 k' i' h8]
            exact fr k' i' h8 h13 h14 h15
          · rw [up_j (by omega), up_k (by decide), up_k (by decide), e1]
            exact a0
          · rw [up_hit]
            omega
          · rw [up_hit]
            exact lt2
          · by_cases c : q = p
            · subst c
              rw [up_j (by omega), s15, up_hit, show upS (upS (upS σ1 13 0 q o) 14 0 q g) 15 0 (q + 1) (τ 15 0 q + o + g) 13 0 q = o by rw [up_k (by decide)]; exact s13, show upS (upS (upS σ1 13 0 q o) 14 0 q g) 15 0 (q + 1) (τ 15 0 q + o + g) 14 0 q = g by rw [up_k (by decide)]; exact s14, hm]
              exact ⟨⟨t1, t2⟩, rfl⟩
            · have z := iv q q0 (by omega)
              rw [up_j (by omega), up_j (by omega), show ∀ x, upS (upS σ1 13 0 p o) 14 0 p g 15 0 x = τ 15 0 x from fun x => by rw [up_k (by decide), up_k (by decide), e1], show upS (upS (upS σ1 13 0 p o) 14 0 p g) 15 0 (p + 1) (τ 15 0 p + o + g) 13 0 q = τ 13 0 q by rw [up_k (by decide), up_k (by decide), up_j c, g1 13 0 (by decide)], show upS (upS (upS σ1 13 0 p o) 14 0 p g) 15 0 (p + 1) (τ 15 0 p + o + g) 14 0 q = τ 14 0 q by rw [up_k (by decide), up_j c, up_k (by decide), g1 14 0 (by decide)], show upS (upS σ1 13 0 p o) 14 0 p g 15 0 (q + 1) = τ 15 0 (q + 1) by rw [up_k (by decide), up_k (by decide), e1]]
              exact z
  (refine go (t := tb_X2_followBest) (WPd_mono d) hP 60 [9] ?_; (conv => whnf); (repeat' (first | (refine ⟨fun _ => ?_, fun _ => ?_⟩ <;> first | (exfalso; omega) | (conv => whnf)) | (refine ⟨by omega, ?_⟩; conv => whnf) | (intro _; conv => whnf))))
  refine L _ 0 _ rfl (by omega) (by omega) (fun k' i' h8 h13 h14 h15 => up_k h15) up_hit (by rw [up_hit]; omega) (by rw [up_hit]; exact hlt) (fun q q0 q1 => by omega)
