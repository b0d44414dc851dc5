/-! THE CLASS: ways, the whole count -/
theorem RecOk_k {σ σ' : Sto} {K : KV} (h : RecOk σ K) (e : ∀ k i, ¬ (8 ≤ k ∧ k ≤ 12) → σ' k i = σ k i) : RecOk σ' K := RecOk_off h fun k i hk => e k i (by omega)
theorem nW_s (K : KV) (ac : acT) (B : Int) (m : Nat) (p a : Int) : nW K ac B (m + 1) p a = sumN (fun o => sumN (ttF (thr K ac B m p a) (fun x => nW K ac B m (p + 1) x) a o) 21) 3 := rfl
theorem nW_o {K : KV} (hK : WFK K) {ac : acT} : ∀ (m : Nat) (p a : Int), 0 ≤ p → p + m = K 7 0 → rch K p a → nW K ac (old K) m p a = nW K ac 600 m p a
  | 0, _, _, _, _, _ => rfl
  | m + 1, p, a, h0, h1, hr => by
    rw [nW_s, nW_s]
    refine sumN_cg 3 (fun o _ => sumN_cg 21 (fun g _ => ?_))
    by_cases t : thr K ac (old K) m p a o g
    · rw [ttF_t t, ttF_t ((thr_o hK h0 (by omega) hr).1 t)]
      exact nW_o hK m (p + 1) _ (by omega) (by omega) (rch_s hK h0 (by omega) hr (show rngK K p ((o : Int), (g : Int)) from ⟨t.1, t.2.1⟩))
    · rw [ttF_f t, ttF_f (fun t' => t ((thr_o hK h0 (by omega) hr).2 t'))]
theorem wsum_0 {N : Int → Nat} (n : Nat) : wsum (fun _ => 0) N n = 0 := sumN_z n (fun i _ => Nat.zero_mul _)
theorem t_X2_countWays {d : Nat} (hd : 3 ≤ d) {σ : Sto} {Q : Post} {K : KV} (hK : vwC σ 0 = K) (hw : WFK K) (hr : RecOk σ K) (h12 : σ 3 0 12 = 1) (hlt : σ 25 0 0 < 268435456) (hq : ∀ σ', (∀ k i, ¬ (8 ≤ k ∧ k ≤ 12) → σ' k i = σ k i) → Q (some (.inl (min 1000000 (nW K (acK K) (old K) (K 7 0).toNat 0 0 : Int)))) σ') : WPd d m_X2_countWays [.inr (3, 0)] σ Q := by
  obtain ⟨d, rfl⟩ : ∃ k, d = k + 1 := ⟨d - 1, by omega⟩
  refine wpd_of fun P hT hP => ?_
  have hn := hw.1
  have n2 : σ 16 0 7 = K 7 0 := by rw [← hK, vw_n]
  have ob := old_b hw
  have bl := hr.2.2.1 h12
  have t11 := bl.1
  obtain ⟨tot, htot⟩ : ∃ tot, nW K (acK K) (old K) (K 7 0).toNat 0 0 = tot := ⟨_, rfl⟩
  rw [htot] at hq
  have L113 : ∀ (n : Nat) (i s : Int) (τ : Sto) (H : Int → Nat), n = (old K + 1 - i).toNat → 0 ≤ i → i ≤ old K + 1 → (∀ k i, ¬ (8 ≤ k ∧ k ≤ 12) → τ k i = σ k i) → (∀ b, 0 ≤ b → b ≤ old K → τ 11 0 b = min 1000000 (H b : Int)) → wsum H (fun _ => 1) (old K + 1).toNat = tot → s = min 1000000 (wsum H (fun _ => 1) i.toNat : Int) → P 113 [.inr (3, 0), .inl s, .inl i] [] τ := by
    intro n
    induction n with
    | zero =>
      intro i s τ H hn0 i0 i1 fr hH ws hs
      have e3 : τ 3 0 11 = old K := by rw [fr 3 0 (by omega)]; exact t11
      have ei : i = old K + 1 := by omega
      rw [ei, ws] at hs
      have X := hq τ fr
      rw [← hs] at X
      (refine go (t := tb_X2_countWays) (WPd_mono d) hP 90 [18, 55, 113] ?_; (conv => whnf); (repeat' (first | (refine ⟨fun _ => ?_, fun _ => ?_⟩ <;> first | (exfalso; omega) | (conv => whnf)) | (refine ⟨by omega, ?_⟩; conv => whnf) | (intro _; conv => whnf))))
      exact X
    | succ n ih =>
      intro i s τ H hn0 i0 i1 fr hH ws hs
      have e3 : τ 3 0 11 = old K := by rw [fr 3 0 (by omega)]; exact t11
      have e11 := hH i i0 (by omega)
      have X := ih (i + 1) (min 1000000 (s + τ 11 0 i)) τ H (by omega) (by omega) (by omega) fr hH ws (by
        have e : wsum H (fun _ => 1) (i + 1).toNat = wsum H (fun _ => 1) i.toNat + H i := by
          rw [show (i + 1).toNat = i.toNat + 1 by omega]
          unfold wsum
          rw [sumN_s, Nat.mul_one, show (i.toNat : Int) = i by omega]
        rw [e]
        omega)
      (refine go (t := tb_X2_countWays) (WPd_mono d) hP 90 [18, 55, 113] ?_; (conv => whnf); (repeat' (first | (refine ⟨fun _ => ?_, fun _ => ?_⟩ <;> first | (exfalso; omega) | (conv => whnf)) | (refine ⟨by omega, ?_⟩; conv => whnf) | (intro _; conv => whnf))))
      exact X
  have L18 : ∀ (n : Nat) (p : Int) (τ : Sto) (H : Int → Nat), n = (K 7 0 - p).toNat → 0 ≤ p → p ≤ K 7 0 → (∀ k i, ¬ (8 ≤ k ∧ k ≤ 12) → τ k i = σ k i) → (∀ b, 0 ≤ b → b ≤ old K → τ 11 0 b = min 1000000 (H b : Int)) → wsum H (fun b => nW K (acK K) (old K) n p b) (old K + 1).toNat = tot → (∀ b, 0 < H b → 0 ≤ b ∧ b ≤ old K ∧ σ 25 p b < 268435456) → P 18 [.inr (3, 0), .inl p] [] τ := by
    intro n
    induction n with
    | zero =>
      intro p τ H hn0 p0 p1 fr hH ws sp
      have e16 : τ 16 0 7 = K 7 0 := by rw [fr 16 0 (by omega)]; exact n2
      (refine go (t := tb_X2_countWays) (WPd_mono d) hP 90 [18, 55, 113] ?_; (conv => whnf); (repeat' (first | (refine ⟨fun _ => ?_, fun _ => ?_⟩ <;> first | (exfalso; omega) | (conv => whnf)) | (refine ⟨by omega, ?_⟩; conv => whnf) | (intro _; conv => whnf))))
      exact L113 _ 0 0 τ H rfl (by omega) (by omega) fr hH ws rfl
    | succ m ih =>
      intro p τ H hn0 p0 p1 fr hH ws sp
      have e16 : τ 16 0 7 = K 7 0 := by rw [fr 16 0 (by omega)]; exact n2
      have e3 : τ 3 0 11 = old K := by rw [fr 3 0 (by omega)]; exact t11
      have fK : vwC τ 0 = K := by rw [vwC_cg (σ := σ) (fun k h1 h2 => fr k 0 (by omega))]; exact hK
      have f25 : ∀ i, τ 25 i = σ 25 i := fun i => fr 25 i (by omega)
      have hbp : ∀ a, 0 ≤ a → a ≤ old K → Mn (cont K (acK K) (old K) m (p + 1) a) 268435456 (σ 25 (p + 1) a) := fun a a0 a1 => by
        have := bl.2.1 (p + 1) a (by omega) (by omega) a0 a1
        rwa [show (K 7 0 - (p + 1)).toNat = m by omega] at this
      have hbs : ∀ a, 0 ≤ a → a ≤ old K → Mn (cont K (acK K) (old K) (m + 1) p a) 268435456 (σ 25 p a) := fun a a0 a1 => by
        have := bl.2.1 p a p0 (by omega) a0 a1
        rwa [show (K 7 0 - p).toNat = m + 1 by omega] at this
      (refine go (t := tb_X2_countWays) (WPd_mono d) hP 90 [18, 55, 113] ?_; (conv => whnf); (repeat' (first | (refine ⟨fun _ => ?_, fun _ => ?_⟩ <;> first | (exfalso; omega) | (conv => whnf)) | (refine ⟨by omega, ?_⟩; conv => whnf) | (intro _; conv => whnf))))
      refine t_X2_addAshCosts (K := K) (B := old K) (by omega) (Or.inr rfl) fK hw (by omega) e3 ob (fun a h0 h1 => by rw [f25]; exact cont_v hw (by omega) (hbp a h0 h1)) (fun σ1 g1 g2 => ?_)
      ((conv => whnf); (repeat' (first | (refine ⟨fun _ => ?_, fun _ => ?_⟩ <;> first | (exfalso; omega) | (conv => whnf)) | (refine ⟨by omega, ?_⟩; conv => whnf) | (intro _; conv => whnf))))
      have w1 : ∀ x, 0 ≤ x → x ≤ old K → Mn (cAt K (acK K) (old K) m (p + 1) x) 268435456 (σ1 8 0 x) := fun x x0 x1 => by
        rw [g2 x x0 x1, f25]
        exact rowC_at hw (by omega) (hbp x x0 x1)
      have d3 : σ1 3 0 11 = old K := by rw [g1 3 0 (by decide)]; exact e3
      refine t_X2_clearRow (by omega) rfl (by decide) (by omega) (by omega) (fun σ2 j1 j2 => ?_)
      rw [d3] at j2
      ((conv => whnf); (repeat' (first | (refine ⟨fun _ => ?_, fun _ => ?_⟩ <;> first | (exfalso; omega) | (conv => whnf)) | (refine ⟨by omega, ?_⟩; conv => whnf) | (intro _; conv => whnf))))
      have L55 : ∀ (n : Nat) (i : Int) (ρ : Sto) (H' : Int → Nat), n = (old K + 1 - i).toNat → 0 ≤ i → i ≤ old K + 1 → (∀ k i, k ≠ 12 → ρ k i = σ2 k i) → (∀ b, 0 ≤ b → b ≤ old K → ρ 12 0 b = min 1000000 (H' b : Int)) → wsum H' (fun b => nW K (acK K) (old K) m (p + 1) b) (old K + 1).toNat = wsum H (fun b => nW K (acK K) (old K) (m + 1) p b) i.toNat → (∀ b, 0 < H' b → 0 ≤ b ∧ b ≤ old K ∧ σ 25 (p + 1) b < 268435456) → P 55 [.inr (3, 0), .inl p, .inl i] [] ρ := by
        intro n
        induction n with
        | zero =>
          intro i ρ H' hn1 i0 i1 fr2 hH' ws' sp'
          have e3 : ρ 3 0 11 = old K := by rw [fr2 3 0 (by decide), j1 3 0 (by decide)]; exact d3
          have ei : i = old K + 1 := by omega
          rw [ei, ws] at ws'
          (refine go (t := tb_X2_countWays) (WPd_mono d) hP 90 [18, 55, 113] ?_; (conv => whnf); (repeat' (first | (refine ⟨fun _ => ?_, fun _ => ?_⟩ <;> first | (exfalso; omega) | (conv => whnf)) | (refine ⟨by omega, ?_⟩; conv => whnf) | (intro _; conv => whnf))))
          rw [e3]
          refine hT 2 (ih (p + 1) _ H' (by omega) (by omega) (by omega) (fun k i hk => ?_) (fun b b0 b1 => ?_) ws' sp')
          · have c : cpS ρ 12 0 0 11 0 0 (old K + 1) k i = ρ k i := by
              funext x
              exact if_neg (by omega)
            rw [c, fr2 k i (by omega), j1 k i (by omega), g1 k i (by omega), fr k i hk]
          · have c : cpS ρ 12 0 0 11 0 0 (old K + 1) 11 0 b = ρ 12 0 (0 + (b - 0)) := if_pos (by omega)
            rw [c, show 0 + (b - 0) = b by omega]
            exact hH' b b0 b1
        | succ n kh =>
          intro i ρ H' hn1 i0 i1 fr2 hH' ws' sp'
          have e3 : ρ 3 0 11 = old K := by rw [fr2 3 0 (by decide), j1 3 0 (by decide)]; exact d3
          have e11 : ρ 11 0 i = min 1000000 (H i : Int) := by rw [fr2 11 0 (by decide), j1 11 0 (by decide), g1 11 0 (by decide)]; exact hH i i0 (by omega)
          have es : wsum H (fun b => nW K (acK K) (old K) (m + 1) p b) (i + 1).toNat = wsum H (fun b => nW K (acK K) (old K) (m + 1) p b) i.toNat + H i * nW K (acK K) (old K) (m + 1) p i := by
            rw [show (i + 1).toNat = i.toNat + 1 by omega]
            unfold wsum
            rw [sumN_s, show (i.toNat : Int) = i by omega]
          have o1 : n = (old K + 1 - (i + 1)).toNat := by omega
          have o2 : 0 ≤ i + 1 := by omega
          have o3 : i + 1 ≤ old K + 1 := by omega
          have X := fun (z : H i = 0) => kh (i + 1) ρ H' o1 o2 o3 fr2 hH' (by
            have q := es
            rw [z, Nat.zero_mul] at q
            omega) sp'
          (refine go (t := tb_X2_countWays) (WPd_mono d) hP 90 [18, 55, 113] ?_; (conv => whnf); (repeat' (first | (refine ⟨fun _ => ?_, fun _ => ?_⟩ <;> first | (exfalso; omega) | (conv => whnf)) | (refine ⟨by omega, ?_⟩; conv => whnf) | (intro _; conv => whnf))))
          · exact X (by omega)
          · have al := (sp i (by omega)).2.2
            have e25 : ρ 25 p = σ 25 p := by rw [fr2 25 p (by decide), j1 25 p (by omega), g1 25 p (by decide), f25]
            have e8 : ρ 8 0 = σ1 8 0 := by rw [fr2 8 0 (by decide), j1 8 0 (by omega)]
            have fK2 : vwC ρ 0 = K := by rw [vwC_cg (σ := τ) (fun k h1 h2 => by rw [fr2 k 0 (by omega), j1 k 0 (by omega), g1 k 0 (by omega)])]; exact fK
            have hi1 : i ≤ old K := by omega
            refine t_X2_handOnWays (K := K) (B := old K) (T := thr K (acK K) (old K) m p i) (H := H') (N := fun b => nW K (acK K) (old K) m (p + 1) b) (F := H i) (by omega) fK2 hw (by omega) e3 ob ⟨i0, hi1⟩ (fun x x0 x1 => by rw [e8]; exact cAt_v hw (by omega) (w1 x x0 x1)) (by rw [e25]; exact cont_v hw (by omega) (hbs i i0 hi1)) (fun o g => ?_) e11 hH' (fun ρ' H2 k1 k2 k3 k4 => ?_)
            · rw [e25, e8]
              constructor
              · intro t
                have r : rngK K p (o, g) ∧ i + o + g ≤ old K := ⟨⟨t.1, t.2.1⟩, t.2.2.1⟩
                have bl := lo_b (K 1 p)
                have r1 := r.1
                dsimp only [rngK] at r1
                exact ⟨r, (thr_iff hw (acK_g hw) (by decide) (by omega) r.1 r.2 (w1 _ (by omega) r.2) (hbs i i0 hi1) al).1 t⟩
              · rintro ⟨r, e⟩
                have bl := lo_b (K 1 p)
                have r1 := r.1
                dsimp only [rngK] at r1
                exact (thr_iff hw (acK_g hw) (by decide) (by omega) r.1 r.2 (w1 _ (by omega) r.2) (hbs i i0 hi1) al).2 e
            · ((conv => whnf); (repeat' (first | (refine ⟨fun _ => ?_, fun _ => ?_⟩ <;> first | (exfalso; omega) | (conv => whnf)) | (refine ⟨by omega, ?_⟩; conv => whnf) | (intro _; conv => whnf))))
              refine kh (i + 1) ρ' H2 o1 o2 o3 (fun k i hk => by rw [k1 k i hk]; exact fr2 k i hk) k2 (by rw [k3, ws', es, nW_s]) (fun b hb => ?_)
              rcases k4 b hb with z | ⟨o, g, t, e⟩
              · exact sp' b z
              · have bl := lo_b (K 1 p)
                have r1 := t.1
                have r2 := t.2.1
                have r3 := t.2.2.1
                obtain ⟨w, c', hw1, hc1, -⟩ := t.2.2.2
                rw [e]
                refine ⟨by omega, r3, ?_⟩
                have a1 := (hbp _ (by omega) r3).1 c' hc1
                have a2 := cont_lt hw (acK_g hw) (by omega) hc1
                omega
      exact L55 _ 0 σ2 (fun _ => 0) rfl (by omega) (by omega) (fun _ _ _ => rfl) (fun b b0 b1 => by rw [j2 b b0 b1]; rfl) (by rw [wsum_0]; rfl) (fun b hb => by omega)
  (refine go (t := tb_X2_countWays) (WPd_mono d) hP 90 [18, 55, 113] ?_; (conv => whnf); (repeat' (first | (refine ⟨fun _ => ?_, fun _ => ?_⟩ <;> first | (exfalso; omega) | (conv => whnf)) | (refine ⟨by omega, ?_⟩; conv => whnf) | (intro _; conv => whnf))))
  refine t_X2_clearRow (by omega) rfl (by decide) (by omega) (by omega) (fun σ1 g1 g2 => ?_)
  rw [t11] at g2
  ((conv => whnf); (repeat' (first | (refine ⟨fun _ => ?_, fun _ => ?_⟩ <;> first | (exfalso; omega) | (conv => whnf)) | (refine ⟨by omega, ?_⟩; conv => whnf) | (intro _; conv => whnf))))
  refine L18 _ 0 _ (fun b => if b = 0 then 1 else 0) rfl (by omega) (by omega) (fun k i hk => by rw [up_k (by omega)]; exact g1 k i (by omega)) (fun b b0 b1 => ?_) ?_ (fun b hb => ?_)
  · by_cases c : b = 0
    · rw [c, up_hit]
      rfl
    · rw [up_j c, if_neg c]
      exact g2 b b0 b1
  · have wu := wsum_up (H := fun _ => 0) (H' := fun b => if b = 0 then 1 else 0) (N := fun b => nW K (acK K) (old K) (K 7 0 - 0).toNat 0 b) (x := 1) (b := 0) rfl (fun c h => if_neg h) (old K + 1).toNat
    rw [wu, wsum_0, if_pos (by omega), Nat.one_mul, Nat.zero_add, Int.sub_zero]
    exact htot
  · by_cases c : b = 0
    · rw [c]
      exact ⟨by omega, by omega, hlt⟩
    · rw [if_neg c] at hb
      omega
theorem t_X2_numberOfWays {d : Nat} (hd : 4 ≤ d) {σ : Sto} {Q : Post} {K : KV} (hK : vwC σ 0 = K) (hw : WFK K) (hr : RecOk σ K) (h12 : σ 3 0 12 = 1) (hlt : σ 25 0 0 < 268435456) (hq : ∀ σ', offR σ σ' → RecOk σ' K → Q (some (.inl (min 1000000 (nW K (acK K) (old K) (K 7 0).toNat 0 0 : Int)))) σ') : WPd d m_X2_numberOfWays [.inr (3, 0)] σ Q := by
  obtain ⟨d, rfl⟩ : ∃ k, d = k + 1 := ⟨d - 1, by omega⟩
  intro P hP
  have r5 := hr.2.2.2.2
  by_cases c : σ 3 0 14 = -1
  · (refine go (t := tb_X2_numberOfWays) (WPd_mono d) hP 60 [] ?_; (conv => whnf); (repeat' (first | (refine ⟨fun _ => ?_, fun _ => ?_⟩ <;> first | (exfalso; omega) | (conv => whnf)) | (refine ⟨by omega, ?_⟩; conv => whnf) | (intro _; conv => whnf))))
    refine t_X2_countWays (by omega) hK hw hr h12 hlt (fun ρ fr => ?_)
    have rk := RecOk_k hr fr
    have e12 : ρ 3 0 12 = 1 := by rw [fr 3 0 (by omega)]; exact h12
    have e25 : ρ 25 0 0 < 268435456 := by rw [fr 25 0 (by omega)]; exact hlt
    ((conv => whnf); (repeat' (first | (refine ⟨fun _ => ?_, fun _ => ?_⟩ <;> first | (exfalso; omega) | (conv => whnf)) | (refine ⟨by omega, ?_⟩; conv => whnf) | (intro _; conv => whnf))))
    have X := hq (upS ρ 3 0 14 (min 1000000 (nW K (acK K) (old K) (K 7 0).toNat 0 0 : Int))) (fun k i a1 a2 a3 a4 => by rw [up_k a1]; exact fr k i (by omega)) (by
      obtain ⟨k1, k2, k3, k4, k5⟩ := rk
      refine ⟨by rw [up_j (by decide)]; exact k1, by rw [up_j (by decide)]; exact k2, fun q => BelOk_cg (k3 e12) (up_j (by decide)) (fun k i hk => up_k (by omega)), fun q => ?_, Or.inr ⟨by rw [up_j (by decide)]; exact e12, by rw [up_k (by decide)]; exact e25, up_hit⟩⟩
      rw [up_j (by decide)] at q
      refine ⟨by rw [up_j (by decide)]; exact e12, ?_⟩
      have := (k4 q).2
      unfold AbvOk at this ⊢
      simp only [show ∀ i, upS ρ 3 0 14 (min 1000000 (nW K (acK K) (old K) (K 7 0).toNat 0 0 : Int)) 24 i = ρ 24 i from fun i => up_k (by decide)]
      exact this)
    rw [up_hit]
    ((conv => whnf); (repeat' (first | (refine ⟨fun _ => ?_, fun _ => ?_⟩ <;> first | (exfalso; omega) | (conv => whnf)) | (refine ⟨by omega, ?_⟩; conv => whnf) | (intro _; conv => whnf))))
    exact X
  · have e : σ 3 0 14 = min 1000000 (nW K (acK K) (old K) (K 7 0).toNat 0 0 : Int) := by
      rcases r5 with z | z
      · exact absurd z c
      · exact z.2.2
    have X := hq σ (offR.rf σ) hr
    rw [← e] at X
    (refine go (t := tb_X2_numberOfWays) (WPd_mono d) hP 60 [] ?_; (conv => whnf); (repeat' (first | (refine ⟨fun _ => ?_, fun _ => ?_⟩ <;> first | (exfalso; omega) | (conv => whnf)) | (refine ⟨by omega, ?_⟩; conv => whnf) | (intro _; conv => whnf))))
    exact X
theorem t_X4_ways {d : Nat} (hd : 6 ≤ d) {σ : Sto} {Q : Post} {K : KV} {h : Int} {HK : Int → KV} {tl : Int} {tx : Int → Int} (hC : ClassR σ K h HK tl tx) (hno : (∀ c, ¬ CS K c) → ∀ σ', ClassR σ' K h HK tl tx → frC σ σ' → Q (some (.inl 0)) σ') (hyes : (∃ c, CS K c) → ∀ σ', ClassR σ' K h HK tl tx → frC σ σ' → Q (some (.inl (min 1000000 (nW K (acK K) 600 (K 7 0).toNat 0 0 : Int)))) σ') : WPd d m_X4_ways [.inr (0, 0)] σ Q := by
  obtain ⟨d, rfl⟩ : ∃ k, d = k + 1 := ⟨d - 1, by omega⟩
  intro P hP
  have hn := hC.2.1.1
  (refine go (t := tb_X4_ways) (WPd_mono d) hP 60 [] ?_; (conv => whnf); (repeat' (first | (refine ⟨fun _ => ?_, fun _ => ?_⟩ <;> first | (exfalso; omega) | (conv => whnf)) | (refine ⟨by omega, ?_⟩; conv => whnf) | (intro _; conv => whnf))))
  refine t_X2_hasCount (by omega) hC.1 hC.2.1 hC.2.2.2.2 (fun ρ fo ro t12 lt b0 => ?_) (fun ρ fo ro no => ?_)
  · ((conv => whnf); (repeat' (first | (refine ⟨fun _ => ?_, fun _ => ?_⟩ <;> first | (exfalso; omega) | (conv => whnf)) | (refine ⟨by omega, ?_⟩; conv => whnf) | (intro _; conv => whnf))))
    refine t_X2_numberOfWays (by omega) (by rw [fo.core]; exact hC.1) hC.2.1 ro t12 lt (fun τ fo2 ro2 => ?_)
    have cr := ClassR_R hC (fo.tr fo2) ro2
    rw [nW_o hC.2.1 _ 0 0 (by omega) (by omega) (rch_0 K)]
    ((conv => whnf); (repeat' (first | (refine ⟨fun _ => ?_, fun _ => ?_⟩ <;> first | (exfalso; omega) | (conv => whnf)) | (refine ⟨by omega, ?_⟩; conv => whnf) | (intro _; conv => whnf))))
    exact hyes ⟨_, (Mn_L b0 lt).1⟩ τ cr.1 cr.2
  · have cr := ClassR_R hC fo ro
    ((conv => whnf); (repeat' (first | (refine ⟨fun _ => ?_, fun _ => ?_⟩ <;> first | (exfalso; omega) | (conv => whnf)) | (refine ⟨by omega, ?_⟩; conv => whnf) | (intro _; conv => whnf))))
    exact hno no ρ cr.1 cr.2
