/-! THE RECKONING: the tables are made -/
def mxK (K : KV) (m : Nat) (p : Int) : Int := sumF (fun i => hi (K 1 i) + K 2 i) m p
theorem mxK_b {K : KV} (hK : WFK K) : ∀ (m : Nat) (p : Int), 0 ≤ p → p + m ≤ K 7 0 → 0 ≤ mxK K m p ∧ mxK K m p ≤ 22 * m
  | 0, p, _, _ => by
    unfold mxK sumF
    omega
  | m + 1, p, h0, h1 => by
    have ih := mxK_b hK m (p + 1) (by omega) (by omega)
    have a := hi_b (K 1 p)
    have b := (hK.2.2.1 p h0 (by omega)).2.2
    unfold mxK at ih ⊢
    unfold sumF
    omega
theorem mxK_s (K : KV) (m : Nat) (p : Int) : mxK K (m + 1) p = hi (K 1 p) + K 2 p + mxK K m (p + 1) := rfl
theorem old_e (K : KV) : old K = min 600 (mxK K (K 7 0).toNat 0) := rfl
theorem old_b {K : KV} (hK : WFK K) : 0 ≤ old K ∧ old K ≤ 600 := by
  have n := hK.1
  have a := mxK_b hK (K 7 0).toNat 0 (by omega) (by omega)
  rw [old_e]
  omega
theorem BelOk_cg {σ σ' : Sto} {K : KV} (h : BelOk σ K) (e3 : σ' 3 0 11 = σ 3 0 11) (e : ∀ k i, k = 13 ∨ k = 14 ∨ k = 15 ∨ k = 25 → σ' k i = σ k i) : BelOk σ' K := by
  unfold BelOk at h ⊢
  rw [e3, e 13 0 (by omega), e 14 0 (by omega), e 15 0 (by omega), e 25 0 (by omega)]
  simp only [e 25 _ (by omega)]
  exact h
theorem RecOk_1 {ρ : Sto} {K : KV} (h12 : ρ 3 0 12 = 1) (h13 : ρ 3 0 13 = 0) (h14 : ρ 3 0 14 = -1) (hB : BelOk ρ K) : RecOk ρ K := ⟨Or.inr h12, Or.inl h13, fun _ => hB, fun q => by omega, Or.inl h14⟩
theorem t_X2_makeBelow {d : Nat} (hd : 4 ≤ d) {σ : Sto} {Q : Post} {K : KV} (hK : vwC σ 0 = K) (hw : WFK K) (hr : RecOk σ K) (hq : ∀ σ', offR σ σ' → RecOk σ' K → σ' 3 0 12 = 1 → Q none σ') : WPd d m_X2_makeBelow [.inr (3, 0)] σ Q := by
  obtain ⟨d, rfl⟩ : ∃ k, d = k + 1 := ⟨d - 1, by omega⟩
  refine wpd_of fun P hT hP => ?_
  have n1 := hw.1
  have n2 : σ 16 0 7 = K 7 0 := by rw [← hK, vw_n]
  have ob := old_b hw
  have r12 := hr.1
  by_cases c : σ 3 0 12 = 1
  · (refine go (t := tb_X2_makeBelow) (WPd_mono d) hP 60 [15, 82] ?_; (conv => whnf); (repeat' (first | (refine ⟨fun _ => ?_, fun _ => ?_⟩ <;> first | (exfalso; omega) | (conv => whnf)) | (refine ⟨by omega, ?_⟩; conv => whnf) | (intro _; conv => whnf))))
    exact hq σ (offR.rf σ) hr c
  · have r13 : σ 3 0 13 = 0 := by
      rcases hr.2.1 with q | q
      · exact q
      · exact absurd (hr.2.2.2.1 q).1 c
    have r14 : σ 3 0 14 = -1 := by
      rcases hr.2.2.2.2 with q | q
      · exact q
      · exact absurd q.1 c
    have E : ∀ (τ : Sto), offR σ τ → τ 3 0 13 = 0 → τ 3 0 14 = -1 → BelOk τ K → Q none (upS τ 3 0 12 1) := fun τ fo t13 t14 hb => by
      refine hq _ (fun k i a1 a2 a3 a4 => by rw [up_k a1]; exact fo k i a1 a2 a3 a4) (RecOk_1 up_hit (by rw [up_j (by decide)]; exact t13) (by rw [up_j (by decide)]; exact t14) (BelOk_cg hb (up_j (by decide)) (fun k i hk => up_k (by omega)))) up_hit
    have L82 : ∀ (n : Nat) (p : Int) (τ : Sto), n = (p + 1).toNat → -1 ≤ p → p < K 7 0 → offR σ τ → τ 3 0 11 = old K → τ 3 0 13 = 0 → τ 3 0 14 = -1 → (∀ q a, p < q → q ≤ K 7 0 → 0 ≤ a → a ≤ old K → Mn (cont K (acK K) (old K) (K 7 0 - q).toNat q a) 268435456 (τ 25 q a)) → P 82 [.inr (3, 0), .inl p] [] τ := by
      intro n
      induction n with
      | zero =>
        intro p τ hn0 p0 p1 fo t11 t13 t14 iv
        have fK : vwC τ 0 = K := by rw [fo.core]; exact hK
        have z := cont_v hw (by omega) (iv 0 0 (by omega) (by omega) (by omega) (by omega))
        (refine go (t := tb_X2_makeBelow) (WPd_mono d) hP 60 [15, 82] ?_; (conv => whnf); (repeat' (first | (refine ⟨fun _ => ?_, fun _ => ?_⟩ <;> first | (exfalso; omega) | (conv => whnf)) | (refine ⟨by omega, ?_⟩; conv => whnf) | (intro _; conv => whnf))))
        · exact E τ fo t13 t14 ⟨t11, fun q a q0 q1 a0 a1 => iv q a (by omega) q1 a0 a1, fun q => by omega⟩
        · refine t_X2_followBest (by omega) fK hw t11 ob (fun q a q0 q1 => iv q a (by omega) q1) (by omega) (fun ρ g1 g2 => ?_)
          ((conv => whnf); (repeat' (first | (refine ⟨fun _ => ?_, fun _ => ?_⟩ <;> first | (exfalso; omega) | (conv => whnf)) | (refine ⟨by omega, ?_⟩; conv => whnf) | (intro _; conv => whnf))))
          refine E ρ (fun k i a1 a2 a3 a4 => by rw [g1 k i (by omega) (by omega) (by omega) (by omega)]; exact fo k i a1 a2 a3 a4) (by rw [g1 3 0 (by decide) (by decide) (by decide) (by decide)]; exact t13) (by rw [g1 3 0 (by decide) (by decide) (by decide) (by decide)]; exact t14) ⟨by rw [g1 3 0 (by decide) (by decide) (by decide) (by decide)]; exact t11, fun q a q0 q1 a0 a1 => ?_, fun _ => g2⟩
          rw [g1 25 q (by decide) (by decide) (by decide) (by decide)]
          exact iv q a (by omega) q1 a0 a1
      | succ n ih =>
        intro p τ hn0 p0 p1 fo t11 t13 t14 iv
        have fK : vwC τ 0 = K := by rw [fo.core]; exact hK
        obtain ⟨m, hm⟩ : ∃ m : Nat, (K 7 0 - p - 1).toNat = m := ⟨_, rfl⟩
        have hbp : ∀ a, 0 ≤ a → a ≤ old K → Mn (cont K (acK K) (old K) m (p + 1) a) 268435456 (τ 25 (p + 1) a) := fun a a0 a1 => by
          have := iv (p + 1) a (by omega) (by omega) a0 a1
          rwa [show (K 7 0 - (p + 1)).toNat = m by omega] at this
        (refine go (t := tb_X2_makeBelow) (WPd_mono d) hP 60 [15, 82] ?_; (conv => whnf); (repeat' (first | (refine ⟨fun _ => ?_, fun _ => ?_⟩ <;> first | (exfalso; omega) | (conv => whnf)) | (refine ⟨by omega, ?_⟩; conv => whnf) | (intro _; conv => whnf))))
        refine t_X2_addAshCosts (K := K) (B := old K) (by omega) (Or.inr rfl) fK hw (by omega) t11 ob (fun a h0 h1 => cont_v hw (by omega) (hbp a h0 h1)) (fun σ1 g1 g2 => ?_)
        ((conv => whnf); (repeat' (first | (refine ⟨fun _ => ?_, fun _ => ?_⟩ <;> first | (exfalso; omega) | (conv => whnf)) | (refine ⟨by omega, ?_⟩; conv => whnf) | (intro _; conv => whnf))))
        have w1 : ∀ x, 0 ≤ x → x ≤ old K → Mn (cAt K (acK K) (old K) m (p + 1) x) 268435456 (σ1 8 0 x) := fun x x0 x1 => by
          rw [g2 x x0 x1]
          exact rowC_at hw (by omega) (hbp x x0 x1)
        have fK1 : vwC σ1 0 = K := by rw [vwC_cg (σ := τ) (fun k h1 h2 => g1 k 0 (by omega))]; exact fK
        refine t_X2_addOwnCostsU (K := K) (B := old K) (by omega) fK1 hw (by omega) (by rw [g1 3 0 (by decide)]; exact t11) ob (fun x x0 x1 => cAt_v hw (by omega) (w1 x x0 x1)) (fun σ2 j1 j2 => ?_)
        ((conv => whnf); (repeat' (first | (refine ⟨fun _ => ?_, fun _ => ?_⟩ <;> first | (exfalso; omega) | (conv => whnf)) | (refine ⟨by omega, ?_⟩; conv => whnf) | (intro _; conv => whnf))))
        have fK2 : vwC σ2 0 = K := by rw [vwC_cg (σ := σ1) (fun k h1 h2 => j1 k 0 (by omega))]; exact fK1
        refine t_X2_addMissingCostsU (K := K) (B := old K) (by omega) (Or.inr rfl) fK2 hw (by omega) (by rw [j1 3 0 (by decide), g1 3 0 (by decide)]; exact t11) ob (fun x x0 x1 => (j2 x x0 x1).1) (fun σ3 k1 k2 => ?_)
        ((conv => whnf); (repeat' (first | (refine ⟨fun _ => ?_, fun _ => ?_⟩ <;> first | (exfalso; omega) | (conv => whnf)) | (refine ⟨by omega, ?_⟩; conv => whnf) | (intro _; conv => whnf))))
        have fr : ∀ k i, k ≠ 8 → k ≠ 9 → k ≠ 10 → ¬ (k = 25 ∧ i = p) → σ3 k i = τ k i := fun k i a b c e => by rw [k1 k i c e, j1 k i b, g1 k i a]
        refine ih (p - 1) σ3 (by omega) (by omega) (by omega) (fun k i a1 a2 a3 a4 => by rw [fr k i (by omega) (by omega) (by omega) (by omega)]; exact fo k i a1 a2 a3 a4) (by rw [fr 3 0 (by decide) (by decide) (by decide) (by omega)]; exact t11) (by rw [fr 3 0 (by decide) (by decide) (by decide) (by omega)]; exact t13) (by rw [fr 3 0 (by decide) (by decide) (by decide) (by omega)]; exact t14) (fun q a q0 q1 a0 a1 => ?_)
        by_cases c : q = p
        · subst c
          rw [show (K 7 0 - q).toNat = m + 1 by omega]
          exact Mn_U hw (acK_g hw) (by omega) w1 j2 k2 a0 a1
        · rw [fr 25 q (by decide) (by decide) (by decide) (by omega)]
          exact iv q a (by omega) q1 a0 a1
    have L15 : ∀ (n : Nat) (i : Int) (τ : Sto), n = (K 7 0 - i).toNat → 0 ≤ i → i ≤ K 7 0 → (∀ k' i', k' ≠ 3 → τ k' i' = σ k' i') → (∀ j, j ≠ 11 → τ 3 0 j = σ 3 0 j) → (0 ≤ τ 3 0 11 ∧ τ 3 0 11 ≤ 600) → min 600 (τ 3 0 11 + mxK K n i) = old K → P 15 [.inr (3, 0), .inl i] [] τ := by
      intro n
      induction n with
      | zero =>
        intro i τ hn0 i0 i1 fr f3 tb iv
        have f16 : τ 16 0 7 = K 7 0 := by rw [fr 16 0 (by decide)]; exact n2
        have t11 : τ 3 0 11 = old K := by
          rw [← iv]
          unfold mxK sumF
          omega
        (refine go (t := tb_X2_makeBelow) (WPd_mono d) hP 60 [15, 82] ?_; (conv => whnf); (repeat' (first | (refine ⟨fun _ => ?_, fun _ => ?_⟩ <;> first | (exfalso; omega) | (conv => whnf)) | (refine ⟨by omega, ?_⟩; conv => whnf) | (intro _; conv => whnf))))
        rw [f16]
        ((conv => whnf); (repeat' (first | (refine ⟨fun _ => ?_, fun _ => ?_⟩ <;> first | (exfalso; omega) | (conv => whnf)) | (refine ⟨by omega, ?_⟩; conv => whnf) | (intro _; conv => whnf))))
        refine t_X2_clearRow (by omega) rfl (by decide) (by omega) (by omega) (fun σ1 g1 g2 => ?_)
        have e16 : σ1 16 0 7 = K 7 0 := by rw [g1 16 0 (by omega)]; exact f16
        ((conv => whnf); (repeat' (first | (refine ⟨fun _ => ?_, fun _ => ?_⟩ <;> first | (exfalso; omega) | (conv => whnf)) | (refine ⟨by omega, ?_⟩; conv => whnf) | (intro _; conv => whnf))))
        rw [e16]
        ((conv => whnf); (repeat' (first | (refine ⟨fun _ => ?_, fun _ => ?_⟩ <;> first | (exfalso; omega) | (conv => whnf)) | (refine ⟨by omega, ?_⟩; conv => whnf) | (intro _; conv => whnf))))
        refine L82 _ (K 7 0 - 1) σ1 rfl (by omega) (by omega) (fun k i a1 a2 a3 a4 => by rw [g1 k i (by omega)]; exact fr k i a1) (by rw [g1 3 0 (by omega)]; exact t11) (by rw [g1 3 0 (by omega), f3 13 (by decide)]; exact r13) (by rw [g1 3 0 (by omega), f3 14 (by decide)]; exact r14) (fun q a q0 q1 a0 a1 => ?_)
        have eq : q = K 7 0 := by omega
        subst eq
        rw [show (K 7 0 - K 7 0).toNat = 0 by omega, g2 a a0 (by omega)]
        exact ⟨fun c hc => by have hc : c = 0 := hc; omega, Or.inr ⟨by decide, rfl⟩⟩
      | succ n ih =>
        intro i τ hn0 i0 i1 fr f3 tb iv
        have f16 : τ 16 0 7 = K 7 0 := by rw [fr 16 0 (by decide)]; exact n2
        have fK : vwC τ 0 = K := by rw [vwC_cg (σ := σ) (fun k h1 h2 => fr k 0 (by omega))]; exact hK
        obtain ⟨-, v1, v2⟩ := (vw_in (σ := τ) (c := 0)).1 i0 (by omega)
        rw [fK] at v1 v2
        have mb := (hw.2.2.1 i i0 (by omega)).2.2
        have hb := hi_b (K 1 i)
        have ms := mxK_b hw n (i + 1) (by omega) (by omega)
        rw [mxK_s] at iv
        (refine go (t := tb_X2_makeBelow) (WPd_mono d) hP 60 [15, 82] ?_; (conv => whnf); (repeat' (first | (refine ⟨fun _ => ?_, fun _ => ?_⟩ <;> first | (exfalso; omega) | (conv => whnf)) | (refine ⟨by omega, ?_⟩; conv => whnf) | (intro _; conv => whnf))))
        refine t_X0_mostYears (by omega) (by omega) ?_
        rw [← v1, ← v2]
        ((conv => whnf); (repeat' (first | (refine ⟨fun _ => ?_, fun _ => ?_⟩ <;> first | (exfalso; omega) | (conv => whnf)) | (refine ⟨by omega, ?_⟩; conv => whnf) | (intro _; conv => whnf))))
        refine ih (i + 1) _ (by omega) (by omega) (by omega) (fun k' i' h => by rw [up_k h]; exact fr k' i' h) (fun j h => by rw [up_j h]; exact f3 j h) (by rw [up_hit]; omega) ?_
        rw [up_hit]
        omega
    (refine go (t := tb_X2_makeBelow) (WPd_mono d) hP 60 [15, 82] ?_; (conv => whnf); (repeat' (first | (refine ⟨fun _ => ?_, fun _ => ?_⟩ <;> first | (exfalso; omega) | (conv => whnf)) | (refine ⟨by omega, ?_⟩; conv => whnf) | (intro _; conv => whnf))))
    exact L15 _ 0 _ rfl (by omega) (by omega) (fun k' i' h => up_k h) (fun j h => up_j h) (by rw [up_hit]; omega) (by rw [up_hit, Int.sub_zero, old_e, Int.zero_add])
theorem pre_0 {K : KV} {ac : acT} {B a v : Int} (hv : v = if a = 0 then 0 else 268435456) : Mn (pre K ac B 0 a) 268435456 v := by
  by_cases c : a = 0
  · rw [if_pos c] at hv
    exact ⟨fun x hx => by have := (show a = 0 ∧ x = 0 from hx); omega, Or.inr ⟨by omega, c, hv⟩⟩
  · rw [if_neg c] at hv
    exact ⟨fun x hx => absurd (show a = 0 ∧ x = 0 from hx).1 c, Or.inl ⟨hv, fun x hx => c (show a = 0 ∧ x = 0 from hx).1⟩⟩
theorem t_X2_makeAbove {d : Nat} (hd : 5 ≤ d) {σ : Sto} {Q : Post} {K : KV} (hK : vwC σ 0 = K) (hw : WFK K) (hr : RecOk σ K) (hq : ∀ σ', offR σ σ' → RecOk σ' K → σ' 3 0 12 = 1 → σ' 3 0 13 = 1 → Q none σ') : WPd d m_X2_makeAbove [.inr (3, 0)] σ Q := by
  obtain ⟨d, rfl⟩ : ∃ k, d = k + 1 := ⟨d - 1, by omega⟩
  refine wpd_of fun P hT hP => ?_
  have n1 := hw.1
  have ob := old_b hw
  (refine go (t := tb_X2_makeAbove) (WPd_mono d) hP 60 [35] ?_; (conv => whnf); (repeat' (first | (refine ⟨fun _ => ?_, fun _ => ?_⟩ <;> first | (exfalso; omega) | (conv => whnf)) | (refine ⟨by omega, ?_⟩; conv => whnf) | (intro _; conv => whnf))))
  refine t_X2_makeBelow (by omega) hK hw hr (fun τ0 o0 k0 t12 => ?_)
  have fK0 : vwC τ0 0 = K := by rw [o0.core]; exact hK
  have n2 : τ0 16 0 7 = K 7 0 := by rw [← fK0, vw_n]
  have r13 := k0.2.1
  have bl := k0.2.2.1 t12
  have t11 := bl.1
  by_cases c : τ0 3 0 13 = 1
  · ((conv => whnf); (repeat' (first | (refine ⟨fun _ => ?_, fun _ => ?_⟩ <;> first | (exfalso; omega) | (conv => whnf)) | (refine ⟨by omega, ?_⟩; conv => whnf) | (intro _; conv => whnf))))
    exact hq τ0 o0 k0 t12 c
  · have L : ∀ (n : Nat) (p : Int) (τ : Sto), n = (K 7 0 - p).toNat → 0 ≤ p → p ≤ K 7 0 → (∀ k i, k ≠ 8 → k ≠ 9 → k ≠ 10 → k ≠ 24 → τ k i = τ0 k i) → (∀ q a, 0 ≤ q → q ≤ p → 0 ≤ a → a ≤ old K → Mn (pre K (acK K) (old K) q.toNat a) 268435456 (τ 24 q a)) → P 35 [.inr (3, 0), .inl p] [] τ := by
      intro n
      induction n with
      | zero =>
        intro p τ hn0 p0 p1 fr iv
        have f16 : τ 16 0 7 = K 7 0 := by rw [fr 16 0 (by decide) (by decide) (by decide) (by decide)]; exact n2
        have f3 : τ 3 0 = τ0 3 0 := fr 3 0 (by decide) (by decide) (by decide) (by decide)
        (refine go (t := tb_X2_makeAbove) (WPd_mono d) hP 60 [35] ?_; (conv => whnf); (repeat' (first | (refine ⟨fun _ => ?_, fun _ => ?_⟩ <;> first | (exfalso; omega) | (conv => whnf)) | (refine ⟨by omega, ?_⟩; conv => whnf) | (intro _; conv => whnf))))
        have blc : BelOk (upS τ 3 0 13 1) K := BelOk_cg bl (by rw [up_j (by decide), f3]) (fun k i hk => by rw [up_k (by omega)]; exact fr k i (by omega) (by omega) (by omega) (by omega))
        have a12 : upS τ 3 0 13 1 3 0 12 = 1 := by rw [up_j (by decide), f3]; exact t12
        refine hq _ (fun k i a1 a2 a3 a4 => by rw [up_k a1, fr k i (by omega) (by omega) (by omega) (by omega)]; exact o0 k i a1 a2 a3 a4) ⟨Or.inr a12, Or.inr up_hit, fun _ => blc, fun _ => ⟨a12, fun q a q0 q1 a0 a1 => ?_⟩, ?_⟩ a12 up_hit
        · rw [up_k (by decide)]
          exact iv q a q0 (by omega) a0 a1
        · rw [up_j (by decide), up_j (by decide), up_k (by decide), f3, fr 25 0 (by decide) (by decide) (by decide) (by decide)]
          exact k0.2.2.2.2
      | succ n ih =>
        intro p τ hn0 p0 p1 fr iv
        have f16 : τ 16 0 7 = K 7 0 := by rw [fr 16 0 (by decide) (by decide) (by decide) (by decide)]; exact n2
        have f3 : τ 3 0 = τ0 3 0 := fr 3 0 (by decide) (by decide) (by decide) (by decide)
        have fK : vwC τ 0 = K := by rw [vwC_cg (σ := τ0) (fun k h1 h2 => fr k 0 (by omega) (by omega) (by omega) (by omega))]; exact fK0
        obtain ⟨m, rfl⟩ : ∃ m : Nat, p = m := ⟨p.toNat, by omega⟩
        have hbp : ∀ a, 0 ≤ a → a ≤ old K → Mn (pre K (acK K) (old K) m a) 268435456 (τ 24 m a) := fun a a0 a1 => iv m a (by omega) (by omega) a0 a1
        (refine go (t := tb_X2_makeAbove) (WPd_mono d) hP 60 [35] ?_; (conv => whnf); (repeat' (first | (refine ⟨fun _ => ?_, fun _ => ?_⟩ <;> first | (exfalso; omega) | (conv => whnf)) | (refine ⟨by omega, ?_⟩; conv => whnf) | (intro _; conv => whnf))))
        refine t_X2_addAshCosts (K := K) (B := old K) (by omega) (Or.inl rfl) fK hw (by omega) (by rw [f3]; exact t11) ob (fun a h0 h1 => pre_v hw (by omega) (hbp a h0 h1)) (fun σ1 g1 g2 => ?_)
        ((conv => whnf); (repeat' (first | (refine ⟨fun _ => ?_, fun _ => ?_⟩ <;> first | (exfalso; omega) | (conv => whnf)) | (refine ⟨by omega, ?_⟩; conv => whnf) | (intro _; conv => whnf))))
        have w1 : ∀ x, 0 ≤ x → x ≤ old K → Mn (pAt K (acK K) (old K) m x) 268435456 (σ1 8 0 x) := fun x x0 x1 => by
          rw [g2 x x0 x1]
          exact rowP_at hw (by omega) (hbp x x0 x1)
        have fK1 : vwC σ1 0 = K := by rw [vwC_cg (σ := τ) (fun k h1 h2 => g1 k 0 (by omega))]; exact fK
        refine t_X2_addOwnCostsD (K := K) (B := old K) (by omega) fK1 hw (by omega) (by rw [g1 3 0 (by decide), f3]; exact t11) ob (fun x x0 x1 => pAt_v hw (by omega) (w1 x x0 x1)) (fun σ2 j1 j2 => ?_)
        ((conv => whnf); (repeat' (first | (refine ⟨fun _ => ?_, fun _ => ?_⟩ <;> first | (exfalso; omega) | (conv => whnf)) | (refine ⟨by omega, ?_⟩; conv => whnf) | (intro _; conv => whnf))))
        have fK2 : vwC σ2 0 = K := by rw [vwC_cg (σ := σ1) (fun k h1 h2 => j1 k 0 (by omega))]; exact fK1
        refine t_X2_addMissingCostsD (K := K) (B := old K) (by omega) (Or.inl rfl) fK2 hw (by omega) (by rw [j1 3 0 (by decide), g1 3 0 (by decide), f3]; exact t11) ob (fun x x0 x1 => (j2 x x0 x1).1) (fun σ3 k1 k2 => ?_)
        ((conv => whnf); (repeat' (first | (refine ⟨fun _ => ?_, fun _ => ?_⟩ <;> first | (exfalso; omega) | (conv => whnf)) | (refine ⟨by omega, ?_⟩; conv => whnf) | (intro _; conv => whnf))))
        have fr2 : ∀ k i, k ≠ 8 → k ≠ 9 → k ≠ 10 → ¬ (k = 24 ∧ i = (m : Int) + 1) → σ3 k i = τ k i := fun k i a b c e => by rw [k1 k i c e, j1 k i b, g1 k i a]
        refine ih (m + 1) σ3 (by omega) (by omega) (by omega) (fun k i a1 a2 a3 a4 => by rw [fr2 k i a1 a2 a3 (by omega)]; exact fr k i a1 a2 a3 a4) (fun q a q0 q1 a0 a1 => ?_)
        by_cases c : q = (m : Int) + 1
        · subst c
          rw [show ((m : Int) + 1).toNat = m + 1 by omega]
          exact Mn_D hw (acK_g hw) (by omega) w1 j2 k2 a0 a1
        · rw [fr2 24 q (by decide) (by decide) (by decide) (by omega)]
          exact iv q a q0 (by omega) a0 a1
    ((conv => whnf); (repeat' (first | (refine ⟨fun _ => ?_, fun _ => ?_⟩ <;> first | (exfalso; omega) | (conv => whnf)) | (refine ⟨by omega, ?_⟩; conv => whnf) | (intro _; conv => whnf))))
    refine t_X2_clearRow (by omega) rfl (by decide) (by omega) (by omega) (fun σ1 g1 g2 => ?_)
    ((conv => whnf); (repeat' (first | (refine ⟨fun _ => ?_, fun _ => ?_⟩ <;> first | (exfalso; omega) | (conv => whnf)) | (refine ⟨by omega, ?_⟩; conv => whnf) | (intro _; conv => whnf))))
    refine L _ 0 _ rfl (by omega) (by omega) (fun k i a1 a2 a3 a4 => by rw [up_k a4]; exact g1 k i (by omega)) (fun q a q0 q1 a0 a1 => ?_)
    have e : q = 0 := by omega
    subst e
    refine pre_0 ?_
    by_cases c2 : a = 0
    · rw [if_pos c2, c2, up_hit]
    · rw [if_neg c2, up_j c2]
      exact g2 a a0 (by omega)
