/-! THE MODEL: bound, ways -/
theorem BS_m {K : KV} {p m : Nat} {lim a A R cv : Int} (hA : Mn (pAt K (acK K) 600 p a) 100000000 A) (hR : Mn (cAt K (acK K) 600 m p a) 100000000 R) (hb : ∀ c1 w c2, pre K (acK K) 600 p a c1 → acK K p a = some w → cont K (acK K) 600 m p a c2 → c1 + w < 100000000 ∧ c2 + w < 100000000) (hcv : (acK K p a = none ∧ 100000000 ≤ cv) ∨ (acK K p a = some cv ∧ 0 ≤ cv ∧ cv ≤ 60000)) : (A < 100000000 ∧ R < 100000000 ∧ A + R - cv ≤ lim) ↔ BS K p m lim a := by
  constructor
  · rintro ⟨h1, h2, h3⟩
    obtain ⟨w, c1, e1, g1, e2⟩ := (Mn_L hA h1).1
    obtain ⟨w', c2, e1', g2, e2'⟩ := (Mn_L hR h2).1
    rw [e1] at e1'
    cases e1'
    have ecv : cv = w := by
      rcases hcv with z | z
      · rw [z.1] at e1
        cases e1
      · rw [z.1] at e1
        injection e1
    exact ⟨c1, w, c2, g1, e1, g2, by omega⟩
  · rintro ⟨c1, w, c2, g1, e1, g2, h⟩
    have ecv : cv = w := by
      rcases hcv with z | z
      · rw [z.1] at e1
        cases e1
      · rw [z.1] at e1
        injection e1
    have a1 := hA.1 (c1 + w) ⟨w, c1, e1, g1, rfl⟩
    have a2 := hR.1 (c2 + w) ⟨w, c2, e1, g2, rfl⟩
    have a3 := hb c1 w c2 g1 e1 g2
    omega
def FI (P : Int → Prop) (w f i : Int) : Prop := (f = -4 ∧ ∀ a, P a → i ≤ a) ∨ (P f ∧ (0 ≤ f ∧ f < i) ∧ (w = 0 → ∀ a, P a → f ≤ a) ∧ (w = 1 → ∀ a, P a → a < i → a ≤ f))
theorem FI_n {P : Int → Prop} {w f i : Int} (h : FI P w f i) (hn : ¬ P i) : FI P w f (i + 1) := by
  rcases h with ⟨h1, h2⟩ | ⟨h1, h2, h3, h4⟩
  · refine Or.inl ⟨h1, fun a ha => ?_⟩
    have := h2 a ha
    by_cases c : a = i
    · subst c
      exact absurd ha hn
    · omega
  · refine Or.inr ⟨h1, by omega, h3, fun e a ha hl => ?_⟩
    by_cases c : a = i
    · subst c
      exact absurd ha hn
    · exact h4 e a ha (by omega)
theorem FI_y {P : Int → Prop} {w f i : Int} (h : FI P w f i) (hp : P i) (h0 : 0 ≤ i) (hw : w = 1 ∨ f = -4) : FI P w i (i + 1) := by
  refine Or.inr ⟨hp, by omega, fun e a ha => ?_, fun e a ha hl => by omega⟩
  rcases h with ⟨h1, h2⟩ | ⟨h1, h2, h3, h4⟩
  · exact h2 a ha
  · omega
theorem FI_k {P : Int → Prop} {w f i : Int} (h : FI P w f i) (h0 : w ≠ 1) (hf : f ≠ -4) : FI P w f (i + 1) := by
  rcases h with ⟨h1, h2⟩ | ⟨h1, h2, h3, h4⟩
  · exact absurd h1 hf
  · exact Or.inr ⟨h1, by omega, h3, fun e => absurd e h0⟩
theorem t_X5_bound {d : Nat} (hd : 4 ≤ d) {σ : Sto} {Q : Post} {K : KV} {h : Int} {HK : Int → KV} {tl : Int} {tx : Int → Int} {p s w : Int} (hC : ModelR σ K h HK tl tx) (hp : inR p) (hs : inR s) (hw0 : inR w) (hbad : ¬ ((0 ≤ p ∧ p ≤ K 7 0) ∧ (0 ≤ s ∧ s ≤ 200) ∧ (0 ≤ w ∧ w ≤ 1)) → Q (some (.inl (-1))) σ) (hno : (0 ≤ p ∧ p ≤ K 7 0) ∧ (0 ≤ s ∧ s ≤ 200) ∧ (0 ≤ w ∧ w ≤ 1) → (∀ c, ¬ CS K c) → ∀ σ', ModelR σ' K h HK tl tx → frM σ σ' → Q (some (.inl (-4))) σ') (hyes : (0 ≤ p ∧ p ≤ K 7 0) ∧ (0 ≤ s ∧ s ≤ 200) ∧ (0 ≤ w ∧ w ≤ 1) → ∀ c0, isL (CS K) c0 → ∀ a, BS K p.toNat (K 7 0 - p).toNat (c0 + s) a → (w = 0 → ∀ a', BS K p.toNat (K 7 0 - p).toNat (c0 + s) a' → a ≤ a') → (w = 1 → ∀ a', BS K p.toNat (K 7 0 - p).toNat (c0 + s) a' → a' ≤ a) → ∀ σ', ModelR σ' K h HK tl tx → frM σ σ' → Q (some (.inl a)) σ') : WPd d m_X5_bound [.inr (26, 0), .inl p, .inl s, .inl w] σ Q := by
  obtain ⟨d, rfl⟩ : ∃ k, d = k + 1 := ⟨d - 1, by omega⟩
  refine wpd_of fun P hT hP => ?_
  obtain ⟨hK, hw, hh, htx⟩ := hC
  have hn := hw.1
  have n2 : σ 27 0 0 = K 7 0 := by rw [← hK, vm_n]
  (refine go (t := tb_X5_bound) (WPd_mono d) hP 60 [62] ?_; (conv => whnf); (repeat' (first | (refine ⟨fun _ => ?_, fun _ => ?_⟩ <;> first | (exfalso; omega) | (conv => whnf)) | (refine ⟨by omega, ?_⟩; conv => whnf) | (intro _; conv => whnf))))
  refine t_X5_isPlace (by omega) hp (by omega) (fun q1 => ?_) (fun q => ?_)
  · ((conv => whnf); (repeat' (first | (refine ⟨fun _ => ?_, fun _ => ?_⟩ <;> first | (exfalso; omega) | (conv => whnf)) | (refine ⟨by omega, ?_⟩; conv => whnf) | (intro _; conv => whnf))))
    refine t_X5_in (by omega) hs (by omega) (by omega) (fun q2 => ?_) (fun q => ?_)
    · ((conv => whnf); (repeat' (first | (refine ⟨fun _ => ?_, fun _ => ?_⟩ <;> first | (exfalso; omega) | (conv => whnf)) | (refine ⟨by omega, ?_⟩; conv => whnf) | (intro _; conv => whnf))))
      refine t_X5_in (by omega) hw0 (by omega) (by omega) (fun q3 => ?_) (fun q => ?_)
      · have cd : (0 ≤ p ∧ p ≤ K 7 0) ∧ (0 ≤ s ∧ s ≤ 200) ∧ (0 ≤ w ∧ w ≤ 1) := by omega
        ((conv => whnf); (repeat' (first | (refine ⟨fun _ => ?_, fun _ => ?_⟩ <;> first | (exfalso; omega) | (conv => whnf)) | (refine ⟨by omega, ?_⟩; conv => whnf) | (intro _; conv => whnf))))
        refine t_X5_plain (by omega) ?_
        ((conv => whnf); (repeat' (first | (refine ⟨fun _ => ?_, fun _ => ?_⟩ <;> first | (exfalso; omega) | (conv => whnf)) | (refine ⟨by omega, ?_⟩; conv => whnf) | (intro _; conv => whnf))))
        refine t_X5_solvesP (K := K) (by omega) (show vwM (plS σ 27 0) = K by rw [plS_k (by decide)]; exact hK) hw (plS_md σ) (fun ρ f0 ro b0 bb => ?_)
        have o1 := (plS_o σ).tr (offQ.k (fun k i hk => f0 k i (by omega)))
        by_cases c : ρ 31 0 0 < 100000000
        · have lc := Mn_L b0 c
          have cb := cont_lt hw (acK_g hw) (by omega) lc.1
          have Y := hyes cd _ lc
          obtain ⟨pn, rfl⟩ : ∃ pn : Nat, p = pn := ⟨p.toNat, by omega⟩
          obtain ⟨m, hm⟩ : ∃ m : Nat, (K 7 0 - (pn : Int)).toNat = m := ⟨_, rfl⟩
          rw [hm, show ((pn : Int)).toNat = pn by omega] at Y
          have md0 : mdR ρ (-1) (-1) 0 0 0 := mdR_cg (plS_md σ) (fun j _ _ => by rw [f0 26 0 (by decide)])
          have e27 : ρ 27 0 = σ 27 0 := o1.1 27 0 (by decide) (by decide)
          obtain ⟨x, hx⟩ := BS_ex hw (show (pn : Int) + m = K 7 0 by omega) (lim := ρ 31 0 0 + s) lc.1 (by omega)
          have inB : ∀ a, BS K pn m (ρ 31 0 0 + s) a → 0 ≤ a ∧ a ≤ 600 := fun a ⟨c1, w1, c2, g1, _, _, _⟩ => by
            have a1 := (pre_old hw (by omega) g1).1
            have a2 := old_b hw
            omega
          have xo := inB x hx
          ((conv => whnf); (repeat' (first | (refine ⟨fun _ => ?_, fun _ => ?_⟩ <;> first | (exfalso; omega) | (conv => whnf)) | (refine ⟨by omega, ?_⟩; conv => whnf) | (intro _; conv => whnf))))
          refine t_X5_falls (K := K) (last := pn) (by omega) (by rw [e27]; exact hK) hw md0 (by omega) (fun τ g1 g2 => ?_)
          have o2 := o1.tr (offQ.k (fun k i hk => g1 k i (by omega)))
          have cr := ModelR_Q ⟨hK, hw, hh, htx⟩ o2
          have t31 : τ 31 0 = ρ 31 0 := g1 31 0 (by decide)
          have L62 : ∀ (n : Nat) (i f : Int), n = (601 - i).toNat → 0 ≤ i → i ≤ 601 → (-4 ≤ f ∧ f ≤ 601) → FI (BS K pn m (ρ 31 0 0 + s)) w f i → P 62 [.inr (26, 0), .inl pn, .inl s, .inl w, .inl (ρ 31 0 0), .inl f, .inl i] [] τ := by
            intro n
            induction n with
            | zero =>
              intro i f hn0 i0 i1 fb fi
              have ei : i = 601 := by omega
              subst ei
              have Z : Q (some (.inl f)) τ := by
                rcases fi with ⟨h1, h2⟩ | ⟨h1, h2, h3, h4⟩
                · have := h2 x hx
                  omega
                · exact Y f h1 h3 (fun e a ha => h4 e a ha (by have := inB a ha; omega)) τ cr.1 cr.2
              (refine go (t := tb_X5_bound) (WPd_mono d) hP 60 [62] ?_; (conv => whnf); (repeat' (first | (refine ⟨fun _ => ?_, fun _ => ?_⟩ <;> first | (exfalso; omega) | (conv => whnf)) | (refine ⟨by omega, ?_⟩; conv => whnf) | (intro _; conv => whnf))))
              exact Z
            | succ n ih =>
              intro i f hn0 i0 i1 fb fi
              have r1 := ro m pn i (by omega) (by omega) i0 (by omega)
              have r2 := Mn_0 r1 (by decide) (fun c hc => (cAt_b hw (acK_g hw) (by omega) hc).1)
              have r3 := Mn_le r1
              have a1 := g2 i i0 (by omega)
              have a2 := Mn_0 a1 (by decide) (fun c hc => (pAt_b hw (acK_g hw) (by omega) hc).1)
              have a3 := Mn_le a1
              have cva := acN_av hw (l := -1) (mp := -1) (ma := 0) (mu := 0) (wi := 0) (by decide) (by decide) pn i
              rw [acG_K (by omega)] at cva
              obtain ⟨cv, ecv⟩ : ∃ cv, acN K (-1) (-1) 0 0 0 pn i = cv := ⟨_, rfl⟩
              rw [ecv] at cva
              have bm := BS_m (lim := ρ 31 0 0 + s) a1 r1 (fun c1 w c2 z1 z2 z3 => by
                have y1 := pre_lt hw (acK_g hw) (by omega) z1
                have y2 := cont_lt hw (acK_g hw) (by omega) z3
                have y3 := acK_b hw _ _ _ z2
                omega) cva.1
              have cv0 : 0 ≤ cv := by
                rcases cva.1 with z | z <;> omega
              have cv1 := cva.2
              have e31 : τ 31 0 (601 * pn + i) = ρ 31 0 (601 * pn + i) := by rw [t31]
              have t27 : τ 27 0 = σ 27 0 := by rw [g1 27 0 (by decide), e27]
              have N := fun (q : ¬ (τ 32 0 (601 * pn + i) < 100000000 ∧ ρ 31 0 (601 * pn + i) < 100000000 ∧ τ 32 0 (601 * pn + i) + ρ 31 0 (601 * pn + i) - cv ≤ ρ 31 0 0 + s)) => ih (i + 1) f (by omega) (by omega) (by omega) fb (FI_n fi (fun z => q (bm.2 z)))
              have Yy := fun (q : τ 32 0 (601 * pn + i) < 100000000 ∧ ρ 31 0 (601 * pn + i) < 100000000 ∧ τ 32 0 (601 * pn + i) + ρ 31 0 (601 * pn + i) - cv ≤ ρ 31 0 0 + s) (q2 : w = 1 ∨ f = -4) => ih (i + 1) i (by omega) (by omega) (by omega) (by omega) (FI_y fi (bm.1 q) i0 q2)
              have Kk := fun (q1 : w ≠ 1) (q2 : f ≠ -4) => ih (i + 1) f (by omega) (by omega) (by omega) fb (FI_k fi q1 q2)
              clear bm fi
              by_cases k1 : τ 32 0 (601 * pn + i) < 100000000
              · by_cases k2 : ρ 31 0 (601 * pn + i) < 100000000
                · by_cases k3 : τ 32 0 (601 * pn + i) + ρ 31 0 (601 * pn + i) - cv ≤ ρ 31 0 0 + s
                  · by_cases k4 : w = 1
                    · have Z := Yy ⟨k1, k2, k3⟩ (Or.inl k4)
                      (refine go (t := tb_X5_bound) (WPd_mono d) hP 90 [62] ?_; (conv => whnf); (repeat' (first | (refine ⟨fun _ => ?_, fun _ => ?_⟩ <;> first | (exfalso; omega) | (conv => whnf)) | (refine ⟨by omega, ?_⟩; conv => whnf) | (intro _; conv => whnf))))
                      refine t_X5_ashCost (K := K) (l := -1) (mp := -1) (ma := 0) (mu := 0) (wi := 0) (by omega) (by rw [t27]; exact hK) hw (mdR_cg md0 (fun j _ _ => by rw [g1 26 0 (by decide)])) (by omega) (by omega) ?_
                      rw [ecv]
                      ((conv => whnf); (repeat' (first | (refine ⟨fun _ => ?_, fun _ => ?_⟩ <;> first | (exfalso; omega) | (conv => whnf)) | (refine ⟨by omega, ?_⟩; conv => whnf) | (intro _; conv => whnf))))
                      (refine hT 7 ?_; exact Z)
                    · by_cases k5 : f = -4
                      · have Z := Yy ⟨k1, k2, k3⟩ (Or.inr k5)
                        (refine go (t := tb_X5_bound) (WPd_mono d) hP 90 [62] ?_; (conv => whnf); (repeat' (first | (refine ⟨fun _ => ?_, fun _ => ?_⟩ <;> first | (exfalso; omega) | (conv => whnf)) | (refine ⟨by omega, ?_⟩; conv => whnf) | (intro _; conv => whnf))))
                        refine t_X5_ashCost (K := K) (l := -1) (mp := -1) (ma := 0) (mu := 0) (wi := 0) (by omega) (by rw [t27]; exact hK) hw (mdR_cg md0 (fun j _ _ => by rw [g1 26 0 (by decide)])) (by omega) (by omega) ?_
                        rw [ecv]
                        ((conv => whnf); (repeat' (first | (refine ⟨fun _ => ?_, fun _ => ?_⟩ <;> first | (exfalso; omega) | (conv => whnf)) | (refine ⟨by omega, ?_⟩; conv => whnf) | (intro _; conv => whnf))))
                        (refine hT 7 ?_; exact Z)
                      · have Z := Kk k4 k5
                        (refine go (t := tb_X5_bound) (WPd_mono d) hP 90 [62] ?_; (conv => whnf); (repeat' (first | (refine ⟨fun _ => ?_, fun _ => ?_⟩ <;> first | (exfalso; omega) | (conv => whnf)) | (refine ⟨by omega, ?_⟩; conv => whnf) | (intro _; conv => whnf))))
                        refine t_X5_ashCost (K := K) (l := -1) (mp := -1) (ma := 0) (mu := 0) (wi := 0) (by omega) (by rw [t27]; exact hK) hw (mdR_cg md0 (fun j _ _ => by rw [g1 26 0 (by decide)])) (by omega) (by omega) ?_
                        rw [ecv]
                        ((conv => whnf); (repeat' (first | (refine ⟨fun _ => ?_, fun _ => ?_⟩ <;> first | (exfalso; omega) | (conv => whnf)) | (refine ⟨by omega, ?_⟩; conv => whnf) | (intro _; conv => whnf))))
                        (refine hT 7 ?_; exact Z)
                  · have Z := N (fun q => k3 q.2.2)
                    (refine go (t := tb_X5_bound) (WPd_mono d) hP 90 [62] ?_; (conv => whnf); (repeat' (first | (refine ⟨fun _ => ?_, fun _ => ?_⟩ <;> first | (exfalso; omega) | (conv => whnf)) | (refine ⟨by omega, ?_⟩; conv => whnf) | (intro _; conv => whnf))))
                    refine t_X5_ashCost (K := K) (l := -1) (mp := -1) (ma := 0) (mu := 0) (wi := 0) (by omega) (by rw [t27]; exact hK) hw (mdR_cg md0 (fun j _ _ => by rw [g1 26 0 (by decide)])) (by omega) (by omega) ?_
                    rw [ecv]
                    ((conv => whnf); (repeat' (first | (refine ⟨fun _ => ?_, fun _ => ?_⟩ <;> first | (exfalso; omega) | (conv => whnf)) | (refine ⟨by omega, ?_⟩; conv => whnf) | (intro _; conv => whnf))))
                    (refine hT 7 ?_; exact Z)
                · have Z := N (fun q => k2 q.2.1)
                  (refine go (t := tb_X5_bound) (WPd_mono d) hP 90 [62] ?_; (conv => whnf); (repeat' (first | (refine ⟨fun _ => ?_, fun _ => ?_⟩ <;> first | (exfalso; omega) | (conv => whnf)) | (refine ⟨by omega, ?_⟩; conv => whnf) | (intro _; conv => whnf))))
                  (refine hT 7 ?_; exact Z)
              · have Z := N (fun q => k1 q.1)
                (refine go (t := tb_X5_bound) (WPd_mono d) hP 90 [62] ?_; (conv => whnf); (repeat' (first | (refine ⟨fun _ => ?_, fun _ => ?_⟩ <;> first | (exfalso; omega) | (conv => whnf)) | (refine ⟨by omega, ?_⟩; conv => whnf) | (intro _; conv => whnf))))
                (refine hT 7 ?_; exact Z)
          ((conv => whnf); (repeat' (first | (refine ⟨fun _ => ?_, fun _ => ?_⟩ <;> first | (exfalso; omega) | (conv => whnf)) | (refine ⟨by omega, ?_⟩; conv => whnf) | (intro _; conv => whnf))))
          exact L62 _ 0 (-4) rfl (by omega) (by omega) (by omega) (Or.inl ⟨rfl, fun a ha => (inB a ha).1⟩)
        · have cr := ModelR_Q ⟨hK, hw, hh, htx⟩ o1
          have X := hno cd (Mn_no b0 c) ρ cr.1 cr.2
          ((conv => whnf); (repeat' (first | (refine ⟨fun _ => ?_, fun _ => ?_⟩ <;> first | (exfalso; omega) | (conv => whnf)) | (refine ⟨by omega, ?_⟩; conv => whnf) | (intro _; conv => whnf))))
          exact X
      · ((conv => whnf); (repeat' (first | (refine ⟨fun _ => ?_, fun _ => ?_⟩ <;> first | (exfalso; omega) | (conv => whnf)) | (refine ⟨by omega, ?_⟩; conv => whnf) | (intro _; conv => whnf))))
        exact hbad (fun e => q e.2.2)
    · ((conv => whnf); (repeat' (first | (refine ⟨fun _ => ?_, fun _ => ?_⟩ <;> first | (exfalso; omega) | (conv => whnf)) | (refine ⟨by omega, ?_⟩; conv => whnf) | (intro _; conv => whnf))))
      exact hbad (fun e => q e.2.1)
  · ((conv => whnf); (repeat' (first | (refine ⟨fun _ => ?_, fun _ => ?_⟩ <;> first | (exfalso; omega) | (conv => whnf)) | (refine ⟨by omega, ?_⟩; conv => whnf) | (intro _; conv => whnf))))
    exact hbad (fun e => q (by omega))
