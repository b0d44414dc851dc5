/-! THE MODEL: solves -/
def Bs (R : Int → Int) (K : KV) (p a b w y : Int) : Prop := (0 ≤ b ∧ b ≤ 100000000) ∧ (∀ o g, rngK K p (o, g) → a + o + g ≤ 600 → (o < w ∨ (o = w ∧ g < y)) → b ≤ R (a + o + g) + stK K p (o, g)) ∧ (b = 100000000 ∨ ∃ o g, rngK K p (o, g) ∧ a + o + g ≤ 600 ∧ b = R (a + o + g) + stK K p (o, g))
theorem Bs_0 (R : Int → Int) (K : KV) (p a : Int) : Bs R K p a 100000000 (lo (K 1 p)) 0 := by
  refine ⟨by decide, fun o g hr hb h => ?_, Or.inl rfl⟩
  have r1 := hr.1
  have r2 := hr.2
  dsimp only at r1 r2
  omega
theorem Bs_s1 {R : Int → Int} {K : KV} {p a b w y v : Int} (h : Bs R K p a b w y) (hr : rngK K p (w, y)) (hB : a + w + y ≤ 600) (hv : v = R (a + w + y) + stK K p (w, y)) (h0 : 0 ≤ v) (hl : v < b) : Bs R K p a v w (y + 1) := by
  obtain ⟨b1, b2, b3⟩ := h
  refine ⟨⟨h0, by clear b3; omega⟩, fun o g hr' hb h => ?_, Or.inr ⟨w, y, hr, hB, hv⟩⟩
  clear b3
  by_cases c : o = w ∧ g = y
  · rw [c.1, c.2]
    omega
  · have := b2 o g hr' hb (by omega)
    omega
theorem Bs_s2 {R : Int → Int} {K : KV} {p a b w y v : Int} (h : Bs R K p a b w y) (hv : v = R (a + w + y) + stK K p (w, y)) (hl : ¬ v < b) : Bs R K p a b w (y + 1) := by
  obtain ⟨b1, b2, b3⟩ := h
  refine ⟨b1, fun o g hr' hb h => ?_, b3⟩
  clear b3
  by_cases c : o = w ∧ g = y
  · rw [c.1, c.2]
    omega
  · exact b2 o g hr' hb (by omega)
theorem Bs_n {R : Int → Int} {K : KV} {p a b w y : Int} (h : Bs R K p a b w y) (hn : ∀ g, y ≤ g → g ≤ K 2 p → ¬ a + w + g ≤ 600) : Bs R K p a b (w + 1) 0 := by
  obtain ⟨b1, b2, b3⟩ := h
  refine ⟨b1, fun o g hr' hb h => ?_, b3⟩
  clear b3
  have r2 := hr'.2
  dsimp only at r2
  refine b2 o g hr' hb ?_
  by_cases c : o = w
  · subst c
    by_cases c2 : g < y
    · exact Or.inr ⟨rfl, c2⟩
    · exact absurd hb (hn g (by omega) r2.2)
  · exact Or.inl (by omega)
theorem Bs_e {K : KV} (hK : WFK K) {ac : acT} (hac : acB ac 60000) {m : Nat} {p : Int} (hp : 0 ≤ p ∧ p + (m + 1) ≤ K 7 0) {R : Int → Int} (hR : ∀ x, 0 ≤ x → x ≤ 600 → Mn (cAt K ac 600 m (p + 1) x) 100000000 (R x)) {a b : Int} (a0 : 0 ≤ a) (h : Bs R K p a b (hi (K 1 p) + 1) 0) : Mn (cont K ac 600 (m + 1) p a) 100000000 b := by
  have hn := hK.1
  have bl := lo_b (K 1 p)
  obtain ⟨b1, b2, b3⟩ := h
  refine Mn_un (I := fun i : Int × Int => rngK K p i ∧ a + i.1 + i.2 ≤ 600) (x := fun i => R (a + i.1 + i.2)) (k := fun i => stK K p i) (Si := fun i => cAt K ac 600 m (p + 1) (a + i.1 + i.2)) ?_ (fun c => cont_S) ?_ b1.2 ?_ ?_
  · rintro ⟨o, g⟩ ⟨⟨ho, hg⟩, hb⟩
    clear b3
    dsimp only at ho hg hb ⊢
    exact ⟨hR _ (by omega) hb, (st_b hK (by omega) ⟨ho, hg⟩).1⟩
  · intro c hc
    clear b3
    have := cont_b hK hac (m + 1) p a c hp.1 (by omega) hc
    omega
  · rintro ⟨o, g⟩ ⟨hr, hb⟩
    have r1 := hr.1
    dsimp only at r1 hb ⊢
    exact b2 o g hr hb (Or.inl (by clear b3; omega))
  · rcases b3 with z | ⟨o, g, hr, hb, e⟩
    · exact Or.inl z
    · exact Or.inr ⟨(o, g), ⟨hr, hb⟩, e⟩
theorem Mn_atN {S : Int → Prop} {v p a N : Int} {ac : acT} (hn : ac p a = none) (hv : v = N) : Mn (fun c => ∃ w c', ac p a = some w ∧ S c' ∧ c = c' + w) N v := by
  have no : ∀ c, ¬ ∃ w c', ac p a = some w ∧ S c' ∧ c = c' + w := by
    rintro c ⟨w, c', q, _⟩
    rw [hn] at q
    cases q
  exact ⟨fun c hc => absurd hc (no c), Or.inl ⟨hv, no⟩⟩
theorem t_X5_solves {d : Nat} (hd : 3 ≤ d) {σ : Sto} {Q : Post} {K : KV} {l mp ma mu wi : Int} (hK : vwM (σ 27 0) = K) (hw : WFK K) (hM : mdR σ l mp ma mu wi) (hq : ∀ σ', (∀ k i, k ≠ 31 → σ' k i = σ k i) → (∀ (m : Nat) (p a : Int), 0 ≤ p → p + m = K 7 0 → 0 ≤ a → a ≤ 600 → Mn (cAt K (acG K l mp ma mu wi) 600 m p a) 100000000 (σ' 31 0 (601 * p + a))) → Q (some (.inl (σ' 31 0 0))) σ') : WPd d m_X5_solves [.inr (26, 0)] σ Q := by
  obtain ⟨d, rfl⟩ : ∃ k, d = k + 1 := ⟨d - 1, by omega⟩
  refine wpd_of fun P hT hP => ?_
  have hn := hw.1
  have n2 : σ 27 0 0 = K 7 0 := by rw [← hK, vm_n]
  have hac := acG_g hw (l := l) (mp := mp) (ma := ma) (mu := mu) (wi := wi) (by have := hM.2.2.2.2.1; omega) (by have := hM.2.2.2.2.2.1; omega)
  have hcv := acN_av hw (l := l) (mp := mp) (ma := ma) (mu := mu) (wi := wi) hM.2.2.2.2.1 (by have := hM.2.2.2.2.2.1; omega)
  obtain ⟨ac, eac⟩ : ∃ ac, acG K l mp ma mu wi = ac := ⟨_, rfl⟩
  obtain ⟨cv, ecv⟩ : ∃ cv, acN K l mp ma mu wi = cv := ⟨_, rfl⟩
  have tA := fun {d : Nat} (hd : 2 ≤ d) {τ : Sto} {Q : Post} {p a : Int} (h1 : vwM (τ 27 0) = K) (h2 : mdR τ l mp ma mu wi) => @t_X5_ashCost d hd τ Q K l mp ma mu wi p a h1 hw h2
  rw [eac] at hq hac hcv
  rw [ecv] at hcv tA
  have L7 : ∀ (n : Nat) (p : Int) (τ : Sto), n = (p + 1).toNat → -1 ≤ p → p ≤ K 7 0 → (∀ k i, k ≠ 31 → τ k i = σ k i) → (∀ (m : Nat) (q x : Int), p < q → q + m = K 7 0 → 0 ≤ x → x ≤ 600 → Mn (cAt K ac 600 m q x) 100000000 (τ 31 0 (601 * q + x))) → P 7 [.inr (26, 0), .inl p] [] τ := by
    intro n
    induction n with
    | zero =>
      intro p τ hn0 p0 p1 fr iv
      have X := hq τ fr (fun m q x q0 q1 => iv m q x (by omega) q1)
      (refine go (t := tb_X5_solves) (WPd_mono d) hP 60 [7, 13, 67, 96, 183] ?_; (conv => whnf); (repeat' (first | (refine ⟨fun _ => ?_, fun _ => ?_⟩ <;> first | (exfalso; omega) | (conv => whnf)) | (refine ⟨by omega, ?_⟩; conv => whnf) | (intro _; conv => whnf))))
      exact X
    | succ n ih =>
      intro p τ0 hn0 p0 p1 fr0 iv0
      obtain ⟨m, hm⟩ : ∃ m : Nat, p + m = K 7 0 := ⟨(K 7 0 - p).toNat, by omega⟩
      have L13 : ∀ (n : Nat) (a : Int) (τ : Sto), n = (601 - a).toNat → 0 ≤ a → a ≤ 601 → (∀ k i, k ≠ 31 → τ k i = σ k i) → (∀ (m : Nat) (q x : Int), p < q → q + m = K 7 0 → 0 ≤ x → x ≤ 600 → Mn (cAt K ac 600 m q x) 100000000 (τ 31 0 (601 * q + x))) → (∀ x, 0 ≤ x → x < a → Mn (cAt K ac 600 m p x) 100000000 (τ 31 0 (601 * p + x))) → P 13 [.inr (26, 0), .inl p, .inl a] [] τ := by
        intro n
        induction n with
        | zero =>
          intro a τ hn1 a0 a1 fr iv jv
          have X := ih (p - 1) τ (by omega) (by omega) (by omega) fr (fun m' q x q0 q1 x0 x1 => by
            by_cases c : q = p
            · subst c
              rw [show m' = m by omega]
              exact jv x x0 (by omega)
            · exact iv m' q x (by omega) q1 x0 x1)
          (refine go (t := tb_X5_solves) (WPd_mono d) hP 60 [7, 13, 67, 96, 183] ?_; (conv => whnf); (repeat' (first | (refine ⟨fun _ => ?_, fun _ => ?_⟩ <;> first | (exfalso; omega) | (conv => whnf)) | (refine ⟨by omega, ?_⟩; conv => whnf) | (intro _; conv => whnf))))
          (refine hT 2 ?_; exact X)
        | succ n kh =>
          intro a τ hn1 a0 a1 fr iv jv
          have f27 : τ 27 0 = σ 27 0 := fr 27 0 (by decide)
          have f0 : τ 27 0 0 = K 7 0 := by rw [f27]; exact n2
          have hcp := hcv p a
          have nu : 0 ≤ cv p a := by
            rcases hcp.1 with z | z <;> omega
          have T183 : ∀ (b w : Int), (0 ≤ b ∧ b ≤ 100000000) → (cv p a < 100000000 → Mn (cont K ac 600 m p a) 100000000 b) → P 183 [.inr (26, 0), .inl p, .inl a, .inl (cv p a), .inl b, .inl w] [] τ := by
            intro b w bb hb
            have fin : ∀ v, Mn (cAt K ac 600 m p a) 100000000 v → P 13 [.inr (26, 0), .inl p, .inl (a + 1)] [] (upS τ 31 0 (601 * p + a) v) := fun v hv => by
              refine kh (a + 1) _ (by omega) (by omega) (by omega) (fun k i hk => by rw [up_k hk]; exact fr k i hk) (fun m' q x q0 q1 x0 x1 => ?_) (fun x x0 x1 => ?_)
              · rw [up_j (by omega)]
                exact iv m' q x q0 q1 x0 x1
              · by_cases c : x = a
                · rw [c, up_hit]
                  exact hv
                · rw [up_j (by omega)]
                  exact jv x x0 (by omega)
            by_cases c : cv p a < 100000000
            · have av : ac p a = some (cv p a) ∧ 0 ≤ cv p a ∧ cv p a ≤ 60000 := by
                rcases hcp.1 with z | z
                · omega
                · exact z
              have mc := hb c
              have mm := Mn_at (ac := ac) (p := p) (a := a) mc bb.1 (Or.inr ⟨av.1, nu⟩) (fun c w hc hw1 => by
                have := cont_lt hw hac (by omega) hc
                have := hac _ _ _ hw1
                omega)
              by_cases c2 : b < 100000000
              · have cb := cont_lt hw hac (by omega) (Mn_L mc c2).1
                have e : min 100000000 (b + cv p a) = cv p a + b := by omega
                rw [e] at mm
                have X := fin _ mm
                (refine go (t := tb_X5_solves) (WPd_mono d) hP 60 [7, 13, 67, 96, 183] ?_; (conv => whnf); (repeat' (first | (refine ⟨fun _ => ?_, fun _ => ?_⟩ <;> first | (exfalso; omega) | (conv => whnf)) | (refine ⟨by omega, ?_⟩; conv => whnf) | (intro _; conv => whnf))))
                (refine hT 3 ?_; exact X)
              · have e : min 100000000 (b + cv p a) = 100000000 := by omega
                rw [e] at mm
                have X := fin _ mm
                (refine go (t := tb_X5_solves) (WPd_mono d) hP 60 [7, 13, 67, 96, 183] ?_; (conv => whnf); (repeat' (first | (refine ⟨fun _ => ?_, fun _ => ?_⟩ <;> first | (exfalso; omega) | (conv => whnf)) | (refine ⟨by omega, ?_⟩; conv => whnf) | (intro _; conv => whnf))))
                (refine hT 3 ?_; exact X)
            · have av : ac p a = none := by
                rcases hcp.1 with z | z
                · exact z.1
                · omega
              have X := fin 100000000 (Mn_atN av rfl)
              (refine go (t := tb_X5_solves) (WPd_mono d) hP 60 [7, 13, 67, 96, 183] ?_; (conv => whnf); (repeat' (first | (refine ⟨fun _ => ?_, fun _ => ?_⟩ <;> first | (exfalso; omega) | (conv => whnf)) | (refine ⟨by omega, ?_⟩; conv => whnf) | (intro _; conv => whnf))))
              (refine hT 3 ?_; exact X)
          by_cases pn : p = K 7 0
          · have X := T183 0 9 (by omega) (fun _ => by
              rw [show m = 0 by omega]
              exact ⟨fun c hc => by have hc : c = 0 := hc; omega, Or.inr ⟨by decide, rfl⟩⟩)
            (refine go (t := tb_X5_solves) (WPd_mono d) hP 60 [7, 13, 67, 96, 183] ?_; (conv => whnf); (repeat' (first | (refine ⟨fun _ => ?_, fun _ => ?_⟩ <;> first | (exfalso; omega) | (conv => whnf)) | (refine ⟨by omega, ?_⟩; conv => whnf) | (intro _; conv => whnf))))
            refine tA (by omega) (by rw [f27]; exact hK) (mdR_cg hM (fun j j0 j1 => by rw [fr 26 0 (by decide)])) (by omega) (by omega) ?_
            ((conv => whnf); (repeat' (first | (refine ⟨fun _ => ?_, fun _ => ?_⟩ <;> first | (exfalso; omega) | (conv => whnf)) | (refine ⟨by omega, ?_⟩; conv => whnf) | (intro _; conv => whnf))))
            (refine go (t := tb_X5_solves) (WPd_mono d) hP 60 [7, 13, 67, 96, 183] ?_; (conv => whnf); (repeat' (first | (refine ⟨fun _ => ?_, fun _ => ?_⟩ <;> first | (exfalso; omega) | (conv => whnf)) | (refine ⟨by omega, ?_⟩; conv => whnf) | (intro _; conv => whnf))))
            exact X
          · obtain ⟨m', rfl⟩ : ∃ m', m = m' + 1 := ⟨m - 1, by omega⟩
            have hR : ∀ x, 0 ≤ x → x ≤ 600 → Mn (cAt K ac 600 m' (p + 1) x) 100000000 (τ 31 0 (601 * (p + 1) + x)) := fun x x0 x1 => iv m' (p + 1) x (by omega) (by omega) x0 x1
            obtain ⟨R, eR⟩ : ∃ R : Int → Int, ∀ x, τ 31 0 (601 * (p + 1) + x) = R x := ⟨_, fun _ => rfl⟩
            have hR : ∀ x, 0 ≤ x → x ≤ 600 → Mn (cAt K ac 600 m' (p + 1) x) 100000000 (R x) := fun x x0 x1 => by
              rw [← eR]
              exact hR x x0 x1
            obtain ⟨-, v1, v2⟩ := (vm_in (f := σ 27 0)).1 (show 0 ≤ p by omega) (by omega)
            rw [hK] at v1 v2
            have f2 : τ 27 0 (101 + p) = K 2 p := by rw [f27]; exact v2.symm
            have bl := lo_b (K 1 p)
            have bh := hi_b (K 1 p)
            have mb := (hw.2.2.1 p (by omega) (by omega)).2.2
            have L67 : ∀ (n : Nat) (w b : Int), n = (hi (K 1 p) + 1 - w).toNat → lo (K 1 p) ≤ w → w ≤ hi (K 1 p) + 1 → Bs R K p a b w 0 → P 67 [.inr (26, 0), .inl p, .inl a, .inl (cv p a), .inl b, .inl w] [] τ := by
              intro n
              induction n with
              | zero =>
                intro w b hn2 w0 w1 bs
                have ew : w = hi (K 1 p) + 1 := by omega
                rw [ew] at bs
                have X := T183 b w bs.1 (fun _ => Bs_e hw hac (by omega) hR a0 bs)
                (refine go (t := tb_X5_solves) (WPd_mono d) hP 60 [7, 13, 67, 96, 183] ?_; (conv => whnf); (repeat' (first | (refine ⟨fun _ => ?_, fun _ => ?_⟩ <;> first | (exfalso; omega) | (conv => whnf)) | (refine ⟨by omega, ?_⟩; conv => whnf) | (intro _; conv => whnf))))
                refine t_X5_mostOwn (by omega) (by omega) ?_
                rw [f27, ← v1]
                ((conv => whnf); (repeat' (first | (refine ⟨fun _ => ?_, fun _ => ?_⟩ <;> first | (exfalso; omega) | (conv => whnf)) | (refine ⟨by omega, ?_⟩; conv => whnf) | (intro _; conv => whnf))))
                exact X
              | succ n lh =>
                intro w b hn2 w0 w1 bs
                by_cases c : cv p a < 100000000
                · have L96 : ∀ (n : Nat) (y b : Int), n = (K 2 p + 1 - y).toNat → 0 ≤ y → y ≤ K 2 p + 1 → Bs R K p a b w y → P 96 [.inr (26, 0), .inl p, .inl a, .inl (cv p a), .inl b, .inl w, .inl y] [] τ := by
                    intro n
                    induction n with
                    | zero =>
                      intro y b hn3 y0 y1 bs
                      have X := lh (w + 1) b (by omega) (by omega) (by omega) (Bs_n bs (fun g g0 g1 => by omega))
                      (refine go (t := tb_X5_solves) (WPd_mono d) hP 60 [7, 13, 67, 96, 183] ?_; (conv => whnf); (repeat' (first | (refine ⟨fun _ => ?_, fun _ => ?_⟩ <;> first | (exfalso; omega) | (conv => whnf)) | (refine ⟨by omega, ?_⟩; conv => whnf) | (intro _; conv => whnf))))
                      (refine hT 6 ?_; exact X)
                    | succ n oh =>
                      intro y b hn3 y0 y1 bs
                      have bb := bs.1
                      by_cases c2 : a + w + y ≤ 600
                      · have rg : rngK K p (w, y) := ⟨⟨w0, by omega⟩, ⟨y0, by omega⟩⟩
                        have st := st_b hw (p := p) (by omega) rg
                        have ye := yr_st hw (p := p) (by omega) rg
                        have r1 := hR (a + w + y) (by omega) c2
                        have r2 := Mn_le r1
                        have r3 := Mn_0 r1 (by omega) (fun c hc => (cAt_b hw hac (by omega) hc).1)
                        have e31 : τ 31 0 (601 * (p + 1) + a + w + y) = R (a + w + y) := by
                          rw [← eR]
                          congr 1
                          omega
                        have X := fun h => oh (y + 1) (yrC K w y + R (a + w + y)) (by omega) (by omega) (by omega) (Bs_s1 bs rg c2 (by omega) (by omega) h)
                        have Y := fun h => oh (y + 1) b (by omega) (by omega) (by omega) (Bs_s2 (v := yrC K w y + R (a + w + y)) bs (by omega) h)
                        (refine go (t := tb_X5_solves) (WPd_mono d) hP 60 [7, 13, 67, 96, 183] ?_; (conv => whnf); (repeat' (first | (refine ⟨fun _ => ?_, fun _ => ?_⟩ <;> first | (exfalso; omega) | (conv => whnf)) | (refine ⟨by omega, ?_⟩; conv => whnf) | (intro _; conv => whnf))))
                        refine t_X5_yearsCost (K := K) (by omega) (by rw [f27]; exact hK) (by omega) ?_
                        ((conv => whnf); (repeat' (first | (refine ⟨fun _ => ?_, fun _ => ?_⟩ <;> first | (exfalso; omega) | (conv => whnf)) | (refine ⟨by omega, ?_⟩; conv => whnf) | (intro _; conv => whnf))))
                        · (refine hT 7 ?_; exact (Y (by omega)))
                        · rw [e31]
                          (refine hT 7 ?_; exact (X (by omega)))
                      · have X := lh (w + 1) b (by omega) (by omega) (by omega) (Bs_n bs (fun g g0 g1 => by omega))
                        (refine go (t := tb_X5_solves) (WPd_mono d) hP 60 [7, 13, 67, 96, 183] ?_; (conv => whnf); (repeat' (first | (refine ⟨fun _ => ?_, fun _ => ?_⟩ <;> first | (exfalso; omega) | (conv => whnf)) | (refine ⟨by omega, ?_⟩; conv => whnf) | (intro _; conv => whnf))))
                        (refine hT 6 ?_; exact X)
                  have X := L96 _ 0 b rfl (by omega) (by omega) bs
                  (refine go (t := tb_X5_solves) (WPd_mono d) hP 60 [7, 13, 67, 96, 183] ?_; (conv => whnf); (repeat' (first | (refine ⟨fun _ => ?_, fun _ => ?_⟩ <;> first | (exfalso; omega) | (conv => whnf)) | (refine ⟨by omega, ?_⟩; conv => whnf) | (intro _; conv => whnf))))
                  refine t_X5_mostOwn (by omega) (by omega) ?_
                  rw [f27, ← v1]
                  ((conv => whnf); (repeat' (first | (refine ⟨fun _ => ?_, fun _ => ?_⟩ <;> first | (exfalso; omega) | (conv => whnf)) | (refine ⟨by omega, ?_⟩; conv => whnf) | (intro _; conv => whnf))))
                  exact X
                · have X := T183 b w bs.1 (fun h => absurd h c)
                  (refine go (t := tb_X5_solves) (WPd_mono d) hP 60 [7, 13, 67, 96, 183] ?_; (conv => whnf); (repeat' (first | (refine ⟨fun _ => ?_, fun _ => ?_⟩ <;> first | (exfalso; omega) | (conv => whnf)) | (refine ⟨by omega, ?_⟩; conv => whnf) | (intro _; conv => whnf))))
                  refine t_X5_mostOwn (by omega) (by omega) ?_
                  rw [f27, ← v1]
                  ((conv => whnf); (repeat' (first | (refine ⟨fun _ => ?_, fun _ => ?_⟩ <;> first | (exfalso; omega) | (conv => whnf)) | (refine ⟨by omega, ?_⟩; conv => whnf) | (intro _; conv => whnf))))
                  exact X
            have X := L67 _ _ 100000000 rfl (by omega) (by omega) (Bs_0 R K p a)
            (refine go (t := tb_X5_solves) (WPd_mono d) hP 60 [7, 13, 67, 96, 183] ?_; (conv => whnf); (repeat' (first | (refine ⟨fun _ => ?_, fun _ => ?_⟩ <;> first | (exfalso; omega) | (conv => whnf)) | (refine ⟨by omega, ?_⟩; conv => whnf) | (intro _; conv => whnf))))
            refine tA (by omega) (by rw [f27]; exact hK) (mdR_cg hM (fun j j0 j1 => by rw [fr 26 0 (by decide)])) (by omega) (by omega) ?_
            ((conv => whnf); (repeat' (first | (refine ⟨fun _ => ?_, fun _ => ?_⟩ <;> first | (exfalso; omega) | (conv => whnf)) | (refine ⟨by omega, ?_⟩; conv => whnf) | (intro _; conv => whnf))))
            refine t_X5_leastOwn (by omega) (by omega) ?_
            rw [f27, ← v1]
            ((conv => whnf); (repeat' (first | (refine ⟨fun _ => ?_, fun _ => ?_⟩ <;> first | (exfalso; omega) | (conv => whnf)) | (refine ⟨by omega, ?_⟩; conv => whnf) | (intro _; conv => whnf))))
            exact X
      have X := L13 _ 0 τ0 rfl (by omega) (by omega) fr0 iv0 (fun x x0 x1 => by omega)
      (refine go (t := tb_X5_solves) (WPd_mono d) hP 60 [7, 13, 67, 96, 183] ?_; (conv => whnf); (repeat' (first | (refine ⟨fun _ => ?_, fun _ => ?_⟩ <;> first | (exfalso; omega) | (conv => whnf)) | (refine ⟨by omega, ?_⟩; conv => whnf) | (intro _; conv => whnf))))
      exact X
  have X := L7 _ (K 7 0) σ rfl (by omega) (by omega) (fun _ _ _ => rfl) (fun m q x q0 q1 => by omega)
  (refine go (t := tb_X5_solves) (WPd_mono d) hP 60 [7, 13, 67, 96, 183] ?_; (conv => whnf); (repeat' (first | (refine ⟨fun _ => ?_, fun _ => ?_⟩ <;> first | (exfalso; omega) | (conv => whnf)) | (refine ⟨by omega, ?_⟩; conv => whnf) | (intro _; conv => whnf))))
  rw [n2]
  exact X
