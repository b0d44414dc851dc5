/-! THE MODEL: falls -/
def Fs (S V : Int → Int) (K : KV) (p : Nat) (x0 w y : Int) : Prop := ∀ b, 0 ≤ b → b ≤ 600 → (0 ≤ V b ∧ V b ≤ 100000000) ∧ (∀ x o g cw, 0 ≤ x → x ≤ 600 → rngK K p (o, g) → x + o + g = b → acK K (p + 1) b = some cw → (x < x0 ∨ (x = x0 ∧ (o < w ∨ (o = w ∧ g < y)))) → V b ≤ S x + stK K p (o, g) + cw) ∧ (V b = 100000000 ∨ ∃ x o g cw, (0 ≤ x ∧ x ≤ 600) ∧ rngK K p (o, g) ∧ x + o + g = b ∧ acK K (p + 1) b = some cw ∧ V b = S x + stK K p (o, g) + cw)
theorem Fs_0 {S V : Int → Int} {K : KV} {p : Nat} (hV : ∀ b, 0 ≤ b → b ≤ 600 → V b = 100000000) : Fs S V K p 0 (lo (K 1 p)) 0 := fun b b0 b1 => by
  have e := hV b b0 b1
  refine ⟨by omega, fun x o g cw x0 x1 hr hb hc h => ?_, Or.inl e⟩
  have r1 := hr.1
  have r2 := hr.2
  dsimp only at r1 r2
  omega
theorem Fs_n {S V : Int → Int} {K : KV} {p : Nat} {x0 w y : Int} (h : Fs S V K p x0 w y) (hn : ∀ g, y ≤ g → g ≤ K 2 p → ¬ x0 + w + g ≤ 600) : Fs S V K p x0 (w + 1) 0 := fun b b0 b1 => by
  obtain ⟨h1, h2, h3⟩ := h b b0 b1
  refine ⟨h1, fun x o g cw x0' x1 hr hb hc hh => h2 x o g cw x0' x1 hr hb hc ?_, h3⟩
  clear h3
  have r2 := hr.2
  dsimp only at r2
  rcases hh with z | ⟨z1, z2⟩
  · exact Or.inl z
  · refine Or.inr ⟨z1, ?_⟩
    by_cases c : o = w
    · by_cases c2 : g < y
      · exact Or.inr ⟨c, c2⟩
      · exfalso
        have := hn g (by omega) r2.2
        omega
    · exact Or.inl (by omega)
theorem Fs_a {S V : Int → Int} {K : KV} {p : Nat} {x0 : Int} (h : Fs S V K p x0 (hi (K 1 p) + 1) 0) : Fs S V K p (x0 + 1) (lo (K 1 p)) 0 := fun b b0 b1 => by
  obtain ⟨h1, h2, h3⟩ := h b b0 b1
  refine ⟨h1, fun x o g cw x0' x1 hr hb hc hh => h2 x o g cw x0' x1 hr hb hc ?_, h3⟩
  clear h3
  have r1 := hr.1
  have r2 := hr.2
  dsimp only at r1 r2
  omega
theorem Fs_k {S V : Int → Int} {K : KV} (hK : WFK K) {p : Nat} (hp : p < K 7 0) {x0 w y : Int} (h : Fs S V K p x0 w y) (hw : w = lo (K 1 p) ∧ y = 0) (hS : 100000000 ≤ S x0) : Fs S V K p (x0 + 1) (lo (K 1 p)) 0 := fun b b0 b1 => by
  obtain ⟨h1, h2, h3⟩ := h b b0 b1
  refine ⟨h1, fun x o g cw x0' x1 hr hb hc hh => ?_, h3⟩
  clear h3
  have r1 := hr.1
  have r2 := hr.2
  dsimp only at r1 r2
  by_cases c : x = x0
  · have st := st_b hK (p := p) (by omega) hr
    have ab := acK_b hK _ _ _ hc
    rw [c]
    omega
  · exact h2 x o g cw x0' x1 hr hb hc (Or.inl (by omega))
theorem Fs_s {S V V' : Int → Int} {K : KV} {p : Nat} {x0 w y : Int} (h : Fs S V K p x0 w y) (h0 : 0 ≤ x0) (h6 : x0 ≤ 600) (hr : rngK K p (w, y)) (hB : 0 ≤ x0 + w + y ∧ x0 + w + y ≤ 600) (hV : ∀ b, b ≠ x0 + w + y → V' b = V b) (hh : (acK K (p + 1) (x0 + w + y) = none ∧ V' (x0 + w + y) = V (x0 + w + y)) ∨ ∃ cw, acK K (p + 1) (x0 + w + y) = some cw ∧ 0 ≤ S x0 + stK K p (w, y) + cw ∧ V' (x0 + w + y) = min (S x0 + stK K p (w, y) + cw) (V (x0 + w + y))) : Fs S V' K p x0 w (y + 1) := fun b b0 b1 => by
  obtain ⟨h1, h2, h3⟩ := h b b0 b1
  by_cases c : b = x0 + w + y
  · rcases hh with ⟨e1, e2⟩ | ⟨cw, e1, e0, e2⟩
    · rw [c] at h1 h2 h3 ⊢
      rw [e2]
      refine ⟨h1, fun x o g cw' _ _ _ _ hc _ => ?_, h3⟩
      rw [e1] at hc
      cases hc
    · rw [c] at h1 h2 h3 ⊢
      refine ⟨by clear h3; omega, fun x o g cw' x0' x1 hr' hb hc hh' => ?_, ?_⟩
      · clear h3
        rw [e1] at hc
        cases hc
        by_cases c2 : x = x0 ∧ o = w
        · have : g = y := by omega
          subst this
          rw [c2.1, c2.2]
          omega
        · have := h2 x o g cw x0' x1 hr' hb e1 (by omega)
          omega
      · by_cases c2 : V (x0 + w + y) ≤ S x0 + stK K p (w, y) + cw
        · rw [e2, Int.min_eq_right c2]
          exact h3
        · rw [e2, Int.min_eq_left (by clear h3; omega)]
          exact Or.inr ⟨x0, w, y, cw, ⟨h0, h6⟩, hr, rfl, e1, rfl⟩
  · rw [hV b c]
    refine ⟨h1, fun x o g cw' x0' x1 hr' hb hc hh' => h2 x o g cw' x0' x1 hr' hb hc ?_, h3⟩
    clear h3 hh
    omega
theorem Fs_e {S V : Int → Int} {K : KV} (hK : WFK K) {p : Nat} (hp : p < K 7 0) (h : Fs S V K p 601 (lo (K 1 p)) 0) (hS : ∀ x, 0 ≤ x → x ≤ 600 → Mn (pAt K (acK K) 600 p x) 100000000 (S x)) {b : Int} (b0 : 0 ≤ b) (b1 : b ≤ 600) : Mn (pAt K (acK K) 600 (p + 1) b) 100000000 (V b) := by
  obtain ⟨h1, h2, h3⟩ := h b b0 b1
  have ep : ((p + 1 : Nat) : Int) = (p : Int) + 1 := rfl
  cases e : acK K (p + 1) b with
  | none =>
    have no : ∀ c, ¬ pAt K (acK K) 600 (p + 1) b c := by
      rintro c ⟨w, c', q, _⟩
      rw [ep, e] at q
      cases q
    refine ⟨fun c hc => absurd hc (no c), Or.inl ⟨?_, no⟩⟩
    rcases h3 with z | ⟨x, o, g, cw, _, _, _, z, _⟩
    · exact z
    · rw [e] at z
      cases z
  | some cw =>
    have ab := acK_b hK _ _ _ e
    refine Mn_un (I := fun i : Int × Int => rngK K p i ∧ 0 ≤ b - i.1 - i.2 ∧ b ≤ 600) (x := fun i => S (b - i.1 - i.2)) (k := fun i => stK K p i + cw) (Si := fun i => pAt K (acK K) 600 p (b - i.1 - i.2)) ?_ (fun c => ?_) ?_ h1.2 ?_ ?_
    · clear h3
      rintro ⟨o, g⟩ ⟨hr, hn, hb⟩
      have st := st_b hK (p := p) (by omega) hr
      have r1 := hr.1
      have r2 := hr.2
      have bl := lo_b (K 1 p)
      dsimp only at r1 r2 hn ⊢
      exact ⟨hS _ hn (by omega), by omega⟩
    · clear h3
      constructor
      · rintro ⟨w, c', q, hc, e2⟩
        rw [ep, e] at q
        cases q
        obtain ⟨i, hi, c2, hc2, e3⟩ := (pre_S hK (acK_g hK) hp).1 hc
        exact ⟨i, hi, c2, hc2, by omega⟩
      · rintro ⟨i, hi, c2, hc2, e3⟩
        exact ⟨cw, c2 + stK K p i, e, (pre_S hK (acK_g hK) hp).2 ⟨i, hi, c2, hc2, rfl⟩, by omega⟩
    · clear h3
      intro c hc
      have := pAt_b hK (acK_g hK) (by omega) hc
      omega
    · clear h3
      rintro ⟨o, g⟩ ⟨hr, hn, hb⟩
      have r1 := hr.1
      have r2 := hr.2
      have bl := lo_b (K 1 p)
      dsimp only at r1 r2 hn ⊢
      have := h2 (b - o - g) o g cw hn (by omega) hr (by omega) e (Or.inl (by omega))
      omega
    · rcases h3 with z | ⟨x, o, g, cw', hx, hr, hs, z, z2⟩
      · exact Or.inl z
      · rw [e] at z
        cases z
        refine Or.inr ⟨(o, g), ⟨hr, ?_, b1⟩, ?_⟩
        · dsimp only
          omega
        · dsimp only
          rw [show b - o - g = x by omega]
          omega
theorem pAt_0 {K : KV} (hK : WFK K) {a v : Int} (hv : v = if a = 0 then 0 else 100000000) : Mn (pAt K (acK K) 600 0 a) 100000000 v := by
  by_cases c : a = 0
  · rw [if_pos c] at hv
    subst c
    refine ⟨fun x hx => ?_, Or.inr ⟨by omega, 0, 0, acK_z hK, ⟨rfl, rfl⟩, by omega⟩⟩
    have := (pAt_b hK (acK_g hK) (by have := hK.1; omega) hx).1
    omega
  · rw [if_neg c] at hv
    have no : ∀ x, ¬ pAt K (acK K) 600 0 a x := by
      rintro x ⟨w, c', q, hc, _⟩
      exact c (show a = 0 ∧ c' = 0 from hc).1
    exact ⟨fun x hx => absurd hx (no x), Or.inl ⟨hv, no⟩⟩
theorem t_X5_falls {d : Nat} (hd : 3 ≤ d) {σ : Sto} {Q : Post} {K : KV} {last : Nat} (hK : vwM (σ 27 0) = K) (hw : WFK K) (hM : mdR σ (-1) (-1) 0 0 0) (hl : (last : Int) ≤ K 7 0) (hq : ∀ σ', (∀ k i, k ≠ 32 → σ' k i = σ k i) → (∀ a, 0 ≤ a → a ≤ 600 → Mn (pAt K (acK K) 600 last a) 100000000 (σ' 32 0 (601 * last + a))) → Q none σ') : WPd d m_X5_falls [.inr (26, 0), .inl last] σ Q := by
  obtain ⟨d, rfl⟩ : ∃ k, d = k + 1 := ⟨d - 1, by omega⟩
  refine wpd_of fun P hT hP => ?_
  have hn := hw.1
  have n2 : σ 27 0 0 = K 7 0 := by rw [← hK, vm_n]
  have L33 : ∀ (n p : Nat) (τ : Sto), p + n = last → (∀ k i, k ≠ 32 → τ k i = σ k i) → (∀ a, 0 ≤ a → a ≤ 600 → Mn (pAt K (acK K) 600 p a) 100000000 (τ 32 0 (601 * p + a))) → P 33 [.inr (26, 0), .inl last, .inl p] [] τ := by
    intro n
    induction n with
    | zero =>
      intro p τ hn0 fr iv
      have e : p = last := by omega
      subst e
      have X := hq τ fr iv
      (refine go (t := tb_X5_falls) (WPd_mono d) hP 90 [2, 33, 40, 71, 99, 119] ?_; (conv => whnf); (repeat' (first | (refine ⟨fun _ => ?_, fun _ => ?_⟩ <;> first | (exfalso; omega) | (conv => whnf)) | (refine ⟨by omega, ?_⟩; conv => whnf) | (intro _; conv => whnf))))
      exact X
    | succ n ih =>
      intro p τ hn0 fr iv
      have hp : (p : Int) < K 7 0 := by omega
      obtain ⟨S, eS⟩ : ∃ S : Int → Int, ∀ x, τ 32 0 (601 * p + x) = S x := ⟨_, fun _ => rfl⟩
      have hS : ∀ x, 0 ≤ x → x ≤ 600 → Mn (pAt K (acK K) 600 p x) 100000000 (S x) := fun x x0 x1 => by
        rw [← eS]
        exact iv x x0 x1
      have hS0 : ∀ x, 0 ≤ x → x ≤ 600 → 0 ≤ S x ∧ S x ≤ 100000000 := fun x x0 x1 => ⟨Mn_0 (hS x x0 x1) (by decide) (fun c hc => (pAt_b hw (acK_g hw) (by omega) hc).1), Mn_le (hS x x0 x1)⟩
      obtain ⟨-, v1, v2⟩ := (vm_in (f := σ 27 0)).1 (show (0 : Int) ≤ p by omega) (by omega)
      rw [hK] at v1 v2
      have bl := lo_b (K 1 p)
      have bh := hi_b (K 1 p)
      have mb := (hw.2.2.1 p (by omega) hp).2.2
      have L71 : ∀ (n : Nat) (a : Int) (ρ : Sto), n = (601 - a).toNat → 0 ≤ a → a ≤ 601 → (∀ k i, k ≠ 32 → ρ k i = σ k i) → (∀ x, 0 ≤ x → x ≤ 600 → ρ 32 0 (601 * p + x) = S x) → Fs S (fun b => ρ 32 0 (601 * (p + 1) + b)) K p a (lo (K 1 p)) 0 → P 71 [.inr (26, 0), .inl last, .inl p, .inl a] [] ρ := by
        intro n
        induction n with
        | zero =>
          intro a ρ hn1 a0 a1 fr2 hs fs
          have e : a = 601 := by omega
          subst e
          have X := ih (p + 1) ρ (by omega) fr2 (fun b b0 b1 => Fs_e hw hp fs hS b0 b1)
          (refine go (t := tb_X5_falls) (WPd_mono d) hP 90 [2, 33, 40, 71, 99, 119] ?_; (conv => whnf); (repeat' (first | (refine ⟨fun _ => ?_, fun _ => ?_⟩ <;> first | (exfalso; omega) | (conv => whnf)) | (refine ⟨by omega, ?_⟩; conv => whnf) | (intro _; conv => whnf))))
          (refine hT 3 ?_; exact X)
        | succ n kh =>
          intro a ρ0 hn1 a0 a1 fr2 hs0 fs0
          have sa := hS0 a a0 (by omega)
          have L99 : ∀ (k : Nat) (w : Int) (ρ : Sto), k = (hi (K 1 p) + 1 - w).toNat → lo (K 1 p) ≤ w → w ≤ hi (K 1 p) + 1 → (∀ k i, k ≠ 32 → ρ k i = σ k i) → (∀ x, 0 ≤ x → x ≤ 600 → ρ 32 0 (601 * p + x) = S x) → (S a < 100000000 ∨ w = lo (K 1 p)) → Fs S (fun b => ρ 32 0 (601 * (p + 1) + b)) K p a w 0 → P 99 [.inr (26, 0), .inl last, .inl p, .inl a, .inl (S a), .inl w] [] ρ := by
            intro k
            induction k with
            | zero =>
              intro w ρ hk w0 w1 fr hs sw fs
              have f27 : ρ 27 0 = σ 27 0 := fr 27 0 (by decide)
              have e : w = hi (K 1 p) + 1 := by omega
              rw [e] at fs
              have X := kh (a + 1) ρ (by omega) (by omega) (by omega) fr hs (Fs_a fs)
              (refine go (t := tb_X5_falls) (WPd_mono d) hP 90 [2, 33, 40, 71, 99, 119] ?_; (conv => whnf); (repeat' (first | (refine ⟨fun _ => ?_, fun _ => ?_⟩ <;> first | (exfalso; omega) | (conv => whnf)) | (refine ⟨by omega, ?_⟩; conv => whnf) | (intro _; conv => whnf))))
              refine t_X5_mostOwn (by omega) (by omega) ?_
              rw [f27, ← v1]
              ((conv => whnf); (repeat' (first | (refine ⟨fun _ => ?_, fun _ => ?_⟩ <;> first | (exfalso; omega) | (conv => whnf)) | (refine ⟨by omega, ?_⟩; conv => whnf) | (intro _; conv => whnf))))
              (refine hT 4 ?_; exact X)
            | succ k lh =>
              intro w ρ hk w0 w1 fr hs sw fs
              have f27 : ρ 27 0 = σ 27 0 := fr 27 0 (by decide)
              by_cases c : S a < 100000000
              · have L119 : ∀ (j : Nat) (y : Int) (ρ : Sto), j = (K 2 p + 1 - y).toNat → 0 ≤ y → y ≤ K 2 p + 1 → (∀ k i, k ≠ 32 → ρ k i = σ k i) → (∀ x, 0 ≤ x → x ≤ 600 → ρ 32 0 (601 * p + x) = S x) → Fs S (fun b => ρ 32 0 (601 * (p + 1) + b)) K p a w y → P 119 [.inr (26, 0), .inl last, .inl p, .inl a, .inl (S a), .inl w, .inl y] [] ρ := by
                  intro j
                  induction j with
                  | zero =>
                    intro y ρ hj y0 y1 fr hs fs
                    have f2 : ρ 27 0 (101 + p) = K 2 p := by rw [fr 27 0 (by decide)]; exact v2.symm
                    have X := lh (w + 1) ρ (by omega) (by omega) (by omega) fr hs (Or.inl c) (Fs_n fs (fun g g0 g1 => by omega))
                    (refine go (t := tb_X5_falls) (WPd_mono d) hP 90 [2, 33, 40, 71, 99, 119] ?_; (conv => whnf); (repeat' (first | (refine ⟨fun _ => ?_, fun _ => ?_⟩ <;> first | (exfalso; omega) | (conv => whnf)) | (refine ⟨by omega, ?_⟩; conv => whnf) | (intro _; conv => whnf))))
                    (refine hT 6 ?_; exact X)
                  | succ j oh =>
                    intro y ρ hj y0 y1 fr hs fs
                    have f27 : ρ 27 0 = σ 27 0 := fr 27 0 (by decide)
                    have f2 : ρ 27 0 (101 + p) = K 2 p := by rw [f27]; exact v2.symm
                    by_cases c2 : a + w + y ≤ 600
                    · have rg : rngK K p (w, y) := ⟨⟨w0, by omega⟩, ⟨y0, by omega⟩⟩
                      have st := st_b hw (p := p) (by omega) rg
                      have ye := yr_st hw (p := p) (by omega) rg
                      have cva := acN_av hw (l := -1) (mp := -1) (ma := 0) (mu := 0) (wi := 0) (by decide) (by decide) (p + 1) (a + w + y)
                      rw [acG_K (by omega)] at cva
                      obtain ⟨cv, ecv⟩ : ∃ cv, acN K (-1) (-1) 0 0 0 (p + 1) (a + w + y) = cv := ⟨_, rfl⟩
                      rw [ecv] at cva
                      have vb := (fs (a + w + y) (by omega) c2).1
                      dsimp only at vb
                      have fin : ∀ v, ((acK K (p + 1) (a + w + y) = none ∧ v = ρ 32 0 (601 * (p + 1) + (a + w + y))) ∨ ∃ cw, acK K (p + 1) (a + w + y) = some cw ∧ 0 ≤ S a + stK K p (w, y) + cw ∧ v = min (S a + stK K p (w, y) + cw) (ρ 32 0 (601 * (p + 1) + (a + w + y)))) → P 119 [.inr (26, 0), .inl last, .inl p, .inl a, .inl (S a), .inl w, .inl (y + 1)] [] (upS ρ 32 0 (601 * (p + 1) + (a + w + y)) v) := fun v hv => by
                        refine oh (y + 1) _ (by clear hv; omega) (by clear hv; omega) (by clear hv; omega) (fun k i hk => by rw [up_k hk]; exact fr k i hk) (fun x x0 x1 => ?_) ?_
                        · rw [up_j (by clear hv; omega)]
                          exact hs x x0 x1
                        · refine Fs_s fs a0 (by clear hv; omega) rg (by clear hv; omega) (fun b hb => up_j (by clear hv; omega)) ?_
                          rw [up_hit]
                          exact hv
                      have ix : 601 * ((p : Int) + 1) + (a + w + y) = 601 * (p + 1) + (a + w + y) := rfl
                      rcases cva.1 with ⟨z1, z2⟩ | ⟨z1, z2, z3⟩
                      · have X := fin _ (Or.inl ⟨z1, rfl⟩)
                        (refine go (t := tb_X5_falls) (WPd_mono d) hP 90 [2, 33, 40, 71, 99, 119] ?_; (conv => whnf); (repeat' (first | (refine ⟨fun _ => ?_, fun _ => ?_⟩ <;> first | (exfalso; omega) | (conv => whnf)) | (refine ⟨by omega, ?_⟩; conv => whnf) | (intro _; conv => whnf))))
                        refine t_X5_ashCost (K := K) (l := -1) (mp := -1) (ma := 0) (mu := 0) (wi := 0) (by omega) (by rw [f27]; exact hK) hw (mdR_cg hM (fun j _ _ => by rw [fr 26 0 (by decide)])) (by omega) (by omega) ?_
                        rw [ecv]
                        ((conv => whnf); (repeat' (first | (refine ⟨fun _ => ?_, fun _ => ?_⟩ <;> first | (exfalso; omega) | (conv => whnf)) | (refine ⟨by omega, ?_⟩; conv => whnf) | (intro _; conv => whnf))))
                        refine t_X5_yearsCost (K := K) (by omega) (by rw [f27]; exact hK) (by omega) ?_
                        ((conv => whnf); (repeat' (first | (refine ⟨fun _ => ?_, fun _ => ?_⟩ <;> first | (exfalso; omega) | (conv => whnf)) | (refine ⟨by omega, ?_⟩; conv => whnf) | (intro _; conv => whnf))))
                        (refine hT 7 ?_; exact X)
                      · have X := fin _ (Or.inr ⟨cv, z1, by omega, rfl⟩)
                        rw [← ye] at X
                        by_cases c3 : S a + yrC K w y + cv < ρ 32 0 (601 * (p + 1) + (a + w + y))
                        · rw [Int.min_eq_left (by omega)] at X
                          (refine go (t := tb_X5_falls) (WPd_mono d) hP 90 [2, 33, 40, 71, 99, 119] ?_; (conv => whnf); (repeat' (first | (refine ⟨fun _ => ?_, fun _ => ?_⟩ <;> first | (exfalso; omega) | (conv => whnf)) | (refine ⟨by omega, ?_⟩; conv => whnf) | (intro _; conv => whnf))))
                          refine t_X5_ashCost (K := K) (l := -1) (mp := -1) (ma := 0) (mu := 0) (wi := 0) (by omega) (by rw [f27]; exact hK) hw (mdR_cg hM (fun j _ _ => by rw [fr 26 0 (by decide)])) (by omega) (by omega) ?_
                          rw [ecv]
                          ((conv => whnf); (repeat' (first | (refine ⟨fun _ => ?_, fun _ => ?_⟩ <;> first | (exfalso; omega) | (conv => whnf)) | (refine ⟨by omega, ?_⟩; conv => whnf) | (intro _; conv => whnf))))
                          refine t_X5_yearsCost (K := K) (by omega) (by rw [f27]; exact hK) (by omega) ?_
                          ((conv => whnf); (repeat' (first | (refine ⟨fun _ => ?_, fun _ => ?_⟩ <;> first | (exfalso; omega) | (conv => whnf)) | (refine ⟨by omega, ?_⟩; conv => whnf) | (intro _; conv => whnf))))
                          (refine hT 7 ?_; exact X)
                        · rw [Int.min_eq_right (by omega)] at X
                          (refine go (t := tb_X5_falls) (WPd_mono d) hP 90 [2, 33, 40, 71, 99, 119] ?_; (conv => whnf); (repeat' (first | (refine ⟨fun _ => ?_, fun _ => ?_⟩ <;> first | (exfalso; omega) | (conv => whnf)) | (refine ⟨by omega, ?_⟩; conv => whnf) | (intro _; conv => whnf))))
                          refine t_X5_ashCost (K := K) (l := -1) (mp := -1) (ma := 0) (mu := 0) (wi := 0) (by omega) (by rw [f27]; exact hK) hw (mdR_cg hM (fun j _ _ => by rw [fr 26 0 (by decide)])) (by omega) (by omega) ?_
                          rw [ecv]
                          ((conv => whnf); (repeat' (first | (refine ⟨fun _ => ?_, fun _ => ?_⟩ <;> first | (exfalso; omega) | (conv => whnf)) | (refine ⟨by omega, ?_⟩; conv => whnf) | (intro _; conv => whnf))))
                          refine t_X5_yearsCost (K := K) (by omega) (by rw [f27]; exact hK) (by omega) ?_
                          ((conv => whnf); (repeat' (first | (refine ⟨fun _ => ?_, fun _ => ?_⟩ <;> first | (exfalso; omega) | (conv => whnf)) | (refine ⟨by omega, ?_⟩; conv => whnf) | (intro _; conv => whnf))))
                          (refine hT 7 ?_; exact X)
                    · have X := lh (w + 1) ρ (by omega) (by omega) (by omega) fr hs (Or.inl c) (Fs_n fs (fun g g0 g1 => by omega))
                      (refine go (t := tb_X5_falls) (WPd_mono d) hP 90 [2, 33, 40, 71, 99, 119] ?_; (conv => whnf); (repeat' (first | (refine ⟨fun _ => ?_, fun _ => ?_⟩ <;> first | (exfalso; omega) | (conv => whnf)) | (refine ⟨by omega, ?_⟩; conv => whnf) | (intro _; conv => whnf))))
                      (refine hT 6 ?_; exact X)
                have X := L119 _ 0 ρ rfl (by omega) (by omega) fr hs fs
                (refine go (t := tb_X5_falls) (WPd_mono d) hP 90 [2, 33, 40, 71, 99, 119] ?_; (conv => whnf); (repeat' (first | (refine ⟨fun _ => ?_, fun _ => ?_⟩ <;> first | (exfalso; omega) | (conv => whnf)) | (refine ⟨by omega, ?_⟩; conv => whnf) | (intro _; conv => whnf))))
                refine t_X5_mostOwn (by omega) (by omega) ?_
                rw [f27, ← v1]
                ((conv => whnf); (repeat' (first | (refine ⟨fun _ => ?_, fun _ => ?_⟩ <;> first | (exfalso; omega) | (conv => whnf)) | (refine ⟨by omega, ?_⟩; conv => whnf) | (intro _; conv => whnf))))
                exact X
              · have X := kh (a + 1) ρ (by omega) (by omega) (by omega) fr hs (Fs_k hw hp fs ⟨by omega, rfl⟩ (by omega))
                (refine go (t := tb_X5_falls) (WPd_mono d) hP 90 [2, 33, 40, 71, 99, 119] ?_; (conv => whnf); (repeat' (first | (refine ⟨fun _ => ?_, fun _ => ?_⟩ <;> first | (exfalso; omega) | (conv => whnf)) | (refine ⟨by omega, ?_⟩; conv => whnf) | (intro _; conv => whnf))))
                refine t_X5_mostOwn (by omega) (by omega) ?_
                rw [f27, ← v1]
                ((conv => whnf); (repeat' (first | (refine ⟨fun _ => ?_, fun _ => ?_⟩ <;> first | (exfalso; omega) | (conv => whnf)) | (refine ⟨by omega, ?_⟩; conv => whnf) | (intro _; conv => whnf))))
                (refine hT 4 ?_; exact X)
          have X := L99 _ _ ρ0 rfl (by omega) (by omega) fr2 hs0 (Or.inr rfl) fs0
          have ea := hs0 a a0 (by omega)
          have f27 : ρ0 27 0 = σ 27 0 := fr2 27 0 (by decide)
          (refine go (t := tb_X5_falls) (WPd_mono d) hP 90 [2, 33, 40, 71, 99, 119] ?_; (conv => whnf); (repeat' (first | (refine ⟨fun _ => ?_, fun _ => ?_⟩ <;> first | (exfalso; omega) | (conv => whnf)) | (refine ⟨by omega, ?_⟩; conv => whnf) | (intro _; conv => whnf))))
          rw [ea]
          refine t_X5_leastOwn (by omega) (by omega) ?_
          rw [f27, ← v1]
          ((conv => whnf); (repeat' (first | (refine ⟨fun _ => ?_, fun _ => ?_⟩ <;> first | (exfalso; omega) | (conv => whnf)) | (refine ⟨by omega, ?_⟩; conv => whnf) | (intro _; conv => whnf))))
          exact X
      have L40 : ∀ (n : Nat) (a : Int) (ρ : Sto), n = (601 - a).toNat → 0 ≤ a → a ≤ 601 → (∀ k i, k ≠ 32 → ρ k i = σ k i) → (∀ x, 0 ≤ x → x ≤ 600 → ρ 32 0 (601 * p + x) = S x) → (∀ b, 0 ≤ b → b < a → ρ 32 0 (601 * (p + 1) + b) = 100000000) → P 40 [.inr (26, 0), .inl last, .inl p, .inl a] [] ρ := by
        intro n
        induction n with
        | zero =>
          intro a ρ hn1 a0 a1 fr2 hs hb
          have X := L71 _ 0 ρ rfl (by omega) (by omega) fr2 hs (Fs_0 (fun b b0 b1 => hb b b0 (by omega)))
          (refine go (t := tb_X5_falls) (WPd_mono d) hP 90 [2, 33, 40, 71, 99, 119] ?_; (conv => whnf); (repeat' (first | (refine ⟨fun _ => ?_, fun _ => ?_⟩ <;> first | (exfalso; omega) | (conv => whnf)) | (refine ⟨by omega, ?_⟩; conv => whnf) | (intro _; conv => whnf))))
          exact X
        | succ n kh =>
          intro a ρ hn1 a0 a1 fr2 hs hb
          have X := kh (a + 1) (upS ρ 32 0 (601 * (p + 1) + a) 100000000) (by omega) (by omega) (by omega) (fun k i hk => by rw [up_k hk]; exact fr2 k i hk) (fun x x0 x1 => by rw [up_j (by omega)]; exact hs x x0 x1) (fun b b0 b1 => by
            by_cases c : b = a
            · rw [c, up_hit]
            · rw [up_j (by omega)]
              exact hb b b0 (by omega))
          (refine go (t := tb_X5_falls) (WPd_mono d) hP 90 [2, 33, 40, 71, 99, 119] ?_; (conv => whnf); (repeat' (first | (refine ⟨fun _ => ?_, fun _ => ?_⟩ <;> first | (exfalso; omega) | (conv => whnf)) | (refine ⟨by omega, ?_⟩; conv => whnf) | (intro _; conv => whnf))))
          exact X
      have X := L40 _ 0 τ rfl (by omega) (by omega) fr (fun x _ _ => eS x) (fun b b0 b1 => by omega)
      (refine go (t := tb_X5_falls) (WPd_mono d) hP 90 [2, 33, 40, 71, 99, 119] ?_; (conv => whnf); (repeat' (first | (refine ⟨fun _ => ?_, fun _ => ?_⟩ <;> first | (exfalso; omega) | (conv => whnf)) | (refine ⟨by omega, ?_⟩; conv => whnf) | (intro _; conv => whnf))))
      (refine hT 4 ?_; exact X)
  have L2 : ∀ (n : Nat) (i : Int) (τ : Sto), n = (601 - i).toNat → 0 ≤ i → i ≤ 601 → (∀ k i, k ≠ 32 → τ k i = σ k i) → (∀ x, 0 ≤ x → x < i → τ 32 0 x = if x = 0 then 0 else 100000000) → P 2 [.inr (26, 0), .inl last, .inl i] [] τ := by
    intro n
    induction n with
    | zero =>
      intro i τ hn0 i0 i1 fr iv
      have X := L33 last 0 τ (by omega) fr (fun a a0 a1 => by
        have e : 601 * ((0 : Nat) : Int) + a = a := by omega
        rw [e]
        exact pAt_0 hw (iv a a0 (by omega)))
      (refine go (t := tb_X5_falls) (WPd_mono d) hP 90 [2, 33, 40, 71, 99, 119] ?_; (conv => whnf); (repeat' (first | (refine ⟨fun _ => ?_, fun _ => ?_⟩ <;> first | (exfalso; omega) | (conv => whnf)) | (refine ⟨by omega, ?_⟩; conv => whnf) | (intro _; conv => whnf))))
      exact X
    | succ n kh =>
      intro i τ hn0 i0 i1 fr iv
      have X := kh (i + 1) (upS τ 32 0 i (if i = 0 then 0 else 100000000)) (by omega) (by omega) (by omega) (fun k i hk => by rw [up_k hk]; exact fr k i hk) (fun x x0 x1 => by
        by_cases c : x = i
        · rw [c, up_hit]
        · rw [up_j c]
          exact iv x x0 (by omega))
      by_cases c : i = 0
      · rw [if_pos c] at X
        (refine go (t := tb_X5_falls) (WPd_mono d) hP 90 [2, 33, 40, 71, 99, 119] ?_; (conv => whnf); (repeat' (first | (refine ⟨fun _ => ?_, fun _ => ?_⟩ <;> first | (exfalso; omega) | (conv => whnf)) | (refine ⟨by omega, ?_⟩; conv => whnf) | (intro _; conv => whnf))))
        exact X
      · rw [if_neg c] at X
        (refine go (t := tb_X5_falls) (WPd_mono d) hP 90 [2, 33, 40, 71, 99, 119] ?_; (conv => whnf); (repeat' (first | (refine ⟨fun _ => ?_, fun _ => ?_⟩ <;> first | (exfalso; omega) | (conv => whnf)) | (refine ⟨by omega, ?_⟩; conv => whnf) | (intro _; conv => whnf))))
        exact X
  (refine go (t := tb_X5_falls) (WPd_mono d) hP 90 [2, 33, 40, 71, 99, 119] ?_; (conv => whnf); (repeat' (first | (refine ⟨fun _ => ?_, fun _ => ?_⟩ <;> first | (exfalso; omega) | (conv => whnf)) | (refine ⟨by omega, ?_⟩; conv => whnf) | (intro _; conv => whnf))))
  exact L2 _ 0 σ rfl (by omega) (by omega) (fun _ _ _ => rfl) (fun x x0 x1 => by omega)
