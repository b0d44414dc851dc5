/-! THE RECKONING: missing years by a queue -/
def QI (F : Int → Int) (G M : Int) (q : Int → Int) (f e s : Int) : Prop := (∀ i, f ≤ i → i < e → 0 ≤ q i ∧ q i < s) ∧ (∀ i j, f ≤ i → i ≤ j → j < e → F (q i) - q i * G ≤ F (q j) - q j * G) ∧ (∀ y, 0 ≤ y → s - 1 - M ≤ y → y < s → ∃ i, f ≤ i ∧ i < e ∧ y ≤ q i ∧ F (q i) - q i * G ≤ F y - y * G)
def QP (F : Int → Int) (G M : Int) (q : Int → Int) (f e s : Int) : Prop := (∀ i, f ≤ i → i < e → 0 ≤ q i ∧ q i < s) ∧ (∀ i j, f ≤ i → i ≤ j → j < e → F (q i) - q i * G ≤ F (q j) - q j * G) ∧ (∀ y, 0 ≤ y → s - M ≤ y → y < s → (∃ i, f ≤ i ∧ i < e ∧ y ≤ q i ∧ F (q i) - q i * G ≤ F y - y * G) ∨ F s - s * G ≤ F y - y * G)
theorem QI_P {F : Int → Int} {G M : Int} {q : Int → Int} {f e s : Int} (h : QI F G M q f e s) : QP F G M q f e s := ⟨h.1, h.2.1, fun y y0 y1 y2 => Or.inl (h.2.2 y y0 (by omega) y2)⟩
theorem QP_pop {F : Int → Int} {G M : Int} {q : Int → Int} {f e s : Int} (h : QP F G M q f e s) (hk : F s - s * G ≤ F (q (e - 1)) - q (e - 1) * G) : QP F G M q f (e - 1) s := by
  refine ⟨fun i i0 i1 => h.1 i i0 (by omega), fun i j i0 i1 i2 => h.2.1 i j i0 i1 (by omega), fun y y0 y1 y2 => ?_⟩
  rcases h.2.2 y y0 y1 y2 with ⟨i, i0, i1, i2, i3⟩ | z
  · by_cases c : i = e - 1
    · subst c
      exact Or.inr (by omega)
    · exact Or.inl ⟨i, i0, by omega, i2, i3⟩
  · exact Or.inr z
theorem QP_push {F : Int → Int} {G M : Int} {q q' : Int → Int} {f e s : Int} (h : QP F G M q f e s) (h0 : 0 ≤ s) (hfe : f ≤ e) (hk : f = e ∨ F (q (e - 1)) - q (e - 1) * G ≤ F s - s * G) (h1 : q' e = s) (h2 : ∀ i, i ≠ e → q' i = q i) : QI F G M q' f (e + 1) (s + 1) := by
  refine ⟨fun i i0 i1 => ?_, fun i j i0 i1 i2 => ?_, fun y y0 y1 y2 => ?_⟩
  · by_cases c : i = e
    · rw [c, h1]
      omega
    · rw [h2 i c]
      have := h.1 i i0 (by omega)
      omega
  · by_cases c : j = e
    · by_cases c2 : i = e
      · rw [c, c2]
        omega
      · rw [c, h1, h2 i c2]
        have := h.2.1 i (e - 1) i0 (by omega) (by omega)
        omega
    · rw [h2 j c, h2 i (by omega)]
      exact h.2.1 i j i0 i1 (by omega)
  · have top : F s - s * G ≤ F y - y * G → ∃ i, f ≤ i ∧ i < e + 1 ∧ y ≤ q' i ∧ F (q' i) - q' i * G ≤ F y - y * G := fun z => ⟨e, by omega, by omega, by rw [h1]; omega, by rw [h1]; exact z⟩
    by_cases c : y = s
    · exact top (by rw [c]; omega)
    · rcases h.2.2 y y0 (by omega) (by omega) with ⟨i, i0, i1, i2, i3⟩ | z
      · exact ⟨i, i0, by omega, by rw [h2 i (by omega)]; exact i2, by rw [h2 i (by omega)]; exact i3⟩
      · exact top z
theorem QI_adv {F : Int → Int} {G M : Int} {q : Int → Int} {f e s : Int} (h : QI F G M q f e (s + 1)) (hk : q f < s - M) : QI F G M q (f + 1) e (s + 1) := by
  refine ⟨fun i i0 i1 => h.1 i (by omega) i1, fun i j i0 i1 i2 => h.2.1 i j (by omega) i1 i2, fun y y0 y1 y2 => ?_⟩
  obtain ⟨i, i0, i1, i2, i3⟩ := h.2.2 y y0 y1 y2
  by_cases c : i = f
  · subst c
    omega
  · exact ⟨i, by omega, i1, i2, i3⟩
theorem QI_win {F : Int → Int} {G M : Int} {q : Int → Int} {f e s : Int} (h : QI F G M q f e (s + 1)) (hfe : f < e) : ∀ y, 0 ≤ y → s - M ≤ y → y ≤ s → F (q f) + (s - q f) * G ≤ F y + (s - y) * G := fun y y0 y1 y2 => by
  obtain ⟨i, i0, i1, i2, i3⟩ := h.2.2 y y0 (by omega) (by omega)
  have a := h.2.1 f i (by omega) i0 i1
  rw [Int.sub_mul, Int.sub_mul]
  omega
theorem WinU_of {F V : Int → Int} {G M B s r qf : Int} (hF : ∀ q, F q = V (B - q)) (hr : r = min 268435456 (F qf + (s - qf) * G)) (hy : ∀ y, 0 ≤ y → s - M ≤ y → y ≤ s → F qf + (s - qf) * G ≤ F y + (s - y) * G) (hq : 0 ≤ qf ∧ s - M ≤ qf ∧ qf ≤ s) : WinU V G M B r (B - s) := by
  refine ⟨by omega, fun g g0 g1 g2 => ?_, ?_⟩
  · have := hy (s - g) (by omega) (by omega) (by omega)
    rw [hF (s - g), show B - (s - g) = B - s + g by omega, show s - (s - g) = g by omega] at this
    omega
  · by_cases c : r = 268435456
    · exact Or.inl c
    · refine Or.inr ⟨s - qf, by omega, by omega, ?_⟩
      rw [show B - s + (s - qf) = B - qf by omega, ← hF]
      omega
theorem WinD_of {F V : Int → Int} {G M s r qf : Int} (hF : ∀ q, F q = V q) (hr : r = min 268435456 (F qf + (s - qf) * G)) (hy : ∀ y, 0 ≤ y → s - M ≤ y → y ≤ s → F qf + (s - qf) * G ≤ F y + (s - y) * G) (hq : 0 ≤ qf ∧ s - M ≤ qf ∧ qf ≤ s) : WinD V G M r s := by
  refine ⟨by omega, fun g g0 g1 g2 => ?_, ?_⟩
  · have := hy (s - g) (by omega) (by omega) (by omega)
    rw [hF (s - g), show s - (s - g) = g by omega] at this
    omega
  · by_cases c : r = 268435456
    · exact Or.inl c
    · refine Or.inr ⟨s - qf, by omega, by omega, ?_⟩
      rw [show s - (s - qf) = qf by omega, ← hF]
      omega
theorem t_X2_costFromD {d : Nat} (hd : 2 ≤ d) {σ : Sto} {Q : Post} {q s : Int} (hq : 0 ≤ q ∧ q ≤ 600) (h : Q (some (.inl (σ 9 0 q + (s - q) * σ 23 0 2))) σ) : WPd d m_X2_costFrom [.inr (3, 0), .inl q, .inl s, .inl 1] σ Q := by
  obtain ⟨d, rfl⟩ : ∃ k, d = k + 1 := ⟨d - 1, by omega⟩
  intro P hP
  (refine go (t := tb_X2_costFrom) (WPd_mono d) hP 40 [] ?_; (conv => whnf); (repeat' (first | (refine ⟨fun _ => ?_, fun _ => ?_⟩ <;> first | (exfalso; omega) | (conv => whnf)) | (refine ⟨by omega, ?_⟩; conv => whnf) | (intro _; conv => whnf))))
  refine t_X0_missingCost (by omega) ?_
  ((conv => whnf); (repeat' (first | (refine ⟨fun _ => ?_, fun _ => ?_⟩ <;> first | (exfalso; omega) | (conv => whnf)) | (refine ⟨by omega, ?_⟩; conv => whnf) | (intro _; conv => whnf))))
  exact h
theorem t_X2_costFromU {d : Nat} (hd : 2 ≤ d) {σ : Sto} {Q : Post} {q s : Int} (hq : 0 ≤ σ 3 0 11 - q ∧ σ 3 0 11 - q ≤ 600) (h : Q (some (.inl (σ 9 0 (σ 3 0 11 - q) + (s - q) * σ 23 0 2))) σ) : WPd d m_X2_costFrom [.inr (3, 0), .inl q, .inl s, .inl 0] σ Q := by
  obtain ⟨d, rfl⟩ : ∃ k, d = k + 1 := ⟨d - 1, by omega⟩
  intro P hP
  (refine go (t := tb_X2_costFrom) (WPd_mono d) hP 40 [] ?_; (conv => whnf); (repeat' (first | (refine ⟨fun _ => ?_, fun _ => ?_⟩ <;> first | (exfalso; omega) | (conv => whnf)) | (refine ⟨by omega, ?_⟩; conv => whnf) | (intro _; conv => whnf))))
  refine t_X0_missingCost (by omega) ?_
  ((conv => whnf); (repeat' (first | (refine ⟨fun _ => ?_, fun _ => ?_⟩ <;> first | (exfalso; omega) | (conv => whnf)) | (refine ⟨by omega, ?_⟩; conv => whnf) | (intro _; conv => whnf))))
  exact h
theorem t_X2_addMissingCostsU {d : Nat} (hd : 3 ≤ d) {σ : Sto} {Q : Post} {K : KV} {p B : Int} {k : Nat} {c : Int} (hk : k = 24 ∨ k = 25) (hK : vwC σ 0 = K) (hw : WFK K) (hp : 0 ≤ p ∧ p < K 7 0) (hB : σ 3 0 11 = B) (ho : 0 ≤ B ∧ B ≤ 600) (hV : ∀ a, 0 ≤ a → a ≤ B → 0 ≤ σ 9 0 a ∧ σ 9 0 a ≤ 268435456) (hq : ∀ σ', (∀ k' i', k' ≠ 10 → ¬ (k' = k ∧ i' = c) → σ' k' i' = σ k' i') → (∀ a, 0 ≤ a → a ≤ B → WinU (σ 9 0) (K 6 2) (K 2 p) B (σ' k c a) a) → Q none σ') : WPd d m_X2_addMissingCosts [.inr (3, 0), .inl p, .inl 0, .inr (k, c)] σ Q := by
  obtain ⟨d, rfl⟩ : ∃ k, d = k + 1 := ⟨d - 1, by omega⟩
  refine wpd_of fun P hT hP => ?_
  have hl : lenI k = some 601 := by rcases hk with rfl | rfl <;> rfl
  subst hK
  have mb := (hw.2.2.1 p hp.1 hp.2).2.2
  rw [vw_n] at hp
  have hn := hw.1
  rw [vw_n] at hn
  obtain ⟨-, -, v2⟩ := (vw_in (σ := σ) (c := 0)).1 hp.1 hp.2
  have h62 : vwC σ 0 6 2 = σ 23 0 2 := (vw_in (σ := σ) (c := 0)).2.2 (by omega) (by omega)
  have gb := hw.2.2.2.2.2 2 (by omega) (by omega)
  obtain ⟨G, eG⟩ : ∃ G, σ 23 0 2 = G := ⟨_, rfl⟩
  obtain ⟨M, eM⟩ : ∃ M, σ 19 0 p = M := ⟨_, rfl⟩
  obtain ⟨F, hF⟩ : ∃ F : Int → Int, ∀ q, F q = σ 9 0 (B - q) := ⟨_, fun _ => rfl⟩
  rw [v2, eM] at mb
  rw [h62, eG] at gb
  rw [v2, eM, h62, eG] at hq
  have hFb : ∀ q, 0 ≤ q → q ≤ B → 0 ≤ F q ∧ F q ≤ 268435456 := fun q q0 q1 => by rw [hF]; exact hV (B - q) (by omega) (by omega)
  have L9 : ∀ (n : Nat) (s f e : Int) (ρ : Sto), n = (B + 1 - s).toNat → 0 ≤ s → s ≤ B + 1 → 0 ≤ f → f ≤ e → e ≤ s → (∀ k' i', k' ≠ 10 → ¬ (k' = k ∧ i' = c) → ρ k' i' = σ k' i') → (∀ a, B - s < a → a ≤ B → WinU (σ 9 0) G M B (ρ k c a) a) → QI F G M (ρ 10 0) f e s → P 9 [.inr (3, 0), .inl p, .inl 0, .inr (k, c), .inl f, .inl e, .inl s] [] ρ := by
    intro n
    induction n with
    | zero =>
      intro s f e ρ hn0 s0 s1 f0 f1 f2 fr dn qi
      have f3 : ρ 3 0 11 = B := by rw [fr 3 0 (by decide) (by omega)]; exact hB
      have f9 : ρ 9 0 = σ 9 0 := fr 9 0 (by decide) (by omega)
      have f23 : ρ 23 0 2 = G := by rw [fr 23 0 (by decide) (by omega)]; exact eG
      have f19 : ρ 19 0 p = M := by rw [fr 19 0 (by decide) (by omega)]; exact eM

      (refine go (t := tb_X2_addMissingCosts) (WPd_mono d) hP 60 [9, 36, 75, 87, 124] ?_; (conv => whnf); (repeat' (first | (refine ⟨fun _ => ?_, fun _ => ?_⟩ <;> first | (exfalso; omega) | (conv => whnf)) | (refine ⟨by omega, ?_⟩; conv => whnf) | (intro _; conv => whnf))))
      exact hq ρ fr (fun a a0 a1 => dn a (by omega) (by omega))
    | succ n ih =>
      intro s f' e' ρ' hn0 s0 s1 f0' f1' f2' fr' dn' qi'
      have EX : ∀ (f e : Int) (ρ : Sto), 0 ≤ f → f < e → e ≤ s + 1 → (∀ k' i', k' ≠ 10 → ¬ (k' = k ∧ i' = c) → ρ k' i' = σ k' i') → (∀ a, B - s < a → a ≤ B → WinU (σ 9 0) G M B (ρ k c a) a) → QI F G M (ρ 10 0) f e (s + 1) → s - M ≤ ρ 10 0 f → P 124 [.inr (3, 0), .inl p, .inl 0, .inr (k, c), .inl f, .inl e, .inl s, .inl (B - s)] [] ρ := by
        intro f e ρ f0 f1 f2 fr dn qi hf
        have f3 : ρ 3 0 11 = B := by rw [fr 3 0 (by decide) (by omega)]; exact hB
        have f9 : ρ 9 0 = σ 9 0 := fr 9 0 (by decide) (by omega)
        have f23 : ρ 23 0 2 = G := by rw [fr 23 0 (by decide) (by omega)]; exact eG
        have f19 : ρ 19 0 p = M := by rw [fr 19 0 (by decide) (by omega)]; exact eM

        have qb := qi.1 f (by omega) f1
        have hm := mul_b (g := s - ρ 10 0 f) (x := G) (G := 600) (X := 50) (by omega) (by omega) gb.1 gb.2
        have fb := hFb (ρ 10 0 f) qb.1 (by omega)
        (refine go (t := tb_X2_addMissingCosts) (WPd_mono d) hP 60 [9, 36, 75, 87, 124] ?_; (conv => whnf); (repeat' (first | (refine ⟨fun _ => ?_, fun _ => ?_⟩ <;> first | (exfalso; omega) | (conv => whnf)) | (refine ⟨by omega, ?_⟩; conv => whnf) | (intro _; conv => whnf))))
        refine t_X2_costFromU (by omega) (by omega) ?_
        rw [f9, f3, f23, ← hF]
        ((conv => whnf); (repeat' (first | (refine ⟨fun _ => ?_, fun _ => ?_⟩ <;> first | (exfalso; omega) | (conv => whnf)) | (refine ⟨by omega, ?_⟩; conv => whnf) | (intro _; conv => whnf))))
        simp only [hl]
        ((conv => whnf); (repeat' (first | (refine ⟨fun _ => ?_, fun _ => ?_⟩ <;> first | (exfalso; omega) | (conv => whnf)) | (refine ⟨by omega, ?_⟩; conv => whnf) | (intro _; conv => whnf))))
        refine hT 7 ?_
        refine ih (s + 1) f e _ (by omega) (by omega) (by omega) f0 (by omega) (by omega) (fun k' i' h1 h2 => ?_) (fun a a0 a1 => ?_) ?_
        · funext j
          rw [show upS ρ k c _ _ k' i' j = ρ k' i' j from if_neg fun e => h2 ⟨e.1, e.2.1⟩, fr k' i' h1 h2]
        · by_cases ea : a = (B - s)
          · subst ea
            rw [up_hit]
            exact WinU_of hF rfl (QI_win qi f1) (by omega)
          · rw [up_j ea]
            exact dn a (by omega) (by omega)
        · rw [show upS ρ k c (B - s) _ 10 0 = ρ 10 0 from up_k (by omega)]
          exact qi
      have L87 : ∀ (m : Nat) (f e : Int) (ρ : Sto), m = (e - 1 - f).toNat → 0 ≤ f → f < e → e ≤ s + 1 → (∀ k' i', k' ≠ 10 → ¬ (k' = k ∧ i' = c) → ρ k' i' = σ k' i') → (∀ a, B - s < a → a ≤ B → WinU (σ 9 0) G M B (ρ k c a) a) → QI F G M (ρ 10 0) f e (s + 1) → ρ 10 0 (e - 1) = s → P 87 [.inr (3, 0), .inl p, .inl 0, .inr (k, c), .inl f, .inl e, .inl s, .inl (B - s)] [] ρ := by
        intro m
        induction m with
        | zero =>
          intro f e ρ hm f0 f1 f2 fr dn qi hf
          have X := EX f e ρ f0 f1 f2 fr dn qi (by rw [show f = e - 1 by omega, hf]; omega)
          (refine go (t := tb_X2_addMissingCosts) (WPd_mono d) hP 60 [9, 36, 75, 87, 124] ?_; (conv => whnf); (repeat' (first | (refine ⟨fun _ => ?_, fun _ => ?_⟩ <;> first | (exfalso; omega) | (conv => whnf)) | (refine ⟨by omega, ?_⟩; conv => whnf) | (intro _; conv => whnf))))
          exact X
        | succ m jh =>
          intro f e ρ hm f0 f1 f2 fr dn qi hf
          have f3 : ρ 3 0 11 = B := by rw [fr 3 0 (by decide) (by omega)]; exact hB
          have f9 : ρ 9 0 = σ 9 0 := fr 9 0 (by decide) (by omega)
          have f23 : ρ 23 0 2 = G := by rw [fr 23 0 (by decide) (by omega)]; exact eG
          have f19 : ρ 19 0 p = M := by rw [fr 19 0 (by decide) (by omega)]; exact eM

          have qb := qi.1 f (by omega) f1
          have X := EX f e ρ f0 f1 f2 fr dn qi
          have Y := fun h => jh (f + 1) e ρ (by omega) (by omega) (by omega) f2 fr dn (QI_adv qi h) hf
          (refine go (t := tb_X2_addMissingCosts) (WPd_mono d) hP 60 [9, 36, 75, 87, 124] ?_; (conv => whnf); (repeat' (first | (refine ⟨fun _ => ?_, fun _ => ?_⟩ <;> first | (exfalso; omega) | (conv => whnf)) | (refine ⟨by omega, ?_⟩; conv => whnf) | (intro _; conv => whnf))))
          all_goals first | exact X (by omega) | exact Y (by omega)
      have L75 : ∀ (e : Int) (ρ : Sto), f' ≤ e → e ≤ s → (∀ k' i', k' ≠ 10 → ¬ (k' = k ∧ i' = c) → ρ k' i' = σ k' i') → (∀ a, B - s < a → a ≤ B → WinU (σ 9 0) G M B (ρ k c a) a) → QP F G M (ρ 10 0) f' e s → (f' = e ∨ F (ρ 10 0 (e - 1)) - ρ 10 0 (e - 1) * G ≤ F s - s * G) → P 75 [.inr (3, 0), .inl p, .inl 0, .inr (k, c), .inl f', .inl e, .inl s, .inl (B - s)] [] ρ := by
        intro e ρ f1 f2 fr dn qp hf
        (refine go (t := tb_X2_addMissingCosts) (WPd_mono d) hP 60 [9, 36, 75, 87, 124] ?_; (conv => whnf); (repeat' (first | (refine ⟨fun _ => ?_, fun _ => ?_⟩ <;> first | (exfalso; omega) | (conv => whnf)) | (refine ⟨by omega, ?_⟩; conv => whnf) | (intro _; conv => whnf))))
        refine L87 _ f' (e + 1) _ rfl (by omega) (by omega) (by omega) (fun k' i' h1 h2 => by rw [up_k h1]; exact fr k' i' h1 h2) (fun a a0 a1 => ?_) (QP_push qp (by omega) f1 hf up_hit (fun i hi => up_j hi)) (by rw [show e + 1 - 1 = e by omega]; exact up_hit)
        rw [up_k (by omega)]
        exact dn a a0 a1
      have L36 : ∀ (m : Nat) (e : Int) (ρ : Sto), m = (e - f').toNat → f' ≤ e → e ≤ s → (∀ k' i', k' ≠ 10 → ¬ (k' = k ∧ i' = c) → ρ k' i' = σ k' i') → (∀ a, B - s < a → a ≤ B → WinU (σ 9 0) G M B (ρ k c a) a) → QP F G M (ρ 10 0) f' e s → P 36 [.inr (3, 0), .inl p, .inl 0, .inr (k, c), .inl f', .inl e, .inl s, .inl (B - s)] [] ρ := by
        intro m
        induction m with
        | zero =>
          intro e ρ hm f1 f2 fr dn qp
          have X := L75 e ρ f1 f2 fr dn qp (Or.inl (by omega))
          (refine go (t := tb_X2_addMissingCosts) (WPd_mono d) hP 60 [9, 36, 75, 87, 124] ?_; (conv => whnf); (repeat' (first | (refine ⟨fun _ => ?_, fun _ => ?_⟩ <;> first | (exfalso; omega) | (conv => whnf)) | (refine ⟨by omega, ?_⟩; conv => whnf) | (intro _; conv => whnf))))
          exact X
        | succ m jh =>
          intro e ρ hm f1 f2 fr dn qp
          have f3 : ρ 3 0 11 = B := by rw [fr 3 0 (by decide) (by omega)]; exact hB
          have f9 : ρ 9 0 = σ 9 0 := fr 9 0 (by decide) (by omega)
          have f23 : ρ 23 0 2 = G := by rw [fr 23 0 (by decide) (by omega)]; exact eG
          have f19 : ρ 19 0 p = M := by rw [fr 19 0 (by decide) (by omega)]; exact eM

          have qb := qp.1 (e - 1) (by omega) (by omega)
          have hm := mul_b (g := s - ρ 10 0 (e - 1)) (x := G) (G := 600) (X := 50) (by omega) (by omega) gb.1 gb.2
          have fb := hFb (ρ 10 0 (e - 1)) qb.1 (by omega)
          have fs := hFb s (by omega) (by omega)
          have ex : (s - ρ 10 0 (e - 1)) * G = s * G - ρ 10 0 (e - 1) * G := Int.sub_mul ..
          have fw : F s = ρ 9 0 (B - s) := by rw [hF, f9]
          have X := fun h => L75 e ρ f1 f2 fr dn qp (Or.inr h)
          have Y := fun h => jh (e - 1) ρ (by omega) (by omega) (by omega) fr dn (QP_pop qp h)
          (refine go (t := tb_X2_addMissingCosts) (WPd_mono d) hP 60 [9, 36, 75, 87, 124] ?_; (conv => whnf); (repeat' (first | (refine ⟨fun _ => ?_, fun _ => ?_⟩ <;> first | (exfalso; omega) | (conv => whnf)) | (refine ⟨by omega, ?_⟩; conv => whnf) | (intro _; conv => whnf))))
          refine t_X2_costFromU (by omega) (by omega) ?_
          rw [f9, f3, f23, ← hF]
          ((conv => whnf); (repeat' (first | (refine ⟨fun _ => ?_, fun _ => ?_⟩ <;> first | (exfalso; omega) | (conv => whnf)) | (refine ⟨by omega, ?_⟩; conv => whnf) | (intro _; conv => whnf))))
          all_goals first | exact X (by omega) | exact Y (by omega)
      have f3 : ρ' 3 0 11 = B := by rw [fr' 3 0 (by decide) (by omega)]; exact hB
      have X := L36 _ e' ρ' rfl f1' f2' fr' dn' (QI_P qi')
      (refine go (t := tb_X2_addMissingCosts) (WPd_mono d) hP 60 [9, 36, 75, 87, 124] ?_; (conv => whnf); (repeat' (first | (refine ⟨fun _ => ?_, fun _ => ?_⟩ <;> first | (exfalso; omega) | (conv => whnf)) | (refine ⟨by omega, ?_⟩; conv => whnf) | (intro _; conv => whnf))))
      rw [f3]
      exact X
  (refine go (t := tb_X2_addMissingCosts) (WPd_mono d) hP 60 [9, 36, 75, 87, 124] ?_; (conv => whnf); (repeat' (first | (refine ⟨fun _ => ?_, fun _ => ?_⟩ <;> first | (exfalso; omega) | (conv => whnf)) | (refine ⟨by omega, ?_⟩; conv => whnf) | (intro _; conv => whnf))))
  refine L9 _ 0 0 0 σ rfl (by omega) (by omega) (by omega) (by omega) (by omega) (fun _ _ _ _ => rfl) (fun a a0 a1 => by omega) ⟨fun i i0 i1 => by omega, fun i j i0 i1 i2 => by omega, fun y y0 y1 y2 => by omega⟩
theorem t_X2_addMissingCostsD {d : Nat} (hd : 3 ≤ d) {σ : Sto} {Q : Post} {K : KV} {p B : Int} {k : Nat} {c : Int} (hk : k = 24 ∨ k = 25) (hK : vwC σ 0 = K) (hw : WFK K) (hp : 0 ≤ p ∧ p < K 7 0) (hB : σ 3 0 11 = B) (ho : 0 ≤ B ∧ B ≤ 600) (hV : ∀ a, 0 ≤ a → a ≤ B → 0 ≤ σ 9 0 a ∧ σ 9 0 a ≤ 268435456) (hq : ∀ σ', (∀ k' i', k' ≠ 10 → ¬ (k' = k ∧ i' = c) → σ' k' i' = σ k' i') → (∀ a, 0 ≤ a → a ≤ B → WinD (σ 9 0) (K 6 2) (K 2 p) (σ' k c a) a) → Q none σ') : WPd d m_X2_addMissingCosts [.inr (3, 0), .inl p, .inl 1, .inr (k, c)] σ Q := by
  obtain ⟨d, rfl⟩ : ∃ k, d = k + 1 := ⟨d - 1, by omega⟩
  refine wpd_of fun P hT hP => ?_
  have hl : lenI k = some 601 := by rcases hk with rfl | rfl <;> rfl
  subst hK
  have mb := (hw.2.2.1 p hp.1 hp.2).2.2
  rw [vw_n] at hp
  have hn := hw.1
  rw [vw_n] at hn
  obtain ⟨-, -, v2⟩ := (vw_in (σ := σ) (c := 0)).1 hp.1 hp.2
  have h62 : vwC σ 0 6 2 = σ 23 0 2 := (vw_in (σ := σ) (c := 0)).2.2 (by omega) (by omega)
  have gb := hw.2.2.2.2.2 2 (by omega) (by omega)
  obtain ⟨G, eG⟩ : ∃ G, σ 23 0 2 = G := ⟨_, rfl⟩
  obtain ⟨M, eM⟩ : ∃ M, σ 19 0 p = M := ⟨_, rfl⟩
  obtain ⟨F, hF⟩ : ∃ F : Int → Int, ∀ q, F q = σ 9 0 q := ⟨_, fun _ => rfl⟩
  rw [v2, eM] at mb
  rw [h62, eG] at gb
  rw [v2, eM, h62, eG] at hq
  have hFb : ∀ q, 0 ≤ q → q ≤ B → 0 ≤ F q ∧ F q ≤ 268435456 := fun q q0 q1 => by rw [hF]; exact hV q q0 q1
  have L9 : ∀ (n : Nat) (s f e : Int) (ρ : Sto), n = (B + 1 - s).toNat → 0 ≤ s → s ≤ B + 1 → 0 ≤ f → f ≤ e → e ≤ s → (∀ k' i', k' ≠ 10 → ¬ (k' = k ∧ i' = c) → ρ k' i' = σ k' i') → (∀ a, 0 ≤ a → a < s → WinD (σ 9 0) G M (ρ k c a) a) → QI F G M (ρ 10 0) f e s → P 9 [.inr (3, 0), .inl p, .inl 1, .inr (k, c), .inl f, .inl e, .inl s] [] ρ := by
    intro n
    induction n with
    | zero =>
      intro s f e ρ hn0 s0 s1 f0 f1 f2 fr dn qi
      have f3 : ρ 3 0 11 = B := by rw [fr 3 0 (by decide) (by omega)]; exact hB
      have f9 : ρ 9 0 = σ 9 0 := fr 9 0 (by decide) (by omega)
      have f23 : ρ 23 0 2 = G := by rw [fr 23 0 (by decide) (by omega)]; exact eG
      have f19 : ρ 19 0 p = M := by rw [fr 19 0 (by decide) (by omega)]; exact eM

      (refine go (t := tb_X2_addMissingCosts) (WPd_mono d) hP 60 [9, 36, 75, 87, 124] ?_; (conv => whnf); (repeat' (first | (refine ⟨fun _ => ?_, fun _ => ?_⟩ <;> first | (exfalso; omega) | (conv => whnf)) | (refine ⟨by omega, ?_⟩; conv => whnf) | (intro _; conv => whnf))))
      exact hq ρ fr (fun a a0 a1 => dn a (by omega) (by omega))
    | succ n ih =>
      intro s f' e' ρ' hn0 s0 s1 f0' f1' f2' fr' dn' qi'
      have EX : ∀ (f e : Int) (ρ : Sto), 0 ≤ f → f < e → e ≤ s + 1 → (∀ k' i', k' ≠ 10 → ¬ (k' = k ∧ i' = c) → ρ k' i' = σ k' i') → (∀ a, 0 ≤ a → a < s → WinD (σ 9 0) G M (ρ k c a) a) → QI F G M (ρ 10 0) f e (s + 1) → s - M ≤ ρ 10 0 f → P 124 [.inr (3, 0), .inl p, .inl 1, .inr (k, c), .inl f, .inl e, .inl s, .inl s] [] ρ := by
        intro f e ρ f0 f1 f2 fr dn qi hf
        have f3 : ρ 3 0 11 = B := by rw [fr 3 0 (by decide) (by omega)]; exact hB
        have f9 : ρ 9 0 = σ 9 0 := fr 9 0 (by decide) (by omega)
        have f23 : ρ 23 0 2 = G := by rw [fr 23 0 (by decide) (by omega)]; exact eG
        have f19 : ρ 19 0 p = M := by rw [fr 19 0 (by decide) (by omega)]; exact eM

        have qb := qi.1 f (by omega) f1
        have hm := mul_b (g := s - ρ 10 0 f) (x := G) (G := 600) (X := 50) (by omega) (by omega) gb.1 gb.2
        have fb := hFb (ρ 10 0 f) qb.1 (by omega)
        (refine go (t := tb_X2_addMissingCosts) (WPd_mono d) hP 60 [9, 36, 75, 87, 124] ?_; (conv => whnf); (repeat' (first | (refine ⟨fun _ => ?_, fun _ => ?_⟩ <;> first | (exfalso; omega) | (conv => whnf)) | (refine ⟨by omega, ?_⟩; conv => whnf) | (intro _; conv => whnf))))
        refine t_X2_costFromD (by omega) (by omega) ?_
        rw [f9, f23, ← hF]
        ((conv => whnf); (repeat' (first | (refine ⟨fun _ => ?_, fun _ => ?_⟩ <;> first | (exfalso; omega) | (conv => whnf)) | (refine ⟨by omega, ?_⟩; conv => whnf) | (intro _; conv => whnf))))
        simp only [hl]
        ((conv => whnf); (repeat' (first | (refine ⟨fun _ => ?_, fun _ => ?_⟩ <;> first | (exfalso; omega) | (conv => whnf)) | (refine ⟨by omega, ?_⟩; conv => whnf) | (intro _; conv => whnf))))
        refine hT 7 ?_
        refine ih (s + 1) f e _ (by omega) (by omega) (by omega) f0 (by omega) (by omega) (fun k' i' h1 h2 => ?_) (fun a a0 a1 => ?_) ?_
        · funext j
          rw [show upS ρ k c _ _ k' i' j = ρ k' i' j from if_neg fun e => h2 ⟨e.1, e.2.1⟩, fr k' i' h1 h2]
        · by_cases ea : a = s
          · subst ea
            rw [up_hit]
            exact WinD_of hF rfl (QI_win qi f1) (by omega)
          · rw [up_j ea]
            exact dn a (by omega) (by omega)
        · rw [show upS ρ k c s _ 10 0 = ρ 10 0 from up_k (by omega)]
          exact qi
      have L87 : ∀ (m : Nat) (f e : Int) (ρ : Sto), m = (e - 1 - f).toNat → 0 ≤ f → f < e → e ≤ s + 1 → (∀ k' i', k' ≠ 10 → ¬ (k' = k ∧ i' = c) → ρ k' i' = σ k' i') → (∀ a, 0 ≤ a → a < s → WinD (σ 9 0) G M (ρ k c a) a) → QI F G M (ρ 10 0) f e (s + 1) → ρ 10 0 (e - 1) = s → P 87 [.inr (3, 0), .inl p, .inl 1, .inr (k, c), .inl f, .inl e, .inl s, .inl s] [] ρ := by
        intro m
        induction m with
        | zero =>
          intro f e ρ hm f0 f1 f2 fr dn qi hf
          have X := EX f e ρ f0 f1 f2 fr dn qi (by rw [show f = e - 1 by omega, hf]; omega)
          (refine go (t := tb_X2_addMissingCosts) (WPd_mono d) hP 60 [9, 36, 75, 87, 124] ?_; (conv => whnf); (repeat' (first | (refine ⟨fun _ => ?_, fun _ => ?_⟩ <;> first | (exfalso; omega) | (conv => whnf)) | (refine ⟨by omega, ?_⟩; conv => whnf) | (intro _; conv => whnf))))
          exact X
        | succ m jh =>
          intro f e ρ hm f0 f1 f2 fr dn qi hf
          have f3 : ρ 3 0 11 = B := by rw [fr 3 0 (by decide) (by omega)]; exact hB
          have f9 : ρ 9 0 = σ 9 0 := fr 9 0 (by decide) (by omega)
          have f23 : ρ 23 0 2 = G := by rw [fr 23 0 (by decide) (by omega)]; exact eG
          have f19 : ρ 19 0 p = M := by rw [fr 19 0 (by decide) (by omega)]; exact eM

          have qb := qi.1 f (by omega) f1
          have X := EX f e ρ f0 f1 f2 fr dn qi
          have Y := fun h => jh (f + 1) e ρ (by omega) (by omega) (by omega) f2 fr dn (QI_adv qi h) hf
          (refine go (t := tb_X2_addMissingCosts) (WPd_mono d) hP 60 [9, 36, 75, 87, 124] ?_; (conv => whnf); (repeat' (first | (refine ⟨fun _ => ?_, fun _ => ?_⟩ <;> first | (exfalso; omega) | (conv => whnf)) | (refine ⟨by omega, ?_⟩; conv => whnf) | (intro _; conv => whnf))))
          all_goals first | exact X (by omega) | exact Y (by omega)
      have L75 : ∀ (e : Int) (ρ : Sto), f' ≤ e → e ≤ s → (∀ k' i', k' ≠ 10 → ¬ (k' = k ∧ i' = c) → ρ k' i' = σ k' i') → (∀ a, 0 ≤ a → a < s → WinD (σ 9 0) G M (ρ k c a) a) → QP F G M (ρ 10 0) f' e s → (f' = e ∨ F (ρ 10 0 (e - 1)) - ρ 10 0 (e - 1) * G ≤ F s - s * G) → P 75 [.inr (3, 0), .inl p, .inl 1, .inr (k, c), .inl f', .inl e, .inl s, .inl s] [] ρ := by
        intro e ρ f1 f2 fr dn qp hf
        (refine go (t := tb_X2_addMissingCosts) (WPd_mono d) hP 60 [9, 36, 75, 87, 124] ?_; (conv => whnf); (repeat' (first | (refine ⟨fun _ => ?_, fun _ => ?_⟩ <;> first | (exfalso; omega) | (conv => whnf)) | (refine ⟨by omega, ?_⟩; conv => whnf) | (intro _; conv => whnf))))
        refine L87 _ f' (e + 1) _ rfl (by omega) (by omega) (by omega) (fun k' i' h1 h2 => by rw [up_k h1]; exact fr k' i' h1 h2) (fun a a0 a1 => ?_) (QP_push qp (by omega) f1 hf up_hit (fun i hi => up_j hi)) (by rw [show e + 1 - 1 = e by omega]; exact up_hit)
        rw [up_k (by omega)]
        exact dn a a0 a1
      have L36 : ∀ (m : Nat) (e : Int) (ρ : Sto), m = (e - f').toNat → f' ≤ e → e ≤ s → (∀ k' i', k' ≠ 10 → ¬ (k' = k ∧ i' = c) → ρ k' i' = σ k' i') → (∀ a, 0 ≤ a → a < s → WinD (σ 9 0) G M (ρ k c a) a) → QP F G M (ρ 10 0) f' e s → P 36 [.inr (3, 0), .inl p, .inl 1, .inr (k, c), .inl f', .inl e, .inl s, .inl s] [] ρ := by
        intro m
        induction m with
        | zero =>
          intro e ρ hm f1 f2 fr dn qp
          have X := L75 e ρ f1 f2 fr dn qp (Or.inl (by omega))
          (refine go (t := tb_X2_addMissingCosts) (WPd_mono d) hP 60 [9, 36, 75, 87, 124] ?_; (conv => whnf); (repeat' (first | (refine ⟨fun _ => ?_, fun _ => ?_⟩ <;> first | (exfalso; omega) | (conv => whnf)) | (refine ⟨by omega, ?_⟩; conv => whnf) | (intro _; conv => whnf))))
          exact X
        | succ m jh =>
          intro e ρ hm f1 f2 fr dn qp
          have f3 : ρ 3 0 11 = B := by rw [fr 3 0 (by decide) (by omega)]; exact hB
          have f9 : ρ 9 0 = σ 9 0 := fr 9 0 (by decide) (by omega)
          have f23 : ρ 23 0 2 = G := by rw [fr 23 0 (by decide) (by omega)]; exact eG
          have f19 : ρ 19 0 p = M := by rw [fr 19 0 (by decide) (by omega)]; exact eM

          have qb := qp.1 (e - 1) (by omega) (by omega)
          have hm := mul_b (g := s - ρ 10 0 (e - 1)) (x := G) (G := 600) (X := 50) (by omega) (by omega) gb.1 gb.2
          have fb := hFb (ρ 10 0 (e - 1)) qb.1 (by omega)
          have fs := hFb s (by omega) (by omega)
          have ex : (s - ρ 10 0 (e - 1)) * G = s * G - ρ 10 0 (e - 1) * G := Int.sub_mul ..
          have fw : F s = ρ 9 0 s := by rw [hF, f9]
          have X := fun h => L75 e ρ f1 f2 fr dn qp (Or.inr h)
          have Y := fun h => jh (e - 1) ρ (by omega) (by omega) (by omega) fr dn (QP_pop qp h)
          (refine go (t := tb_X2_addMissingCosts) (WPd_mono d) hP 60 [9, 36, 75, 87, 124] ?_; (conv => whnf); (repeat' (first | (refine ⟨fun _ => ?_, fun _ => ?_⟩ <;> first | (exfalso; omega) | (conv => whnf)) | (refine ⟨by omega, ?_⟩; conv => whnf) | (intro _; conv => whnf))))
          refine t_X2_costFromD (by omega) (by omega) ?_
          rw [f9, f23, ← hF]
          ((conv => whnf); (repeat' (first | (refine ⟨fun _ => ?_, fun _ => ?_⟩ <;> first | (exfalso; omega) | (conv => whnf)) | (refine ⟨by omega, ?_⟩; conv => whnf) | (intro _; conv => whnf))))
          all_goals first | exact X (by omega) | exact Y (by omega)
      have f3 : ρ' 3 0 11 = B := by rw [fr' 3 0 (by decide) (by omega)]; exact hB
      have X := L36 _ e' ρ' rfl f1' f2' fr' dn' (QI_P qi')
      (refine go (t := tb_X2_addMissingCosts) (WPd_mono d) hP 60 [9, 36, 75, 87, 124] ?_; (conv => whnf); (repeat' (first | (refine ⟨fun _ => ?_, fun _ => ?_⟩ <;> first | (exfalso; omega) | (conv => whnf)) | (refine ⟨by omega, ?_⟩; conv => whnf) | (intro _; conv => whnf))))
      
      exact X
  (refine go (t := tb_X2_addMissingCosts) (WPd_mono d) hP 60 [9, 36, 75, 87, 124] ?_; (conv => whnf); (repeat' (first | (refine ⟨fun _ => ?_, fun _ => ?_⟩ <;> first | (exfalso; omega) | (conv => whnf)) | (refine ⟨by omega, ?_⟩; conv => whnf) | (intro _; conv => whnf))))
  refine L9 _ 0 0 0 σ rfl (by omega) (by omega) (by omega) (by omega) (by omega) (fun _ _ _ _ => rfl) (fun a a0 a1 => by omega) ⟨fun i i0 i1 => by omega, fun i j i0 i1 i2 => by omega, fun y y0 y1 y2 => by omega⟩
