/-! THE RECKONING: the best count, the tables -/
theorem acV_av {K : KV} (hK : WFK K) (p a : Int) : (acK K p a = none ∧ 268435456 ≤ acV K p a) ∨ (acK K p a = some (acV K p a) ∧ 0 ≤ acV K p a) := by
  have b := acK_b hK p a
  unfold acV
  cases e : acK K p a with
  | none => exact Or.inl ⟨rfl, by simp only []; omega⟩
  | some w => exact Or.inr ⟨rfl, (b w e).1⟩
theorem acK_g {K : KV} (hK : WFK K) : acB (acK K) 60000 := fun p a w e => by
  have b := acK_b hK p a w e
  omega
theorem rowC_at {K : KV} (hK : WFK K) {B : Int} {m : Nat} {p a v : Int} (hp : 0 ≤ p ∧ p + m ≤ K 7 0) (h : Mn (cont K (acK K) B m p a) 268435456 v) : Mn (cAt K (acK K) B m p a) 268435456 (min 268435456 (v + acV K p a)) :=
  Mn_at h (Mn_0 h (by omega) (fun c hc => (cont_lt hK (acK_g hK) hp hc).1)) (acV_av hK p a) (fun c w hc hw => by
    have a := cont_lt hK (acK_g hK) hp hc
    have b := acK_b hK p _ w hw
    omega)
theorem rowP_at {K : KV} (hK : WFK K) {B : Int} {p : Nat} {a v : Int} (hp : p ≤ K 7 0) (h : Mn (pre K (acK K) B p a) 268435456 v) : Mn (pAt K (acK K) B p a) 268435456 (min 268435456 (v + acV K p a)) :=
  Mn_at h (Mn_0 h (by omega) (fun c hc => (pre_lt hK (acK_g hK) hp hc).1)) (acV_av hK p a) (fun c w hc hw => by
    have a := pre_lt hK (acK_g hK) hp hc
    have b := acK_b hK p _ w hw
    omega)
theorem cAt_v {K : KV} (hK : WFK K) {B : Int} {m : Nat} {p a v : Int} (hp : 0 ≤ p ∧ p + m ≤ K 7 0) (h : Mn (cAt K (acK K) B m p a) 268435456 v) : 0 ≤ v ∧ v ≤ 268435456 := ⟨Mn_0 h (by omega) (fun c hc => (cAt_b hK (acK_g hK) hp hc).1), Mn_le h⟩
theorem cont_v {K : KV} (hK : WFK K) {B : Int} {m : Nat} {p a v : Int} (hp : 0 ≤ p ∧ p + m ≤ K 7 0) (h : Mn (cont K (acK K) B m p a) 268435456 v) : 0 ≤ v ∧ v ≤ 268435456 := ⟨Mn_0 h (by omega) (fun c hc => (cont_lt hK (acK_g hK) hp hc).1), Mn_le h⟩
theorem pAt_v {K : KV} (hK : WFK K) {B : Int} {p : Nat} {a v : Int} (hp : p ≤ K 7 0) (h : Mn (pAt K (acK K) B p a) 268435456 v) : 0 ≤ v ∧ v ≤ 268435456 := ⟨Mn_0 h (by omega) (fun c hc => (pAt_b hK (acK_g hK) hp hc).1), Mn_le h⟩
theorem pre_v {K : KV} (hK : WFK K) {B : Int} {p : Nat} {a v : Int} (hp : p ≤ K 7 0) (h : Mn (pre K (acK K) B p a) 268435456 v) : 0 ≤ v ∧ v ≤ 268435456 := ⟨Mn_0 h (by omega) (fun c hc => (pre_lt hK (acK_g hK) hp hc).1), Mn_le h⟩
theorem t_X2_chooseYears {d : Nat} (hd : 2 ≤ d) {σ : Sto} {Q : Post} {K : KV} {p a B : Int} (hK : vwC σ 0 = K) (hw : WFK K) (hp : 0 ≤ p ∧ p < K 7 0) (hB : σ 3 0 11 = B) (ho : 0 ≤ B ∧ B ≤ 600) (ha : 0 ≤ a ∧ a ≤ B) (hW : ∀ x, 0 ≤ x → x ≤ B → 0 ≤ σ 8 0 x ∧ σ 8 0 x ≤ 268435456) (hr : 0 ≤ σ 25 p a ∧ σ 25 p a ≤ 268435456) {T : Int → Int → Prop} (hT0 : ∀ o g, T o g ↔ (rngK K p (o, g) ∧ a + o + g ≤ B) ∧ oK K p o + g * K 6 2 + σ 8 0 (a + o + g) = σ 25 p a) (hex : ∃ o g, T o g) (hq : ∀ o g, T o g → (∀ o' g', T o' g' → o + g < o' + g' ∨ (o + g = o' + g' ∧ o ≤ o')) → Q none (upS (upS σ 13 0 p o) 14 0 p g)) : WPd d m_X2_chooseYears [.inr (3, 0), .inl p, .inl a] σ Q := by
  obtain ⟨d, rfl⟩ : ∃ k, d = k + 1 := ⟨d - 1, by omega⟩
  refine wpd_of fun P hT hP => ?_
  subst hK
  have mb := (hw.2.2.1 p hp.1 hp.2).2.2
  have gp := fun g => @gap_b _ hw p g hp
  have ob := oK_b hw p
  rw [vw_n] at hp
  have hn := hw.1
  rw [vw_n] at hn
  obtain ⟨-, v1, v2⟩ := (vw_in (σ := σ) (c := 0)).1 hp.1 hp.2
  have h60 : vwC σ 0 6 0 = σ 23 0 0 := (vw_in (σ := σ) (c := 0)).2.2 (by omega) (by omega)
  have h61 : vwC σ 0 6 1 = σ 23 0 1 := (vw_in (σ := σ) (c := 0)).2.2 (by omega) (by omega)
  have h62 : vwC σ 0 6 2 = σ 23 0 2 := (vw_in (σ := σ) (c := 0)).2.2 (by omega) (by omega)
  obtain ⟨G, eG⟩ : ∃ G, σ 23 0 2 = G := ⟨_, rfl⟩
  obtain ⟨M, eM⟩ : ∃ M, σ 19 0 p = M := ⟨_, rfl⟩
  unfold oK at ob hT0
  rw [v2, eM] at mb
  rw [h62, eG, v2, eM] at gp
  rw [v1, h60, h61] at ob
  unfold rngK at hT0
  rw [v1, h60, h61, v2, eM, h62, eG] at hT0
  have bl := lo_b (σ 18 0 p)
  have bh := hi_b (σ 18 0 p)
  obtain ⟨o0, g0, t0⟩ := hex
  have t0' := (hT0 o0 g0).1 t0
  dsimp only at t0'
  have L28 : ∀ (n : Nat) (y : Int), n = (min (hi (σ 18 0 p) + M) (B - a) + 1 - y).toNat → lo (σ 18 0 p) ≤ y → (∀ o g, T o g → y ≤ o + g) → P 28 [.inr (3, 0), .inl p, .inl a, .inl (min (hi (σ 18 0 p) + M) (B - a)), .inl y] [] σ := by
    intro n
    induction n with
    | zero =>
      intro y hn0 y0 iv
      have := iv o0 g0 t0
      exfalso
      omega
    | succ n ih =>
      intro y hn0 y0 iv
      have yo := iv o0 g0 t0
      have yb := hW (a + y) (by omega) (by omega)
      have L44 : ∀ (m : Nat) (w : Int), m = (hi (σ 18 0 p) + 1 - w).toNat → lo (σ 18 0 p) ≤ w → w ≤ hi (σ 18 0 p) + 1 → (∀ o g, T o g → y < o + g ∨ (y = o + g ∧ w ≤ o)) → P 44 [.inr (3, 0), .inl p, .inl a, .inl (min (hi (σ 18 0 p) + M) (B - a)), .inl y, .inl w] [] σ := by
        intro m
        induction m with
        | zero =>
          intro w hm w0 w1 iv2
          have X := ih (y + 1) (by omega) (by omega) (fun o g t => by
            have := iv2 o g t
            have q := (hT0 o g).1 t
            dsimp only at q
            omega)
          (refine go (t := tb_X2_chooseYears) (WPd_mono d) hP 90 [28, 44] ?_; (conv => whnf); (repeat' (first | (refine ⟨fun _ => ?_, fun _ => ?_⟩ <;> first | (exfalso; omega) | (conv => whnf)) | (refine ⟨by omega, ?_⟩; conv => whnf) | (intro _; conv => whnf))))
          refine t_X0_mostOwn (by omega) (by omega) ?_
          ((conv => whnf); (repeat' (first | (refine ⟨fun _ => ?_, fun _ => ?_⟩ <;> first | (exfalso; omega) | (conv => whnf)) | (refine ⟨by omega, ?_⟩; conv => whnf) | (intro _; conv => whnf))))
          (refine hT 5 ?_; exact X)
        | succ m jh =>
          intro w hm w0 w1 iv2
          have X := fun h => jh (w + 1) (by omega) (by omega) (by omega) h
          have ea : a + w + (y - w) = a + y := by omega
          have t := hT0 w (y - w)
          rw [ea] at t
          dsimp only at t
          have gw := gp (y - w)
          have ow := ob w
          have no : ¬ T w (y - w) → ∀ o g, T o g → y < o + g ∨ (y = o + g ∧ w + 1 ≤ o) := fun h o g q => by
            rcases iv2 o g q with z | ⟨z1, z2⟩
            · exact Or.inl z
            · by_cases c : o = w
              · subst c
                rw [show g = y - o by omega] at q
                exact absurd q h
              · exact Or.inr ⟨z1, by omega⟩
          (refine go (t := tb_X2_chooseYears) (WPd_mono d) hP 90 [28, 44] ?_; (conv => whnf); (repeat' (first | (refine ⟨fun _ => ?_, fun _ => ?_⟩ <;> first | (exfalso; omega) | (conv => whnf)) | (refine ⟨by omega, ?_⟩; conv => whnf) | (intro _; conv => whnf))))
          refine t_X0_mostOwn (by omega) (by omega) ?_
          ((conv => whnf); (repeat' (first | (refine ⟨fun _ => ?_, fun _ => ?_⟩ <;> first | (exfalso; omega) | (conv => whnf)) | (refine ⟨by omega, ?_⟩; conv => whnf) | (intro _; conv => whnf))))
          refine t_X0_ownCost (by omega) (by omega) (by omega) ?_
          ((conv => whnf); (repeat' (first | (refine ⟨fun _ => ?_, fun _ => ?_⟩ <;> first | (exfalso; omega) | (conv => whnf)) | (refine ⟨by omega, ?_⟩; conv => whnf) | (intro _; conv => whnf))))
          refine t_X0_missingCost (by omega) ?_
          rw [eG]
          ((conv => whnf); (repeat' (first | (refine ⟨fun _ => ?_, fun _ => ?_⟩ <;> first | (exfalso; omega) | (conv => whnf)) | (refine ⟨by omega, ?_⟩; conv => whnf) | (intro _; conv => whnf))))
          rw [eM]
          refine t_X4_isWithin (by omega) (by omega) (by omega) (by omega) (fun h => ?_) (fun h => ?_)
          · ((conv => whnf); (repeat' (first | (refine ⟨fun _ => ?_, fun _ => ?_⟩ <;> first | (exfalso; omega) | (conv => whnf)) | (refine ⟨by omega, ?_⟩; conv => whnf) | (intro _; conv => whnf))))
            · (refine hT 6 ?_; exact (X (no (fun q => by have := t.1 q; omega))))
            · exact hq w (y - w) (t.2 ⟨⟨⟨⟨by omega, by omega⟩, h⟩, by omega⟩, by omega⟩) (fun o' g' q => by
                have := iv2 o' g' q
                omega)
          · ((conv => whnf); (repeat' (first | (refine ⟨fun _ => ?_, fun _ => ?_⟩ <;> first | (exfalso; omega) | (conv => whnf)) | (refine ⟨by omega, ?_⟩; conv => whnf) | (intro _; conv => whnf))))
            (refine hT 6 ?_; exact (X (no (fun q => by have := t.1 q; omega))))
      (refine go (t := tb_X2_chooseYears) (WPd_mono d) hP 90 [28, 44] ?_; (conv => whnf); (repeat' (first | (refine ⟨fun _ => ?_, fun _ => ?_⟩ <;> first | (exfalso; omega) | (conv => whnf)) | (refine ⟨by omega, ?_⟩; conv => whnf) | (intro _; conv => whnf))))
      refine t_X0_leastOwn (by omega) (by omega) ?_
      ((conv => whnf); (repeat' (first | (refine ⟨fun _ => ?_, fun _ => ?_⟩ <;> first | (exfalso; omega) | (conv => whnf)) | (refine ⟨by omega, ?_⟩; conv => whnf) | (intro _; conv => whnf))))
      exact L44 _ _ rfl (by omega) (by omega) (fun o g t => by
        have := iv o g t
        have q := (hT0 o g).1 t
        dsimp only at q
        omega)
  (refine go (t := tb_X2_chooseYears) (WPd_mono d) hP 90 [28, 44] ?_; (conv => whnf); (repeat' (first | (refine ⟨fun _ => ?_, fun _ => ?_⟩ <;> first | (exfalso; omega) | (conv => whnf)) | (refine ⟨by omega, ?_⟩; conv => whnf) | (intro _; conv => whnf))))
  refine t_X0_mostYears (by omega) (by omega) ?_
  rw [eM]
  ((conv => whnf); (repeat' (first | (refine ⟨fun _ => ?_, fun _ => ?_⟩ <;> first | (exfalso; omega) | (conv => whnf)) | (refine ⟨by omega, ?_⟩; conv => whnf) | (intro _; conv => whnf))))
  rw [hB]
  ((conv => whnf); (repeat' (first | (refine ⟨fun _ => ?_, fun _ => ?_⟩ <;> first | (exfalso; omega) | (conv => whnf)) | (refine ⟨by omega, ?_⟩; conv => whnf) | (intro _; conv => whnf))))
  refine t_X0_leastOwn (by omega) (by omega) ?_
  ((conv => whnf); (repeat' (first | (refine ⟨fun _ => ?_, fun _ => ?_⟩ <;> first | (exfalso; omega) | (conv => whnf)) | (refine ⟨by omega, ?_⟩; conv => whnf) | (intro _; conv => whnf))))
  exact L28 _ _ rfl (by omega) (fun o g t => by
    have q := (hT0 o g).1 t
    dsimp only at q
    omega)
