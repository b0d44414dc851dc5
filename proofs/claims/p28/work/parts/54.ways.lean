/-! THE CLASS: ways -/
theorem sumN_s (f : Nat → Nat) (n : Nat) : sumN f (n + 1) = sumN f n + f n := rfl
theorem sumN_cg {f g : Nat → Nat} : ∀ (n : Nat), (∀ i, i < n → f i = g i) → sumN f n = sumN g n
  | 0, _ => rfl
  | n + 1, h => by
    unfold sumN
    rw [sumN_cg n (fun i hi => h i (by omega)), h n (by omega)]
theorem sumN_z {f : Nat → Nat} : ∀ (n : Nat), (∀ i, i < n → f i = 0) → sumN f n = 0
  | 0, _ => rfl
  | n + 1, h => by
    unfold sumN
    rw [sumN_z n (fun i hi => h i (by omega)), h n (by omega)]
theorem sumN_up {f : Nat → Nat} {n : Nat} : ∀ (m : Nat), n ≤ m → (∀ i, n ≤ i → f i = 0) → sumN f m = sumN f n
  | 0, h, _ => by rw [show n = 0 by omega]
  | m + 1, h, hz => by
    by_cases c : n = m + 1
    · rw [c]
    · rw [sumN_s, sumN_up m (by omega) hz, hz m (by omega), Nat.add_zero]
def wsum (H N : Int → Nat) (n : Nat) : Nat := sumN (fun b => H b * N b) n
theorem wsum_up {H H' N : Int → Nat} {x : Nat} {b : Int} (h1 : H' b = H b + x) (h2 : ∀ c, c ≠ b → H' c = H c) : ∀ (n : Nat), wsum H' N n = wsum H N n + (if 0 ≤ b ∧ b < n then x * N b else 0)
  | 0 => by
    rw [if_neg (by omega)]
    rfl
  | n + 1 => by
    have ih := wsum_up (N := N) h1 h2 n
    unfold wsum at ih ⊢
    unfold sumN
    rw [ih]
    by_cases c : (n : Int) = b
    · rw [c, h1, Nat.add_mul, if_neg (by omega), if_pos (by omega)]
      omega
    · rw [h2 _ c]
      by_cases c2 : 0 ≤ b ∧ b < n
      · rw [if_pos c2, if_pos (by omega)]
        omega
      · rw [if_neg c2, if_neg (by omega)]
        omega
noncomputable def ttF (T : Int → Int → Prop) (N : Int → Nat) (a : Int) (o g : Nat) : Nat := @ite _ (T o g) (Classical.propDecidable _) (N (a + o + g)) 0
theorem ttF_t {T : Int → Int → Prop} {N : Int → Nat} {a : Int} {o g : Nat} (h : T o g) : ttF T N a o g = N (a + o + g) := if_pos h
theorem ttF_f {T : Int → Int → Prop} {N : Int → Nat} {a : Int} {o g : Nat} (h : ¬ T o g) : ttF T N a o g = 0 := if_neg h
theorem t_X2_handOnWays {d : Nat} (hd : 2 ≤ d) {σ : Sto} {Q : Post} {K : KV} {p a B : Int} (hK : vwC σ 0 = K) (hw : WFK K) (hp : 0 ≤ p ∧ p < K 7 0) (hB : σ 3 0 11 = B) (ho : 0 ≤ B ∧ B ≤ 600) (ha : 0 ≤ a ∧ a ≤ B) (hW : ∀ x, 0 ≤ x → x ≤ B → 0 ≤ σ 8 0 x ∧ σ 8 0 x ≤ 268435456) (hr : 0 ≤ σ 25 p a ∧ σ 25 p a ≤ 268435456) {T : Int → Int → Prop} (hT0 : ∀ o g, T o g ↔ (rngK K p (o, g) ∧ a + o + g ≤ B) ∧ oK K p o + g * K 6 2 + σ 8 0 (a + o + g) = σ 25 p a) {H N : Int → Nat} {F : Nat} (hF : σ 11 0 a = min 1000000 (F : Int)) (hH : ∀ b, 0 ≤ b → b ≤ B → σ 12 0 b = min 1000000 (H b : Int)) (hq : ∀ σ' (H' : Int → Nat), (∀ k' i', k' ≠ 12 → σ' k' i' = σ k' i') → (∀ b, 0 ≤ b → b ≤ B → σ' 12 0 b = min 1000000 (H' b : Int)) → wsum H' N (B + 1).toNat = wsum H N (B + 1).toNat + F * sumN (fun o => sumN (ttF T N a o) 21) 3 → (∀ b, 0 < H' b → 0 < H b ∨ ∃ o g, T o g ∧ b = a + o + g) → Q none σ') : WPd d m_X2_handOnWays [.inr (3, 0), .inl p, .inl a] σ Q := by
  obtain ⟨d, rfl⟩ : ∃ k, d = k + 1 := ⟨d - 1, by omega⟩
  refine wpd_of fun P hT hP => ?_
  subst hK
  have mb := (hw.2.2.1 p hp.1 hp.2).2.2
  have gp := fun g => @gap_b _ hw p g hp
  have ob := oK_b hw p
  rw [vw_n] at hp
  have hn := hw.1
  rw [vw_n] at hn
  obtain ⟨-, v1, v2⟩ := (vw_in (σ := σ) (c := 0)).1 hp.1 hp.2
  have h60 : vwC σ 0 6 0 = σ 23 0 0 := (vw_in (σ := σ) (c := 0)).2.2 (by omega) (by omega)
  have h61 : vwC σ 0 6 1 = σ 23 0 1 := (vw_in (σ := σ) (c := 0)).2.2 (by omega) (by omega)
  have h62 : vwC σ 0 6 2 = σ 23 0 2 := (vw_in (σ := σ) (c := 0)).2.2 (by omega) (by omega)
  obtain ⟨G, eG⟩ : ∃ G, σ 23 0 2 = G := ⟨_, rfl⟩
  obtain ⟨M, eM⟩ : ∃ M, σ 19 0 p = M := ⟨_, rfl⟩
  unfold oK at ob hT0
  rw [v2, eM] at mb
  rw [h62, eG, v2, eM] at gp
  rw [v1, h60, h61] at ob
  unfold rngK at hT0
  rw [v1, h60, h61, v2, eM, h62, eG] at hT0
  have bl := lo_b (σ 18 0 p)
  have bh := hi_b (σ 18 0 p)
  have hTr : ∀ o g, T o g → (lo (σ 18 0 p) ≤ o ∧ o ≤ hi (σ 18 0 p)) ∧ (0 ≤ g ∧ g ≤ M) ∧ a + o + g ≤ B := fun o g t => by
    have := (hT0 o g).1 t
    dsimp only at this
    omega
  have L19 : ∀ (n : Nat) (w : Int) (τ : Sto) (H1 : Int → Nat), n = (hi (σ 18 0 p) + 1 - w).toNat → lo (σ 18 0 p) ≤ w → w ≤ hi (σ 18 0 p) + 1 → (∀ k' i', k' ≠ 12 → τ k' i' = σ k' i') → (∀ b, 0 ≤ b → b ≤ B → τ 12 0 b = min 1000000 (H1 b : Int)) → wsum H1 N (B + 1).toNat = wsum H N (B + 1).toNat + F * sumN (fun o => sumN (ttF T N a o) 21) w.toNat → (∀ b, 0 < H1 b → 0 < H b ∨ ∃ o g, T o g ∧ b = a + o + g) → P 19 [.inr (3, 0), .inl p, .inl a, .inl (σ 25 p a), .inl w] [] τ := by
    intro n
    induction n with
    | zero =>
      intro w τ H1 hn0 w0 w1 fr hH1 ws sp
      have X := hq τ H1 fr hH1 (by
        rw [ws]
        congr 2
        refine (sumN_up 3 (by omega) (fun i hi => sumN_z _ (fun g hg => ttF_f (fun t => ?_)))).symm
        have := hTr _ _ t
        omega) sp
      have e18 : τ 18 0 p = σ 18 0 p := by rw [fr 18 0 (by decide)]
      clear sp
      (refine go (t := tb_X2_handOnWays) (WPd_mono d) hP 90 [19, 70] ?_; (conv => whnf); (repeat' (first | (refine ⟨fun _ => ?_, fun _ => ?_⟩ <;> first | (exfalso; omega) | (conv => whnf)) | (refine ⟨by omega, ?_⟩; conv => whnf) | (intro _; conv => whnf))))
      refine t_X0_mostOwn (by omega) (by omega) ?_
      rw [e18]
      ((conv => whnf); (repeat' (first | (refine ⟨fun _ => ?_, fun _ => ?_⟩ <;> first | (exfalso; omega) | (conv => whnf)) | (refine ⟨by omega, ?_⟩; conv => whnf) | (intro _; conv => whnf))))
      exact X
    | succ n ih =>
      intro w τ0 H0 hn0 w0 w1 fr0 hH0 ws0 sp0
      have L70 : ∀ (k : Nat) (y : Int) (τ : Sto) (H1 : Int → Nat), k = (min M (B - a - w) + 1 - y).toNat → 0 ≤ y → y ≤ max 0 (min M (B - a - w) + 1) → (∀ k' i', k' ≠ 12 → τ k' i' = σ k' i') → (∀ b, 0 ≤ b → b ≤ B → τ 12 0 b = min 1000000 (H1 b : Int)) → wsum H1 N (B + 1).toNat = wsum H N (B + 1).toNat + F * (sumN (fun o => sumN (ttF T N a o) 21) w.toNat + sumN (ttF T N a w.toNat) y.toNat) → (∀ b, 0 < H1 b → 0 < H b ∨ ∃ o g, T o g ∧ b = a + o + g) → P 70 [.inr (3, 0), .inl p, .inl a, .inl (σ 25 p a), .inl w, .inl (oCst (σ 18 0 p) w (σ 23 0 0) (σ 23 0 1)), .inl (min M (B - a - w)), .inl y] [] τ := by
        intro k
        induction k with
        | zero =>
          intro y τ H1 hk y0 y1 fr hH1 ws sp
          have X := ih (w + 1) τ H1 (by clear sp sp0; omega) (by clear sp sp0; omega) (by clear sp sp0; omega) fr hH1 (by
            rw [ws, show (w + 1).toNat = w.toNat + 1 by clear sp sp0; omega]
            congr 2
            show _ = sumN (fun o => sumN (ttF T N a o) 21) w.toNat + sumN (ttF T N a w.toNat) 21
            congr 1
            refine (sumN_up 21 (by clear sp sp0; omega) (fun i hi => ttF_f (fun t => ?_))).symm
            have := hTr _ _ t
            clear sp sp0
            omega) sp
          clear sp sp0
          (refine go (t := tb_X2_handOnWays) (WPd_mono d) hP 90 [19, 70] ?_; (conv => whnf); (repeat' (first | (refine ⟨fun _ => ?_, fun _ => ?_⟩ <;> first | (exfalso; omega) | (conv => whnf)) | (refine ⟨by omega, ?_⟩; conv => whnf) | (intro _; conv => whnf))))
          (refine hT 5 ?_; exact X)
        | succ k jh =>
          intro y τ H1 hk y0 y1 fr hH1 ws sp
          have t := hT0 w y
          have gw := gp y ⟨y0, by clear sp sp0; omega⟩
          have ow := ob w
          have wy := hW (a + w + y) (by clear sp sp0; omega) (by clear sp sp0; omega)
          have e8 : τ 8 0 = σ 8 0 := fr 8 0 (by decide)
          have e23 : τ 23 0 2 = G := by rw [fr 23 0 (by decide)]; exact eG
          have e11 : τ 11 0 a = min 1000000 (F : Int) := by rw [fr 11 0 (by decide)]; exact hF
          have hn1 := hH1 (a + w + y) (by clear sp sp0; omega) (by clear sp sp0; omega)
          have ey : (y + 1).toNat = y.toNat + 1 := by clear sp sp0; omega
          have ew : (w.toNat : Int) = w := by clear sp sp0; omega
          have eyy : (y.toNat : Int) = y := by clear sp sp0; omega
          have o1 : k = (min M (B - a - w) + 1 - (y + 1)).toNat := by clear sp sp0; omega
          have o2 : 0 ≤ y + 1 := by clear sp sp0; omega
          have o3 : y + 1 ≤ max 0 (min M (B - a - w) + 1) := by clear sp sp0; omega
          have X := fun (q : ¬ T w y) => jh (y + 1) τ H1 o1 o2 o3 fr hH1 (by
            rw [ws, ey, sumN_s _ y.toNat, ttF_f (by rw [ew, eyy]; exact q), Nat.add_zero]) sp
          have Y := fun (q : T w y) ρ (e : ρ = upS τ 12 0 (a + w + y) (min 1000000 (τ 12 0 (a + w + y) + τ 11 0 a))) => jh (y + 1) ρ (fun b => if b = a + w + y then H1 b + F else H1 b) o1 o2 o3 (fun k' i' h => by rw [e, up_k h]; exact fr k' i' h) (fun b b0 b1 => by
            rw [e]
            clear sp sp0
            by_cases c : b = a + w + y
            · rw [c, up_hit, if_pos rfl, hn1, e11]
              omega
            · rw [up_j c, if_neg c]
              exact hH1 b b0 b1) (by
            have wu := wsum_up (H := H1) (H' := fun b => if b = a + w + y then H1 b + F else H1 b) (N := N) (x := F) (b := a + w + y) (if_pos rfl) (fun c h => if_neg h) (B + 1).toNat
            rw [wu, ws, if_pos (by clear sp sp0; omega), ey, Nat.add_assoc, ← Nat.mul_add, sumN_s _ y.toNat, ttF_t (by rw [ew, eyy]; exact q), ew, eyy, Nat.add_assoc]) (fun b hb => by
            by_cases c : b = a + w + y
            · exact Or.inr ⟨w, y, q, c⟩
            · rw [if_neg c] at hb
              exact sp b hb)
          clear sp sp0
          have r0 := ha
          dsimp only at t
          (refine go (t := tb_X2_handOnWays) (WPd_mono d) hP 90 [19, 70] ?_; (conv => whnf); (repeat' (first | (refine ⟨fun _ => ?_, fun _ => ?_⟩ <;> first | (exfalso; omega) | (conv => whnf)) | (refine ⟨by omega, ?_⟩; conv => whnf) | (intro _; conv => whnf))))
          refine t_X0_missingCost (by omega) ?_
          rw [e23]
          ((conv => whnf); (repeat' (first | (refine ⟨fun _ => ?_, fun _ => ?_⟩ <;> first | (exfalso; omega) | (conv => whnf)) | (refine ⟨by omega, ?_⟩; conv => whnf) | (intro _; conv => whnf))))
          rw [e8]
          ((conv => whnf); (repeat' (first | (refine ⟨fun _ => ?_, fun _ => ?_⟩ <;> first | (exfalso; omega) | (conv => whnf)) | (refine ⟨by omega, ?_⟩; conv => whnf) | (intro _; conv => whnf))))
          · (refine hT 8 ?_; exact (X (fun q => by have := t.1 q; omega)))
          · (refine hT 8 ?_; exact (Y (t.2 (by omega)) _ rfl))
      have X := L70 _ 0 τ0 H0 rfl (by clear sp0; omega) (by clear sp0; omega) fr0 hH0 (by rw [ws0]; rfl) sp0
      have e18 : τ0 18 0 p = σ 18 0 p := by rw [fr0 18 0 (by decide)]
      have e23 : τ0 23 0 = σ 23 0 := fr0 23 0 (by decide)
      have e19 : τ0 19 0 p = M := by rw [fr0 19 0 (by decide)]; exact eM
      have e3 : τ0 3 0 11 = B := by rw [fr0 3 0 (by decide)]; exact hB
      clear sp0
      (refine go (t := tb_X2_handOnWays) (WPd_mono d) hP 90 [19, 70] ?_; (conv => whnf); (repeat' (first | (refine ⟨fun _ => ?_, fun _ => ?_⟩ <;> first | (exfalso; omega) | (conv => whnf)) | (refine ⟨by omega, ?_⟩; conv => whnf) | (intro _; conv => whnf))))
      refine t_X0_mostOwn (by omega) (by omega) ?_
      rw [e18]
      ((conv => whnf); (repeat' (first | (refine ⟨fun _ => ?_, fun _ => ?_⟩ <;> first | (exfalso; omega) | (conv => whnf)) | (refine ⟨by omega, ?_⟩; conv => whnf) | (intro _; conv => whnf))))
      refine t_X0_ownCost (by omega) (by omega) (by omega) ?_
      rw [e18, e23]
      ((conv => whnf); (repeat' (first | (refine ⟨fun _ => ?_, fun _ => ?_⟩ <;> first | (exfalso; omega) | (conv => whnf)) | (refine ⟨by omega, ?_⟩; conv => whnf) | (intro _; conv => whnf))))
      rw [e19, e3]
      ((conv => whnf); (repeat' (first | (refine ⟨fun _ => ?_, fun _ => ?_⟩ <;> first | (exfalso; omega) | (conv => whnf)) | (refine ⟨by omega, ?_⟩; conv => whnf) | (intro _; conv => whnf))))
      exact X
  (refine go (t := tb_X2_handOnWays) (WPd_mono d) hP 90 [19, 70] ?_; (conv => whnf); (repeat' (first | (refine ⟨fun _ => ?_, fun _ => ?_⟩ <;> first | (exfalso; omega) | (conv => whnf)) | (refine ⟨by omega, ?_⟩; conv => whnf) | (intro _; conv => whnf))))
  refine t_X0_leastOwn (by omega) (by omega) ?_
  ((conv => whnf); (repeat' (first | (refine ⟨fun _ => ?_, fun _ => ?_⟩ <;> first | (exfalso; omega) | (conv => whnf)) | (refine ⟨by omega, ?_⟩; conv => whnf) | (intro _; conv => whnf))))
  refine L19 _ _ σ H rfl (by omega) (by omega) (fun _ _ _ => rfl) hH ?_ (fun b hb => Or.inl hb)
  rw [sumN_z _ (fun i hi => sumN_z _ (fun g hg => ttF_f (fun t => ?_))), Nat.mul_zero, Nat.add_zero]
  have := hTr _ _ t
  omega
