/-! THE CLASS: bound, without, costWith -/
theorem acV_s {σ : Sto} {K : KV} (hK : vwC σ 0 = K) (hw : WFK K) (p a : Int) : aCst (axK K p) a (σ 21 0 (axK K p)) (σ 22 0 (axK K p)) (σ 23 0 3) = acV K p a ∧ (0 ≤ axK K p → 0 ≤ σ 21 0 (axK K p) ∧ σ 21 0 (axK K p) ≤ 500) ∧ (-1 ≤ axK K p ∧ axK K p < 6) := by
  have bx := axK_of K p hw.2.1.1
  have hm := hw.2.1
  have t := acV_of hw p a
  have h6 : K 6 3 = σ 23 0 3 := by
    have := (vw_in (σ := σ) (c := 0)).2.2 (show (0 : Int) ≤ 3 by omega) (by omega)
    rwa [hK] at this
  by_cases e : axK K p = -1
  · refine ⟨?_, fun h => by omega, by omega⟩
    rw [← t.1]
    unfold aCst
    rw [if_pos e, if_pos e]
  · have lt : axK K p < σ 16 0 8 := by
      have : σ 16 0 8 = K 7 1 := by rw [← hK, vw_a]
      omega
    obtain ⟨v0, v1, v2⟩ := (vw_in (σ := σ) (c := 0)).2.1 (show 0 ≤ axK K p by omega) lt
    rw [hK] at v1 v2
    have u := hw.2.2.2.1 (axK K p) (by omega) (by omega)
    refine ⟨?_, fun h => by omega, by omega⟩
    rw [← t.1, h6, v1, v2]
theorem t_X2_leastAge {d : Nat} (hd : 6 ≤ d) {σ : Sto} {Q : Post} {K : KV} {p m : Nat} {lim : Int} (hK : vwC σ 0 = K) (hw : WFK K) (hr : RecOk σ K) (hp : (p : Int) + m = K 7 0) (hl : 0 ≤ lim ∧ lim < 268435456) (hex : ∃ a, BS K p m lim a) (hq : ∀ σ' a, offR σ σ' → RecOk σ' K → BS K p m lim a → (∀ a', BS K p m lim a' → a ≤ a') → Q (some (.inl a)) σ') : WPd d m_X2_leastAge [.inr (3, 0), .inl p, .inl lim] σ Q := by
  obtain ⟨d, rfl⟩ : ∃ k, d = k + 1 := ⟨d - 1, by omega⟩
  refine wpd_of fun P hT hP => ?_
  have hn := hw.1
  have ob := old_b hw
  obtain ⟨x, hx⟩ := hex
  have xo : 0 ≤ x ∧ x ≤ old K := by
    obtain ⟨c1, w, c2, g1, g2, g3, e⟩ := hx
    exact (pre_old hw (by omega) g1).1
  (refine go (t := tb_X2_leastAge) (WPd_mono d) hP 60 [16] ?_; (conv => whnf); (repeat' (first | (refine ⟨fun _ => ?_, fun _ => ?_⟩ <;> first | (exfalso; omega) | (conv => whnf)) | (refine ⟨by omega, ?_⟩; conv => whnf) | (intro _; conv => whnf))))
  refine t_X2_makeAbove (by omega) hK hw hr (fun ρ fo ro t12 t13 => ?_)
  have tb := TabOk_of ro t12 t13 hp
  have t11 := tb.1
  have fK : vwC ρ 0 = K := by rw [fo.core]; exact hK
  have ha : 0 ≤ ρ 16 0 8 ∧ ρ 16 0 8 ≤ 6 := by rw [show ρ 16 0 8 = K 7 1 by rw [← fK, vw_a]]; exact hw.2.1
  have L : ∀ (n : Nat) (i : Int), n = (old K + 1 - i).toNat → 0 ≤ i → i ≤ old K + 1 → (∀ a, BS K p m lim a → i ≤ a) → P 16 [.inr (3, 0), .inl p, .inl lim, .inl (axK K p), .inl i] [] ρ := by
    intro n
    induction n with
    | zero =>
      intro i hn0 i0 i1 iv
      have := iv x hx
      exfalso
      omega
    | succ n ih =>
      intro i hn0 i0 i1 iv
      have b1 := pre_v hw (by omega) (tb.2.1 i i0 (by omega))
      have b2 := cont_v hw (by omega) (tb.2.2 i i0 (by omega))
      have b3 := acV_of hw p i
      have as := acV_s fK hw p i
      have bv := BS_v hw hp hl.2 i0 (by omega) (tb.2.1 i i0 (by omega)) (tb.2.2 i i0 (by omega))
      have X := fun z1 z2 z3 (q : ¬ ρ 24 p i + ρ 25 p i + acV K p i ≤ lim) => ih (i + 1) z1 z2 z3 (fun a ha => by
        have := iv a ha
        by_cases c : a = i
        · subst c
          exact absurd (bv.2 ha) q
        · omega)
      have Y := fun (q : ρ 24 p i + ρ 25 p i + acV K p i ≤ lim) => hq ρ i fo ro (bv.1 q) iv
      clear bv
      (refine go (t := tb_X2_leastAge) (WPd_mono d) hP 60 [16] ?_; (conv => whnf); (repeat' (first | (refine ⟨fun _ => ?_, fun _ => ?_⟩ <;> first | (exfalso; omega) | (conv => whnf)) | (refine ⟨by omega, ?_⟩; conv => whnf) | (intro _; conv => whnf))))
      refine t_X2_costThrough (by omega) (by omega) (by omega) ?_
      ((conv => whnf); (repeat' (first | (refine ⟨fun _ => ?_, fun _ => ?_⟩ <;> first | (exfalso; omega) | (conv => whnf)) | (refine ⟨by omega, ?_⟩; conv => whnf) | (intro _; conv => whnf))))
      refine t_X0_ashCost (by omega) (by omega) (by omega) (fun h => ?_) ?_
      · have := as.2.1 h
        omega
      · rw [as.1]
        ((conv => whnf); (repeat' (first | (refine ⟨fun _ => ?_, fun _ => ?_⟩ <;> first | (exfalso; omega) | (conv => whnf)) | (refine ⟨by omega, ?_⟩; conv => whnf) | (intro _; conv => whnf))))
        · exact X (by omega) (by omega) (by omega) (by omega)
        · exact Y (by omega)
  ((conv => whnf); (repeat' (first | (refine ⟨fun _ => ?_, fun _ => ?_⟩ <;> first | (exfalso; omega) | (conv => whnf)) | (refine ⟨by omega, ?_⟩; conv => whnf) | (intro _; conv => whnf))))
  refine t_X0_ashAt (by omega) (by omega) ha ?_
  rw [ax_vw, fK]
  ((conv => whnf); (repeat' (first | (refine ⟨fun _ => ?_, fun _ => ?_⟩ <;> first | (exfalso; omega) | (conv => whnf)) | (refine ⟨by omega, ?_⟩; conv => whnf) | (intro _; conv => whnf))))
  exact L _ 0 rfl (by omega) (by omega) (fun a ha => by
    obtain ⟨c1, w, c2, g1, g2, g3, e⟩ := ha
    exact (pre_old hw (by omega) g1).1.1)
theorem t_X2_greatestAge {d : Nat} (hd : 6 ≤ d) {σ : Sto} {Q : Post} {K : KV} {p m : Nat} {lim : Int} (hK : vwC σ 0 = K) (hw : WFK K) (hr : RecOk σ K) (hp : (p : Int) + m = K 7 0) (hl : 0 ≤ lim ∧ lim < 268435456) (hex : ∃ a, BS K p m lim a) (hq : ∀ σ' a, offR σ σ' → RecOk σ' K → BS K p m lim a → (∀ a', BS K p m lim a' → a' ≤ a) → Q (some (.inl a)) σ') : WPd d m_X2_greatestAge [.inr (3, 0), .inl p, .inl lim] σ Q := by
  obtain ⟨d, rfl⟩ : ∃ k, d = k + 1 := ⟨d - 1, by omega⟩
  refine wpd_of fun P hT hP => ?_
  have hn := hw.1
  have ob := old_b hw
  obtain ⟨x, hx⟩ := hex
  have xo : 0 ≤ x ∧ x ≤ old K := by
    obtain ⟨c1, w, c2, g1, g2, g3, e⟩ := hx
    exact (pre_old hw (by omega) g1).1
  (refine go (t := tb_X2_greatestAge) (WPd_mono d) hP 60 [19] ?_; (conv => whnf); (repeat' (first | (refine ⟨fun _ => ?_, fun _ => ?_⟩ <;> first | (exfalso; omega) | (conv => whnf)) | (refine ⟨by omega, ?_⟩; conv => whnf) | (intro _; conv => whnf))))
  refine t_X2_makeAbove (by omega) hK hw hr (fun ρ fo ro t12 t13 => ?_)
  have tb := TabOk_of ro t12 t13 hp
  have t11 := tb.1
  have fK : vwC ρ 0 = K := by rw [fo.core]; exact hK
  have ha : 0 ≤ ρ 16 0 8 ∧ ρ 16 0 8 ≤ 6 := by rw [show ρ 16 0 8 = K 7 1 by rw [← fK, vw_a]]; exact hw.2.1
  have L : ∀ (n : Nat) (i : Int), n = (i + 1).toNat → -1 ≤ i → i ≤ old K → (∀ a, BS K p m lim a → a ≤ i) → P 19 [.inr (3, 0), .inl p, .inl lim, .inl (axK K p), .inl i] [] ρ := by
    intro n
    induction n with
    | zero =>
      intro i hn0 i0 i1 iv
      have := iv x hx
      exfalso
      omega
    | succ n ih =>
      intro i hn0 i0 i1 iv
      have b1 := pre_v hw (by omega) (tb.2.1 i (by omega) (by omega))
      have b2 := cont_v hw (by omega) (tb.2.2 i (by omega) (by omega))
      have b3 := acV_of hw p i
      have as := acV_s fK hw p i
      have bv := BS_v hw hp hl.2 (by omega) (by omega) (tb.2.1 i (by omega) (by omega)) (tb.2.2 i (by omega) (by omega))
      have X := fun z1 z2 z3 (q : ¬ ρ 24 p i + ρ 25 p i + acV K p i ≤ lim) => ih (i - 1) z1 z2 z3 (fun a ha => by
        have := iv a ha
        by_cases c : a = i
        · subst c
          exact absurd (bv.2 ha) q
        · omega)
      have Y := fun (q : ρ 24 p i + ρ 25 p i + acV K p i ≤ lim) => hq ρ i fo ro (bv.1 q) iv
      clear bv
      (refine go (t := tb_X2_greatestAge) (WPd_mono d) hP 60 [19] ?_; (conv => whnf); (repeat' (first | (refine ⟨fun _ => ?_, fun _ => ?_⟩ <;> first | (exfalso; omega) | (conv => whnf)) | (refine ⟨by omega, ?_⟩; conv => whnf) | (intro _; conv => whnf))))
      refine t_X2_costThrough (by omega) (by omega) (by omega) ?_
      ((conv => whnf); (repeat' (first | (refine ⟨fun _ => ?_, fun _ => ?_⟩ <;> first | (exfalso; omega) | (conv => whnf)) | (refine ⟨by omega, ?_⟩; conv => whnf) | (intro _; conv => whnf))))
      refine t_X0_ashCost (by omega) (by omega) (by omega) (fun h => ?_) ?_
      · have := as.2.1 h
        omega
      · rw [as.1]
        ((conv => whnf); (repeat' (first | (refine ⟨fun _ => ?_, fun _ => ?_⟩ <;> first | (exfalso; omega) | (conv => whnf)) | (refine ⟨by omega, ?_⟩; conv => whnf) | (intro _; conv => whnf))))
        · exact X (by omega) (by omega) (by omega) (by omega)
        · exact Y (by omega)
  ((conv => whnf); (repeat' (first | (refine ⟨fun _ => ?_, fun _ => ?_⟩ <;> first | (exfalso; omega) | (conv => whnf)) | (refine ⟨by omega, ?_⟩; conv => whnf) | (intro _; conv => whnf))))
  refine t_X0_ashAt (by omega) (by omega) ha ?_
  rw [ax_vw, fK]
  ((conv => whnf); (repeat' (first | (refine ⟨fun _ => ?_, fun _ => ?_⟩ <;> first | (exfalso; omega) | (conv => whnf)) | (refine ⟨by omega, ?_⟩; conv => whnf) | (intro _; conv => whnf))))
  rw [t11]
  exact L _ _ rfl (by omega) (by omega) (fun a ha => by
    obtain ⟨c1, w, c2, g1, g2, g3, e⟩ := ha
    exact (pre_old hw (by omega) g1).1.2)
theorem t_X4_costOrNotFound {d : Nat} (hd : 1 ≤ d) {σ : Sto} {Q : Post} {v : Int} (hv : inR v) (h1 : v < 268435456 → Q (some (.inl v)) σ) (h0 : ¬ v < 268435456 → Q (some (.inl (-4))) σ) : WPd d m_X4_costOrNotFound [.inl v] σ Q := by
  obtain ⟨d, rfl⟩ : ∃ k, d = k + 1 := ⟨d - 1, by omega⟩
  intro P hP
  (refine go (t := tb_X4_costOrNotFound) (WPd_mono d) hP 60 [] ?_; (conv => whnf); (repeat' (first | (refine ⟨fun _ => ?_, fun _ => ?_⟩ <;> first | (exfalso; omega) | (conv => whnf)) | (refine ⟨by omega, ?_⟩; conv => whnf) | (intro _; conv => whnf))))
  · exact h0 (by omega)
  · exact h1 (by omega)
theorem t_X4_bound {d : Nat} (hd : 7 ≤ d) {σ : Sto} {Q : Post} {K : KV} {h : Int} {HK : Int → KV} {tl : Int} {tx : Int → Int} {p s w : Int} (hC : ClassR σ K h HK tl tx) (hp : inR p) (hs : inR s) (hw0 : inR w) (hbad : ¬ ((0 ≤ p ∧ p ≤ K 7 0) ∧ (0 ≤ s ∧ s ≤ 200) ∧ (0 ≤ w ∧ w ≤ 1)) → Q (some (.inl (-1))) σ) (hno : (0 ≤ p ∧ p ≤ K 7 0) ∧ (0 ≤ s ∧ s ≤ 200) ∧ (0 ≤ w ∧ w ≤ 1) → (∀ c, ¬ CS K c) → ∀ σ', ClassR σ' K h HK tl tx → frC σ σ' → Q (some (.inl (-4))) σ') (hyes : (0 ≤ p ∧ p ≤ K 7 0) ∧ (0 ≤ s ∧ s ≤ 200) ∧ (0 ≤ w ∧ w ≤ 1) → ∀ c0, isL (CS K) c0 → ∀ a, BS K p.toNat (K 7 0 - p).toNat (c0 + s) a → (w = 0 → ∀ a', BS K p.toNat (K 7 0 - p).toNat (c0 + s) a' → a ≤ a') → (w = 1 → ∀ a', BS K p.toNat (K 7 0 - p).toNat (c0 + s) a' → a' ≤ a) → ∀ σ', ClassR σ' K h HK tl tx → frC σ σ' → Q (some (.inl a)) σ') : WPd d m_X4_bound [.inr (0, 0), .inl p, .inl s, .inl w] σ Q := by
  obtain ⟨d, rfl⟩ : ∃ k, d = k + 1 := ⟨d - 1, by omega⟩
  intro P hP
  obtain ⟨hK, hw, hh, htx, hr⟩ := hC
  have hn := hw.1
  have n2 : σ 16 0 7 = K 7 0 := by rw [← hK, vw_n]
  (refine go (t := tb_X4_bound) (WPd_mono d) hP 60 [] ?_; (conv => whnf); (repeat' (first | (refine ⟨fun _ => ?_, fun _ => ?_⟩ <;> first | (exfalso; omega) | (conv => whnf)) | (refine ⟨by omega, ?_⟩; conv => whnf) | (intro _; conv => whnf))))
  refine t_X4_isPlace (by omega) hp (by omega) (fun q1 => ?_) (fun q => ?_)
  · ((conv => whnf); (repeat' (first | (refine ⟨fun _ => ?_, fun _ => ?_⟩ <;> first | (exfalso; omega) | (conv => whnf)) | (refine ⟨by omega, ?_⟩; conv => whnf) | (intro _; conv => whnf))))
    refine t_X4_isWithin (by omega) hs (by omega) (by omega) (fun q2 => ?_) (fun q => ?_)
    · ((conv => whnf); (repeat' (first | (refine ⟨fun _ => ?_, fun _ => ?_⟩ <;> first | (exfalso; omega) | (conv => whnf)) | (refine ⟨by omega, ?_⟩; conv => whnf) | (intro _; conv => whnf))))
      refine t_X4_isWithin (by omega) hw0 (by omega) (by omega) (fun q3 => ?_) (fun q => ?_)
      · have cd : (0 ≤ p ∧ p ≤ K 7 0) ∧ (0 ≤ s ∧ s ≤ 200) ∧ (0 ≤ w ∧ w ≤ 1) := by omega
        ((conv => whnf); (repeat' (first | (refine ⟨fun _ => ?_, fun _ => ?_⟩ <;> first | (exfalso; omega) | (conv => whnf)) | (refine ⟨by omega, ?_⟩; conv => whnf) | (intro _; conv => whnf))))
        refine t_X2_hasCount (by omega) hK hw hr (fun ρ fo ro t12 lt b0 => ?_) (fun ρ fo ro no => ?_)
        · have lc := Mn_L b0 lt
          have cb := cont_lt hw (acK_g hw) (by omega) lc.1
          have Y := hyes cd _ lc
          obtain ⟨pn, rfl⟩ : ∃ pn : Nat, p = pn := ⟨p.toNat, by omega⟩
          obtain ⟨m, hm⟩ : ∃ m : Nat, (K 7 0 - (pn : Int)).toNat = m := ⟨_, rfl⟩
          rw [hm, show ((pn : Int)).toNat = pn by omega] at Y
          have fK : vwC ρ 0 = K := by rw [fo.core]; exact hK
          have ex := BS_ex hw (show (pn : Int) + m = K 7 0 by omega) (lim := ρ 25 0 0 + s) lc.1 (by omega)
          ((conv => whnf); (repeat' (first | (refine ⟨fun _ => ?_, fun _ => ?_⟩ <;> first | (exfalso; omega) | (conv => whnf)) | (refine ⟨by omega, ?_⟩; conv => whnf) | (intro _; conv => whnf))))
          refine t_X2_leastCost (by omega) ?_
          by_cases c : w = 0
          · ((conv => whnf); (repeat' (first | (refine ⟨fun _ => ?_, fun _ => ?_⟩ <;> first | (exfalso; omega) | (conv => whnf)) | (refine ⟨by omega, ?_⟩; conv => whnf) | (intro _; conv => whnf))))
            refine t_X2_leastAge (by omega) fK hw ro (show (pn : Int) + m = K 7 0 by omega) (by omega) ex (fun τ a fo2 ro2 g1 g2 => ?_)
            have cr := ClassR_R ⟨hK, hw, hh, htx, hr⟩ (fo.tr fo2) ro2
            ((conv => whnf); (repeat' (first | (refine ⟨fun _ => ?_, fun _ => ?_⟩ <;> first | (exfalso; omega) | (conv => whnf)) | (refine ⟨by omega, ?_⟩; conv => whnf) | (intro _; conv => whnf))))
            exact Y a g1 (fun _ => g2) (fun e => by omega) τ cr.1 cr.2
          · ((conv => whnf); (repeat' (first | (refine ⟨fun _ => ?_, fun _ => ?_⟩ <;> first | (exfalso; omega) | (conv => whnf)) | (refine ⟨by omega, ?_⟩; conv => whnf) | (intro _; conv => whnf))))
            refine t_X2_greatestAge (by omega) fK hw ro (show (pn : Int) + m = K 7 0 by omega) (by omega) ex (fun τ a fo2 ro2 g1 g2 => ?_)
            have cr := ClassR_R ⟨hK, hw, hh, htx, hr⟩ (fo.tr fo2) ro2
            ((conv => whnf); (repeat' (first | (refine ⟨fun _ => ?_, fun _ => ?_⟩ <;> first | (exfalso; omega) | (conv => whnf)) | (refine ⟨by omega, ?_⟩; conv => whnf) | (intro _; conv => whnf))))
            exact Y a g1 (fun e => by omega) (fun _ => g2) τ cr.1 cr.2
        · have cr := ClassR_R ⟨hK, hw, hh, htx, hr⟩ fo ro
          ((conv => whnf); (repeat' (first | (refine ⟨fun _ => ?_, fun _ => ?_⟩ <;> first | (exfalso; omega) | (conv => whnf)) | (refine ⟨by omega, ?_⟩; conv => whnf) | (intro _; conv => whnf))))
          exact hno cd no ρ cr.1 cr.2
      · ((conv => whnf); (repeat' (first | (refine ⟨fun _ => ?_, fun _ => ?_⟩ <;> first | (exfalso; omega) | (conv => whnf)) | (refine ⟨by omega, ?_⟩; conv => whnf) | (intro _; conv => whnf))))
        exact hbad (fun e => q e.2.2)
    · ((conv => whnf); (repeat' (first | (refine ⟨fun _ => ?_, fun _ => ?_⟩ <;> first | (exfalso; omega) | (conv => whnf)) | (refine ⟨by omega, ?_⟩; conv => whnf) | (intro _; conv => whnf))))
      exact hbad (fun e => q e.2.1)
  · ((conv => whnf); (repeat' (first | (refine ⟨fun _ => ?_, fun _ => ?_⟩ <;> first | (exfalso; omega) | (conv => whnf)) | (refine ⟨by omega, ?_⟩; conv => whnf) | (intro _; conv => whnf))))
    exact hbad (fun e => q (by omega))
/-- without an ash; with one more -/
def CSw (K : KV) (x c : Int) : Prop := cont K (acB0 K x 0) 600 (K 7 0).toNat 0 0 c
def CSp (K : KV) (p a u c : Int) : Prop := cont K (acG K (-1) p a u 0) 600 (K 7 0).toNat 0 0 c
theorem t_X4_without {d : Nat} (hd : 7 ≤ d) {σ : Sto} {Q : Post} {K : KV} {h : Int} {HK : Int → KV} {tl : Int} {tx : Int → Int} {x : Int} (hC : ClassR σ K h HK tl tx) (hx : inR x) (hbad : ¬ (0 ≤ x ∧ x < K 7 1) → Q (some (.inl (-1))) σ) (hno : (0 ≤ x ∧ x < K 7 1) → (∀ c, ¬ CSw K x c) → ∀ σ', ClassR σ' K h HK tl tx → frC σ σ' → Q (some (.inl (-4))) σ') (hyes : (0 ≤ x ∧ x < K 7 1) → ∀ v, isL (CSw K x) v → ∀ σ', ClassR σ' K h HK tl tx → frC σ σ' → Q (some (.inl v)) σ') : WPd d m_X4_without [.inr (0, 0), .inl x] σ Q := by
  obtain ⟨d, rfl⟩ : ∃ k, d = k + 1 := ⟨d - 1, by omega⟩
  intro P hP
  obtain ⟨hK, hw, hh, htx, hr⟩ := hC
  have hn := hw.1
  have hm := hw.2.1
  have a2 : σ 16 0 8 = K 7 1 := by rw [← hK, vw_a]
  (refine go (t := tb_X4_without) (WPd_mono d) hP 60 [] ?_; (conv => whnf); (repeat' (first | (refine ⟨fun _ => ?_, fun _ => ?_⟩ <;> first | (exfalso; omega) | (conv => whnf)) | (refine ⟨by omega, ?_⟩; conv => whnf) | (intro _; conv => whnf))))
  refine t_X4_isAsh (by omega) hx (by omega) (fun q1 => ?_) (fun q => ?_)
  · have q1' : 0 ≤ x ∧ x < K 7 1 := by omega
    obtain ⟨v0, v1, v2⟩ := (vw_in (σ := σ) (c := 0)).2.1 q1.1 q1.2
    rw [hK] at v0
    have pb := (hw.2.2.2.1 x q1'.1 q1'.2).1
    ((conv => whnf); (repeat' (first | (refine ⟨fun _ => ?_, fun _ => ?_⟩ <;> first | (exfalso; omega) | (conv => whnf)) | (refine ⟨by omega, ?_⟩; conv => whnf) | (intro _; conv => whnf))))
    rw [← v0]
    obtain ⟨pn, hpn⟩ : ∃ pn : Nat, K 3 x = pn := ⟨(K 3 x).toNat, by omega⟩
    obtain ⟨m, hm2⟩ : ∃ m : Nat, (K 7 0 - (pn : Int)).toNat = m := ⟨_, rfl⟩
    rw [hpn]
    have xat := axK_at hw q1'.1 q1'.2
    rw [hpn] at xat
    have acp : ∀ a, acB0 K x 0 pn a = some 0 := fun a => by
      unfold acB0
      rw [if_pos (Or.inr xat)]
    have hs : ∀ (q : Int) y, 0 ≤ q → q ≠ pn → acB0 K x 0 q y = acK K q y := fun q y q0 qn => by
      have bx := axK_of K q hw.2.1.1
      have ne : axK K q ≠ x := fun e => by
        rcases bx with z | z
        · omega
        · rw [e, hpn] at z
          omega
      unfold acB0 acK
      rw [Int.add_zero]
      by_cases c : axK K q = -1
      · rw [if_pos c, if_pos (Or.inl c)]
      · rw [if_neg c, if_neg (show ¬ (axK K q = -1 ∨ axK K q = x) by omega)]
    have h00 : acB0 K x 0 0 0 = some 0 := by
      unfold acB0
      rw [if_pos (Or.inl (axK_z hw))]
    have hac : acB (acB0 K x 0) 60000 := fun p a w e => by
      have := acB0_g hw (l := x) (wi := 0) (by omega) p a w e
      omega
    have hpm : (pn : Int) + m = K 7 0 := by omega
    have hN : (K 7 0).toNat = pn + m := by omega
    refine t_X2_leastWithoutAsh (by omega) hK hw hr (show (pn : Int) + m = K 7 0 by omega) (fun ρ v fo ro tb l1 l2 l3 => ?_)
    have cr := ClassR_R ⟨hK, hw, hh, htx, hr⟩ fo ro
    have mn : Mn (CSw K x) 268435456 v := by
      have := Mn_thru hw hac (p := pn) (m := m) hpm h00 hs tb.2.1 tb.2.2 l1 (fun a w a0 a1 e => by
        rw [acp a] at e
        cases e
        have := l2 a a0 a1
        omega) (by
        rcases l3 with z | ⟨a, ab, e⟩
        · exact Or.inl z
        · exact Or.inr ⟨a, 0, ab, acp a, by omega⟩)
      unfold CSw
      rwa [hN]
    clear l3
    have v0 := Mn_0 mn (by omega) (fun c hc => (cont_lt hw hac (by omega) hc).1)
    ((conv => whnf); (repeat' (first | (refine ⟨fun _ => ?_, fun _ => ?_⟩ <;> first | (exfalso; omega) | (conv => whnf)) | (refine ⟨by omega, ?_⟩; conv => whnf) | (intro _; conv => whnf))))
    refine t_X4_costOrNotFound (by omega) (by omega) (fun lt => ?_) (fun ge => ?_)
    · ((conv => whnf); (repeat' (first | (refine ⟨fun _ => ?_, fun _ => ?_⟩ <;> first | (exfalso; omega) | (conv => whnf)) | (refine ⟨by omega, ?_⟩; conv => whnf) | (intro _; conv => whnf))))
      exact hyes q1' v (Mn_L mn lt) ρ cr.1 cr.2
    · ((conv => whnf); (repeat' (first | (refine ⟨fun _ => ?_, fun _ => ?_⟩ <;> first | (exfalso; omega) | (conv => whnf)) | (refine ⟨by omega, ?_⟩; conv => whnf) | (intro _; conv => whnf))))
      exact hno q1' (Mn_no mn ge) ρ cr.1 cr.2
  · ((conv => whnf); (repeat' (first | (refine ⟨fun _ => ?_, fun _ => ?_⟩ <;> first | (exfalso; omega) | (conv => whnf)) | (refine ⟨by omega, ?_⟩; conv => whnf) | (intro _; conv => whnf))))
    exact hbad (fun e => q (by omega))
theorem t_X4_costWith {d : Nat} (hd : 7 ≤ d) {σ : Sto} {Q : Post} {K : KV} {h : Int} {HK : Int → KV} {tl : Int} {tx : Int → Int} {p a u : Int} (hC : ClassR σ K h HK tl tx) (hp : inR p) (ha : inR a) (hu : inR u) (hbad : ¬ ((1 ≤ p ∧ p ≤ K 7 0) ∧ (0 ≤ a ∧ a ≤ 500) ∧ (0 ≤ u ∧ u ≤ 9)) → Q (some (.inl (-1))) σ) (htwo : (1 ≤ p ∧ p ≤ K 7 0) ∧ (0 ≤ a ∧ a ≤ 500) ∧ (0 ≤ u ∧ u ≤ 9) → axK K p ≠ -1 → Q (some (.inl (-2))) σ) (hno : (1 ≤ p ∧ p ≤ K 7 0) ∧ (0 ≤ a ∧ a ≤ 500) ∧ (0 ≤ u ∧ u ≤ 9) → axK K p = -1 → (∀ c, ¬ CSp K p a u c) → ∀ σ', ClassR σ' K h HK tl tx → frC σ σ' → Q (some (.inl (-4))) σ') (hyes : (1 ≤ p ∧ p ≤ K 7 0) ∧ (0 ≤ a ∧ a ≤ 500) ∧ (0 ≤ u ∧ u ≤ 9) → axK K p = -1 → ∀ v, isL (CSp K p a u) v → ∀ σ', ClassR σ' K h HK tl tx → frC σ σ' → Q (some (.inl v)) σ') : WPd d m_X4_costWith [.inr (0, 0), .inl p, .inl a, .inl u] σ Q := by
  obtain ⟨d, rfl⟩ : ∃ k, d = k + 1 := ⟨d - 1, by omega⟩
  intro P hP
  obtain ⟨hK, hw, hh, htx, hr⟩ := hC
  have hn := hw.1
  have hm := hw.2.1
  have a2 : σ 16 0 8 = K 7 1 := by rw [← hK, vw_a]
  have n2 : σ 16 0 7 = K 7 0 := by rw [← hK, vw_n]
  have bx := axK_of K p hw.2.1.1
  (refine go (t := tb_X4_costWith) (WPd_mono d) hP 60 [] ?_; (conv => whnf); (repeat' (first | (refine ⟨fun _ => ?_, fun _ => ?_⟩ <;> first | (exfalso; omega) | (conv => whnf)) | (refine ⟨by omega, ?_⟩; conv => whnf) | (intro _; conv => whnf))))
  refine t_X4_isAshOfRange (by omega) hp ha hu (by omega) (fun q1 => ?_) (fun q => ?_)
  · have q1' : (1 ≤ p ∧ p ≤ K 7 0) ∧ (0 ≤ a ∧ a ≤ 500) ∧ (0 ≤ u ∧ u ≤ 9) := by omega
    ((conv => whnf); (repeat' (first | (refine ⟨fun _ => ?_, fun _ => ?_⟩ <;> first | (exfalso; omega) | (conv => whnf)) | (refine ⟨by omega, ?_⟩; conv => whnf) | (intro _; conv => whnf))))
    refine t_X0_ashAt (by omega) (by omega) (by omega) ?_
    rw [ax_vw, hK]
    by_cases c : axK K p = -1
    · rw [c]
      ((conv => whnf); (repeat' (first | (refine ⟨fun _ => ?_, fun _ => ?_⟩ <;> first | (exfalso; omega) | (conv => whnf)) | (refine ⟨by omega, ?_⟩; conv => whnf) | (intro _; conv => whnf))))
      obtain ⟨pn, rfl⟩ : ∃ pn : Nat, p = pn := ⟨p.toNat, by omega⟩
      obtain ⟨m, hm2⟩ : ∃ m : Nat, (K 7 0 - (pn : Int)).toNat = m := ⟨_, rfl⟩
      have acp : ∀ x, acG K (-1) pn a u 0 pn x = if u + 0 < dif x a then none else some (0 + dif x a * K 6 3) := fun x => by
        unfold acG acP1 acB0
        rw [if_pos rfl, if_pos (Or.inl c)]
      have hs : ∀ (q : Int) y, 0 ≤ q → q ≠ pn → acG K (-1) pn a u 0 q y = acK K q y := fun q y q0 qn => by
        unfold acG
        rw [if_neg qn, acK_0]
      have h00 : acG K (-1) pn a u 0 0 0 = some 0 := by
        rw [hs 0 0 (by omega) (by omega)]
        exact acK_z hw
      have hac := acG_g hw (l := -1) (mp := pn) (ma := a) (mu := u) (wi := 0) (by omega) (by omega)
      have hpm : (pn : Int) + m = K 7 0 := by omega
      have hN : (K 7 0).toNat = pn + m := by omega
      refine t_X2_leastWithAsh (by omega) hK hw hr (show (pn : Int) + m = K 7 0 by omega) q1'.2.1 q1'.2.2 (fun ρ v fo ro tb l1 l2 l3 => ?_)
      have cr := ClassR_R ⟨hK, hw, hh, htx, hr⟩ fo ro
      have mn : Mn (CSp K pn a u) 268435456 v := by
        have := Mn_thru hw hac (p := pn) (m := m) hpm h00 hs tb.2.1 tb.2.2 l1 (fun x w a0 a1 e => by
          rw [acp x] at e
          split at e
          · cases e
          · cases e
            have := l2 x a0 a1 (by omega)
            omega) (by
          rcases l3 with z | ⟨x, ab, ad, e⟩
          · exact Or.inl z
          · exact Or.inr ⟨x, _, ab, (acp x).trans (if_neg (by omega)), by omega⟩)
        unfold CSp
        rwa [hN]
      clear l3
      have v0 := Mn_0 mn (by omega) (fun c hc => (cont_lt hw hac (by omega) hc).1)
      ((conv => whnf); (repeat' (first | (refine ⟨fun _ => ?_, fun _ => ?_⟩ <;> first | (exfalso; omega) | (conv => whnf)) | (refine ⟨by omega, ?_⟩; conv => whnf) | (intro _; conv => whnf))))
      refine t_X4_costOrNotFound (by omega) (by omega) (fun lt => ?_) (fun ge => ?_)
      · ((conv => whnf); (repeat' (first | (refine ⟨fun _ => ?_, fun _ => ?_⟩ <;> first | (exfalso; omega) | (conv => whnf)) | (refine ⟨by omega, ?_⟩; conv => whnf) | (intro _; conv => whnf))))
        exact hyes q1' c v (Mn_L mn lt) ρ cr.1 cr.2
      · ((conv => whnf); (repeat' (first | (refine ⟨fun _ => ?_, fun _ => ?_⟩ <;> first | (exfalso; omega) | (conv => whnf)) | (refine ⟨by omega, ?_⟩; conv => whnf) | (intro _; conv => whnf))))
        exact hno q1' c (Mn_no mn ge) ρ cr.1 cr.2
    · ((conv => whnf); (repeat' (first | (refine ⟨fun _ => ?_, fun _ => ?_⟩ <;> first | (exfalso; omega) | (conv => whnf)) | (refine ⟨by omega, ?_⟩; conv => whnf) | (intro _; conv => whnf))))
      exact htwo q1' c
  · ((conv => whnf); (repeat' (first | (refine ⟨fun _ => ?_, fun _ => ?_⟩ <;> first | (exfalso; omega) | (conv => whnf)) | (refine ⟨by omega, ?_⟩; conv => whnf) | (intro _; conv => whnf))))
    exact hbad (fun e => q (by omega))
