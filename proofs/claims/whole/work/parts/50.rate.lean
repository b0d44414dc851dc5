/-! THE CLASS: rate -/
def isG (a b v : Int) : Prop := (1 ≤ v ∧ a % v = 0 ∧ b % v = 0) ∧ ∀ e, 1 ≤ e → a % e = 0 → b % e = 0 → e ≤ v
theorem isG_u {a b v w : Int} (h : isG a b v) (h' : isG a b w) : v = w := by
  have x := h.2 w h'.1.1 h'.1.2.1 h'.1.2.2
  have y := h'.2 v h.1.1 h.1.2.1 h.1.2.2
  omega
theorem t_X4_greatestDivisor {d : Nat} (hd : 1 ≤ d) {σ : Sto} {Q : Post} {a b : Int} (ha : 0 ≤ a ∧ a ≤ 100000) (hb : 0 < b ∧ b ≤ 100000) (h : ∀ v, isG a b v → Q (some (.inl v)) σ) : WPd d m_X4_greatestDivisor [.inl a, .inl b] σ Q := by
  obtain ⟨d, rfl⟩ : ∃ k, d = k + 1 := ⟨d - 1, by omega⟩
  intro P hP
  have L : ∀ (n : Nat) (i : Int), n = (i - 1).toNat → 1 ≤ i → i ≤ b → (∀ e, i < e → e ≤ b → ¬ (a % e = 0 ∧ b % e = 0)) → P 2 [.inl a, .inl b, .inl i] [] σ := by
    intro n
    induction n with
    | zero =>
      intro i hn h0 h1 iv
      have X := h 1 ⟨⟨by omega, by omega, by omega⟩, fun e e0 e1 e2 => by
        by_cases c : e ≤ b
        · by_cases c2 : 1 < e
          · exact absurd ⟨e1, e2⟩ (iv e (by omega) c)
          · omega
        · rw [Int.emod_eq_of_lt (by omega) (by omega)] at e2
          omega⟩
      (refine go (t := tb_X4_greatestDivisor) (WPd_mono d) hP 60 [2] ?_; (conv => whnf); (repeat' (first | (refine ⟨fun _ => ?_, fun _ => ?_⟩ <;> first | (exfalso; omega) | (conv => whnf)) | (refine ⟨by omega, ?_⟩; conv => whnf) | (intro _; conv => whnf))))
      exact X
    | succ n ih =>
      intro i hn h0 h1 iv
      have a1 := Int.emod_nonneg a (show i ≠ 0 by omega)
      have a2 := Int.emod_lt_of_pos a (show 0 < i by omega)
      have b1 := Int.emod_nonneg b (show i ≠ 0 by omega)
      have b2 := Int.emod_lt_of_pos b (show 0 < i by omega)
      have X := fun (q : ¬ (a % i = 0 ∧ b % i = 0)) => ih (i - 1) (by omega) (by omega) (by omega) (fun e e0 e1 => by
        by_cases c : e = i
        · rw [c]
          exact q
        · exact iv e (by omega) e1)
      have Y := fun (q1 : a % i = 0) (q2 : b % i = 0) => h i ⟨⟨by omega, q1, q2⟩, fun e e0 e1 e2 => by
        by_cases c : e ≤ b
        · by_cases c2 : i < e
          · exact absurd ⟨e1, e2⟩ (iv e c2 c)
          · omega
        · rw [Int.emod_eq_of_lt (by omega) (by omega)] at e2
          omega⟩
      (refine go (t := tb_X4_greatestDivisor) (WPd_mono d) hP 60 [2] ?_; (conv => whnf); (repeat' (first | (refine ⟨fun _ => ?_, fun _ => ?_⟩ <;> first | (exfalso; omega) | (conv => whnf)) | (refine ⟨by omega, ?_⟩; conv => whnf) | (intro _; conv => whnf))))
      · exact X (fun e => by omega)
      · exact X (fun e => by omega)
      · exact Y (by assumption) (by assumption)
  (refine go (t := tb_X4_greatestDivisor) (WPd_mono d) hP 60 [2] ?_; (conv => whnf); (repeat' (first | (refine ⟨fun _ => ?_, fun _ => ?_⟩ <;> first | (exfalso; omega) | (conv => whnf)) | (refine ⟨by omega, ?_⟩; conv => whnf) | (intro _; conv => whnf))))
  exact L _ b rfl (by omega) (by omega) (fun e e0 e1 => by omega)
theorem sum_th {K : KV} (hK : WFK K) : ∀ (m : Nat) (p : Int), 0 ≤ p → p + m ≤ K 7 0 → (m : Int) ≤ sumF (K 0) m p ∧ sumF (K 0) m p ≤ 99 * m
  | 0, p, _, _ => by
    unfold sumF
    omega
  | m + 1, p, h0, h1 => by
    have ih := sum_th hK m (p + 1) (by omega) (by omega)
    have b := (hK.2.2.1 p h0 (by omega)).1
    unfold sumF
    omega
theorem Bst_m {K : KV} (hK : WFK K) {ac : acT} {A O G : Int → Int} (h : Bst K ac 600 A O G) {p : Int} (p0 : 0 ≤ p) : ∀ (m : Nat), p + m ≤ K 7 0 → A p ≤ A (p + m)
  | 0, _ => by
    rw [show p + ((0 : Nat) : Int) = p by omega]
    omega
  | m + 1, hm => by
    have ih := Bst_m hK h p0 m (by omega)
    have s := (Bst_b hK h (p := p + m) (by omega)).2 (by omega)
    have bl := lo_b (K 1 (p + m))
    rw [show p + ((m + 1 : Nat) : Int) = p + m + 1 by omega, s.2.2]
    omega
theorem t_X4_rate {d : Nat} (hd : 6 ≤ d) {σ : Sto} {Q : Post} {K : KV} {h : Int} {HK : Int → KV} {tl : Int} {tx : Int → Int} {u l w : Int} (hC : ClassR σ K h HK tl tx) (hu : inR u) (hl : inR l) (hw0 : inR w) (hbad : ¬ ((0 ≤ u ∧ u ≤ K 7 0) ∧ (0 ≤ l ∧ l ≤ K 7 0) ∧ u < l ∧ (0 ≤ w ∧ w ≤ 1)) → Q (some (.inl (-1))) σ) (hno : (0 ≤ u ∧ u ≤ K 7 0) ∧ (0 ≤ l ∧ l ≤ K 7 0) ∧ u < l ∧ (0 ≤ w ∧ w ≤ 1) → (∀ c, ¬ CS K c) → ∀ σ', ClassR σ' K h HK tl tx → frC σ σ' → Q (some (.inl (-4))) σ') (hsame : (0 ≤ u ∧ u ≤ K 7 0) ∧ (0 ≤ l ∧ l ≤ K 7 0) ∧ u < l ∧ (0 ≤ w ∧ w ≤ 1) → (∃ c, CS K c) → ∀ A O G, Bst K (acK K) 600 A O G → A l = A u → ∀ σ', ClassR σ' K h HK tl tx → frC σ σ' → Q (some (.inl (-4))) σ') (hyes : (0 ≤ u ∧ u ≤ K 7 0) ∧ (0 ≤ l ∧ l ≤ K 7 0) ∧ u < l ∧ (0 ≤ w ∧ w ≤ 1) → (∃ c, CS K c) → ∀ A O G, Bst K (acK K) 600 A O G → A u < A l → ∀ v, isG (sumF (K 0) (l - u).toNat u) (A l - A u) v → ∀ σ', ClassR σ' K h HK tl tx → frC σ σ' → Q (some (.inl (if w = 0 then sumF (K 0) (l - u).toNat u / v else (A l - A u) / v))) σ') : WPd d m_X4_rate [.inr (0, 0), .inl u, .inl l, .inl w] σ Q := by
  obtain ⟨d, rfl⟩ : ∃ k, d = k + 1 := ⟨d - 1, by omega⟩
  intro P hP
  obtain ⟨rfl, hw, hh, htx, hr⟩ := hC
  have hn := hw.1
  have st := fun m => sum_th hw m u
  rw [vw_n] at hn hbad hno hyes hsame
  (refine go (t := tb_X4_rate) (WPd_mono d) hP 60 [] ?_; (conv => whnf); (repeat' (first | (refine ⟨fun _ => ?_, fun _ => ?_⟩ <;> first | (exfalso; omega) | (conv => whnf)) | (refine ⟨by omega, ?_⟩; conv => whnf) | (intro _; conv => whnf))))
  refine t_X4_isPlace (by omega) hu hn (fun q1 => ?_) (fun q => ?_)
  · ((conv => whnf); (repeat' (first | (refine ⟨fun _ => ?_, fun _ => ?_⟩ <;> first | (exfalso; omega) | (conv => whnf)) | (refine ⟨by omega, ?_⟩; conv => whnf) | (intro _; conv => whnf))))
    refine t_X4_isPlace (by omega) hl hn (fun q2 => ?_) (fun q => ?_)
    · ((conv => whnf); (repeat' (first | (refine ⟨fun _ => ?_, fun _ => ?_⟩ <;> first | (exfalso; omega) | (conv => whnf)) | (refine ⟨by omega, ?_⟩; conv => whnf) | (intro _; conv => whnf))))
      · exact hbad (fun e => by omega)
      · refine t_X4_isWithin (by omega) hw0 (by omega) (by omega) (fun q3 => ?_) (fun q => ?_)
        · have cd : (0 ≤ u ∧ u ≤ σ 16 0 7) ∧ (0 ≤ l ∧ l ≤ σ 16 0 7) ∧ u < l ∧ (0 ≤ w ∧ w ≤ 1) := by omega
          ((conv => whnf); (repeat' (first | (refine ⟨fun _ => ?_, fun _ => ?_⟩ <;> first | (exfalso; omega) | (conv => whnf)) | (refine ⟨by omega, ?_⟩; conv => whnf) | (intro _; conv => whnf))))
          refine t_X2_hasCount (by omega) rfl hw hr (fun ρ fo ro t12 lt b0 => ?_) (fun ρ fo ro no => ?_)
          · have cr := ClassR_R ⟨rfl, hw, hh, htx, hr⟩ fo ro
            have bs := Bst_o hw ((RecOk_B ro t12).2.2 lt)
            have ex : ∃ c, CS (vwC σ 0) c := ⟨_, (Mn_L b0 lt).1⟩
            have m1 := Bst_m hw bs (p := u) (by omega) (l - u).toNat (by rw [vw_n]; omega)
            rw [show u + ((l - u).toNat : Int) = l by omega] at m1
            have bu := (Bst_b hw bs (p := u) (by omega)).1 (by rw [vw_n]; omega)
            have bv := (Bst_b hw bs (p := l) (by omega)).1 (by rw [vw_n]; omega)
            have st := st (l - u).toNat (by omega) (by rw [vw_n]; omega)
            have es : sumF (vwC σ 0 0) (l - u).toNat u = sumF (ρ 17 0) (l - u).toNat u := sumF_cg _ _ fun j j0 j1 => by
              rw [(vw_in.1 (show 0 ≤ j by omega) (by omega)).1, fo 17 0 (by decide) (by decide) (by decide) (by decide)]
            have S := fun q => hsame cd ex _ _ _ bs q ρ cr.1 cr.2
            have Y := fun q v g => hyes cd ex _ _ _ bs q v g ρ cr.1 cr.2
            rw [es] at Y st
            ((conv => whnf); (repeat' (first | (refine ⟨fun _ => ?_, fun _ => ?_⟩ <;> first | (exfalso; omega) | (conv => whnf)) | (refine ⟨by omega, ?_⟩; conv => whnf) | (intro _; conv => whnf))))
            · refine t_X0_thicknessBetween (by omega) (by omega) ?_
              ((conv => whnf); (repeat' (first | (refine ⟨fun _ => ?_, fun _ => ?_⟩ <;> first | (exfalso; omega) | (conv => whnf)) | (refine ⟨by omega, ?_⟩; conv => whnf) | (intro _; conv => whnf))))
              refine t_X4_greatestDivisor (by omega) (by omega) (by omega) (fun v g => ?_)
              have Y := Y (by omega) v g
              have g1 := g.1.1
              have g2 := g.2 v g1 g.1.2.1 g.1.2.2
              have g3 : v ≤ 100000 := by
                by_cases c : v ≤ ρ 15 0 l - ρ 15 0 u
                · omega
                · have z := g.1.2.2
                  rw [Int.emod_eq_of_lt (by omega) (by omega)] at z
                  omega
              by_cases c : w = 0
              · rw [if_pos c] at Y
                ((conv => whnf); (repeat' (first | (refine ⟨fun _ => ?_, fun _ => ?_⟩ <;> first | (exfalso; omega) | (conv => whnf)) | (refine ⟨by omega, ?_⟩; conv => whnf) | (intro _; conv => whnf))))
                exact Y
              · rw [if_neg c] at Y
                ((conv => whnf); (repeat' (first | (refine ⟨fun _ => ?_, fun _ => ?_⟩ <;> first | (exfalso; omega) | (conv => whnf)) | (refine ⟨by omega, ?_⟩; conv => whnf) | (intro _; conv => whnf))))
                exact Y
            · exact S (by omega)
          · have cr := ClassR_R ⟨rfl, hw, hh, htx, hr⟩ fo ro
            ((conv => whnf); (repeat' (first | (refine ⟨fun _ => ?_, fun _ => ?_⟩ <;> first | (exfalso; omega) | (conv => whnf)) | (refine ⟨by omega, ?_⟩; conv => whnf) | (intro _; conv => whnf))))
            exact hno cd no ρ cr.1 cr.2
        · ((conv => whnf); (repeat' (first | (refine ⟨fun _ => ?_, fun _ => ?_⟩ <;> first | (exfalso; omega) | (conv => whnf)) | (refine ⟨by omega, ?_⟩; conv => whnf) | (intro _; conv => whnf))))
          exact hbad (fun e => q e.2.2.2)
    · ((conv => whnf); (repeat' (first | (refine ⟨fun _ => ?_, fun _ => ?_⟩ <;> first | (exfalso; omega) | (conv => whnf)) | (refine ⟨by omega, ?_⟩; conv => whnf) | (intro _; conv => whnf))))
      exact hbad (fun e => q e.2.1)
  · ((conv => whnf); (repeat' (first | (refine ⟨fun _ => ?_, fun _ => ?_⟩ <;> first | (exfalso; omega) | (conv => whnf)) | (refine ⟨by omega, ?_⟩; conv => whnf) | (intro _; conv => whnf))))
    exact hbad (fun e => q e.1)
