/-! THE MODEL: rate, without, costWith, widen -/
def dv (a b e : Int) : Prop := a % e = 0 ∧ b % e = 0
theorem dv_s {a b e : Int} : dv a b e ↔ dv b (a % b) e := by
  unfold dv
  constructor
  · rintro ⟨h1, h2⟩
    refine ⟨h2, Int.emod_eq_zero_of_dvd ?_⟩
    rw [Int.emod_def]
    exact Int.dvd_sub (Int.dvd_of_emod_eq_zero h1) (Int.dvd_mul_of_dvd_left (Int.dvd_of_emod_eq_zero h2))
  · rintro ⟨h1, h2⟩
    refine ⟨Int.emod_eq_zero_of_dvd ?_, h1⟩
    rw [← Int.emod_add_mul_ediv a b]
    exact Int.dvd_add (Int.dvd_of_emod_eq_zero h2) (Int.dvd_mul_of_dvd_left (Int.dvd_of_emod_eq_zero h1))
theorem t_X5_rate {d : Nat} (hd : 5 ≤ d) {σ : Sto} {Q : Post} {K : KV} {h : Int} {HK : Int → KV} {tl : Int} {tx : Int → Int} {u l w : Int} (hC : ModelR σ K h HK tl tx) (hu : inR u) (hl : inR l) (hw0 : inR w) (hbad : ¬ ((0 ≤ u ∧ u ≤ K 7 0) ∧ (0 ≤ l ∧ l ≤ K 7 0) ∧ u < l ∧ (0 ≤ w ∧ w ≤ 1)) → Q (some (.inl (-1))) σ) (hno : (0 ≤ u ∧ u ≤ K 7 0) ∧ (0 ≤ l ∧ l ≤ K 7 0) ∧ u < l ∧ (0 ≤ w ∧ w ≤ 1) → (∀ c, ¬ CS K c) → ∀ σ', ModelR σ' K h HK tl tx → frM σ σ' → Q (some (.inl (-4))) σ') (hsame : (0 ≤ u ∧ u ≤ K 7 0) ∧ (0 ≤ l ∧ l ≤ K 7 0) ∧ u < l ∧ (0 ≤ w ∧ w ≤ 1) → (∃ c, CS K c) → ∀ A O G, Bst K (acK K) 600 A O G → A l = A u → ∀ σ', ModelR σ' K h HK tl tx → frM σ σ' → Q (some (.inl (-4))) σ') (hyes : (0 ≤ u ∧ u ≤ K 7 0) ∧ (0 ≤ l ∧ l ≤ K 7 0) ∧ u < l ∧ (0 ≤ w ∧ w ≤ 1) → (∃ c, CS K c) → ∀ A O G, Bst K (acK K) 600 A O G → A u < A l → ∀ v, isG (sumF (K 0) (l - u).toNat u) (A l - A u) v → ∀ σ', ModelR σ' K h HK tl tx → frM σ σ' → Q (some (.inl (if w = 0 then sumF (K 0) (l - u).toNat u / v else (A l - A u) / v))) σ') : WPd d m_X5_rate [.inr (26, 0), .inl u, .inl l, .inl w] σ Q := by
  obtain ⟨d, rfl⟩ : ∃ k, d = k + 1 := ⟨d - 1, by omega⟩
  refine wpd_of fun P hT hP => ?_
  obtain ⟨hK, hw, hh, htx⟩ := hC
  have hn := hw.1
  have n2 : σ 27 0 0 = K 7 0 := by rw [← hK, vm_n]
  have st := fun m => sum_th hw m u
  (refine go (t := tb_X5_rate) (WPd_mono d) hP 60 [88] ?_; (conv => whnf); (repeat' (first | (refine ⟨fun _ => ?_, fun _ => ?_⟩ <;> first | (exfalso; omega) | (conv => whnf)) | (refine ⟨by omega, ?_⟩; conv => whnf) | (intro _; conv => whnf))))
  refine t_X5_isPlace (by omega) hu (by omega) (fun q1 => ?_) (fun q => ?_)
  · ((conv => whnf); (repeat' (first | (refine ⟨fun _ => ?_, fun _ => ?_⟩ <;> first | (exfalso; omega) | (conv => whnf)) | (refine ⟨by omega, ?_⟩; conv => whnf) | (intro _; conv => whnf))))
    refine t_X5_isPlace (by omega) hl (by omega) (fun q2 => ?_) (fun q => ?_)
    · ((conv => whnf); (repeat' (first | (refine ⟨fun _ => ?_, fun _ => ?_⟩ <;> first | (exfalso; omega) | (conv => whnf)) | (refine ⟨by omega, ?_⟩; conv => whnf) | (intro _; conv => whnf))))
      · exact hbad (fun e => by omega)
      · refine t_X5_in (by omega) hw0 (by omega) (by omega) (fun q3 => ?_) (fun q => ?_)
        · have cd : (0 ≤ u ∧ u ≤ K 7 0) ∧ (0 ≤ l ∧ l ≤ K 7 0) ∧ u < l ∧ (0 ≤ w ∧ w ≤ 1) := by omega
          ((conv => whnf); (repeat' (first | (refine ⟨fun _ => ?_, fun _ => ?_⟩ <;> first | (exfalso; omega) | (conv => whnf)) | (refine ⟨by omega, ?_⟩; conv => whnf) | (intro _; conv => whnf))))
          refine t_X5_counts (by omega) hK hw (fun no ρ fo => ?_) (fun ex ρ fo bs => ?_)
          · have cr := ModelR_Q ⟨hK, hw, hh, htx⟩ fo
            ((conv => whnf); (repeat' (first | (refine ⟨fun _ => ?_, fun _ => ?_⟩ <;> first | (exfalso; omega) | (conv => whnf)) | (refine ⟨by omega, ?_⟩; conv => whnf) | (intro _; conv => whnf))))
            exact hno cd no ρ cr.1 cr.2
          · have cr := ModelR_Q ⟨hK, hw, hh, htx⟩ fo
            have e27 : ρ 27 0 = σ 27 0 := fo.1 27 0 (by decide) (by decide)
            have m1 := Bst_m hw bs (p := u) (by omega) (l - u).toNat (by omega)
            rw [show u + ((l - u).toNat : Int) = l by omega] at m1
            have bu := (Bst_b hw bs (p := u) (by omega)).1 (by omega)
            have bv := (Bst_b hw bs (p := l) (by omega)).1 (by omega)
            have st := st (l - u).toNat (by omega) (by omega)
            have es : sumF (K 0) (l - u).toNat u = sumF (fun j => ρ 27 0 (1 + j)) (l - u).toNat u := sumF_cg _ _ fun j j0 j1 => by
              have := ((vm_in (f := σ 27 0)).1 (show 0 ≤ j by omega) (by omega)).1
              rw [hK] at this
              rw [this, e27]
            have S := fun q => hsame cd ex _ _ _ bs q ρ cr.1 cr.2
            have Y := fun q v g => hyes cd ex _ _ _ bs q v g ρ cr.1 cr.2
            rw [es] at Y st
            obtain ⟨th, eth⟩ : ∃ th, sumF (fun j => ρ 27 0 (1 + j)) (l - u).toNat u = th := ⟨_, rfl⟩
            obtain ⟨y, ey⟩ : ∃ y, ρ 35 0 l - ρ 35 0 u = y := ⟨_, rfl⟩
            rw [eth] at Y st
            rw [ey] at Y
            by_cases c : ρ 35 0 l = ρ 35 0 u
            · have S := S c
              ((conv => whnf); (repeat' (first | (refine ⟨fun _ => ?_, fun _ => ?_⟩ <;> first | (exfalso; omega) | (conv => whnf)) | (refine ⟨by omega, ?_⟩; conv => whnf) | (intro _; conv => whnf))))
              exact S
            · have Y := Y (by omega)
              have L88 : ∀ (n : Nat) (a b : Int), n = b.toNat → 0 ≤ b → b ≤ 100000 → 1 ≤ a → a ≤ 100000 → (∀ e, 1 ≤ e → (dv th y e ↔ dv a b e)) → P 88 [.inr (26, 0), .inl u, .inl l, .inl w, .inl th, .inl y, .inl a, .inl b] [] ρ := by
                intro n
                induction n using Nat.strongRecOn with
                | _ n ih =>
                  intro a b hn0 b0 b1 a0 a1 iv
                  by_cases cb : b = 0
                  · subst cb
                    have com := (iv a a0).2 ⟨Int.emod_self, by rw [Int.zero_emod]⟩
                    have gg : isG th y a := ⟨⟨a0, com.1, com.2⟩, fun e e0 e1 e2 => by
                      have := ((iv e e0).1 ⟨e1, e2⟩).1
                      exact Int.le_of_dvd (by omega) (Int.dvd_of_emod_eq_zero this)⟩
                    have Y := Y a gg
                    by_cases c0 : w = 0
                    · rw [if_pos c0] at Y
                      (refine go (t := tb_X5_rate) (WPd_mono d) hP 60 [88] ?_; (conv => whnf); (repeat' (first | (refine ⟨fun _ => ?_, fun _ => ?_⟩ <;> first | (exfalso; omega) | (conv => whnf)) | (refine ⟨by omega, ?_⟩; conv => whnf) | (intro _; conv => whnf))))
                      exact Y
                    · rw [if_neg c0] at Y
                      (refine go (t := tb_X5_rate) (WPd_mono d) hP 60 [88] ?_; (conv => whnf); (repeat' (first | (refine ⟨fun _ => ?_, fun _ => ?_⟩ <;> first | (exfalso; omega) | (conv => whnf)) | (refine ⟨by omega, ?_⟩; conv => whnf) | (intro _; conv => whnf))))
                      exact Y
                  · have r0 := Int.emod_nonneg a (show b ≠ 0 by omega)
                    have r1 := Int.emod_lt_of_pos a (show 0 < b by omega)
                    have X := ih (a % b).toNat (by omega) b (a % b) rfl r0 (by omega) (by omega) b1 (fun e e0 => (iv e e0).trans dv_s)
                    (refine go (t := tb_X5_rate) (WPd_mono d) hP 60 [88] ?_; (conv => whnf); (repeat' (first | (refine ⟨fun _ => ?_, fun _ => ?_⟩ <;> first | (exfalso; omega) | (conv => whnf)) | (refine ⟨by omega, ?_⟩; conv => whnf) | (intro _; conv => whnf))))
                    (refine hT 8 ?_; exact X)
              ((conv => whnf); (repeat' (first | (refine ⟨fun _ => ?_, fun _ => ?_⟩ <;> first | (exfalso; omega) | (conv => whnf)) | (refine ⟨by omega, ?_⟩; conv => whnf) | (intro _; conv => whnf))))
              refine t_X5_thickness (by omega) (by omega) ?_
              rw [eth]
              ((conv => whnf); (repeat' (first | (refine ⟨fun _ => ?_, fun _ => ?_⟩ <;> first | (exfalso; omega) | (conv => whnf)) | (refine ⟨by omega, ?_⟩; conv => whnf) | (intro _; conv => whnf))))
              rw [ey]
              exact L88 _ th y rfl (by omega) (by omega) (by omega) (by omega) (fun e _ => Iff.rfl)
        · ((conv => whnf); (repeat' (first | (refine ⟨fun _ => ?_, fun _ => ?_⟩ <;> first | (exfalso; omega) | (conv => whnf)) | (refine ⟨by omega, ?_⟩; conv => whnf) | (intro _; conv => whnf))))
          exact hbad (fun e => q e.2.2.2)
    · ((conv => whnf); (repeat' (first | (refine ⟨fun _ => ?_, fun _ => ?_⟩ <;> first | (exfalso; omega) | (conv => whnf)) | (refine ⟨by omega, ?_⟩; conv => whnf) | (intro _; conv => whnf))))
      exact hbad (fun e => q (by omega))
  · ((conv => whnf); (repeat' (first | (refine ⟨fun _ => ?_, fun _ => ?_⟩ <;> first | (exfalso; omega) | (conv => whnf)) | (refine ⟨by omega, ?_⟩; conv => whnf) | (intro _; conv => whnf))))
    exact hbad (fun e => q (by omega))
/-- solves in a mode that asks what ac asks -/
theorem t_X5_solvesA {d : Nat} (hd : 3 ≤ d) {σ : Sto} {Q : Post} {K : KV} {l mp ma mu wi : Int} (hK : vwM (σ 27 0) = K) (hw : WFK K) (hM : mdR σ l mp ma mu wi) {ac : acT} (he : ∀ q x, 0 ≤ q → acG K l mp ma mu wi q x = ac q x) (h0 : ac 0 0 = some 0) (hac : acB ac 60000) (hq : ∀ σ', (∀ k i, k ≠ 31 → σ' k i = σ k i) → Mn (cont K ac 600 (K 7 0).toNat 0 0) 100000000 (σ' 31 0 0) → (0 ≤ σ' 31 0 0 ∧ σ' 31 0 0 ≤ 100000000) → Q (some (.inl (σ' 31 0 0))) σ') : WPd d m_X5_solves [.inr (26, 0)] σ Q := by
  have hn := hw.1
  refine t_X5_solves hd hK hw hM (fun ρ f1 f2 => ?_)
  have b : Mn (cont K ac 600 (K 7 0).toNat 0 0) 100000000 (ρ 31 0 0) := by
    have := f2 (K 7 0).toNat 0 0 (by omega) (by omega) (by omega) (by omega)
    exact Mn_iff this (fun c => (cAt_cg (by omega) he).trans (cAt_0 h0))
  exact hq ρ f1 b ⟨Mn_0 b (by decide) (fun c hc => (cont_lt hw hac (by omega) hc).1), Mn_le b⟩
theorem acB0_z {K : KV} (hK : WFK K) {l wi : Int} : acB0 K l wi 0 0 = some 0 := by
  unfold acB0
  rw [if_pos (Or.inl (axK_z hK))]
theorem acB0_6 {K : KV} (hK : WFK K) {l wi : Int} (hwi : 0 ≤ wi ∧ wi ≤ 511) : acB (acB0 K l wi) 60000 := fun p a w e => by
  have := acB0_g hK (l := l) hwi p a w e
  omega
theorem acG_B {K : KV} {l ma mu wi : Int} {q x : Int} (hq : 0 ≤ q) : acG K l (-1) ma mu wi q x = acB0 K l wi q x := by
  unfold acG
  rw [if_neg (by omega)]
theorem plS_9 (σ : Sto) : plS σ 26 0 9 = -1 := by
  unfold plS
  rw [up_j (by decide), up_j (by decide), up_hit]
theorem plS_10 (σ : Sto) : plS σ 26 0 10 = -1 := by
  unfold plS
  rw [up_j (by decide), up_hit]
theorem plS_13 (σ : Sto) : plS σ 26 0 13 = 0 := by
  unfold plS
  rw [up_hit]
theorem upQ {σ : Sto} {j v : Int} (h2 : j ≠ 2) (h4 : j ≠ 4) : offQ σ (upS σ 26 0 j v) := ⟨fun k i a _ => up_k a, up_j (fun e => h2 e.symm), up_j (fun e => h4 e.symm)⟩
theorem t_X5_without {d : Nat} (hd : 4 ≤ d) {σ : Sto} {Q : Post} {K : KV} {h : Int} {HK : Int → KV} {tl : Int} {tx : Int → Int} {x : Int} (hC : ModelR σ K h HK tl tx) (hx : inR x) (hbad : ¬ (0 ≤ x ∧ x < K 7 1) → Q (some (.inl (-1))) σ) (hno : (0 ≤ x ∧ x < K 7 1) → (∀ c, ¬ CSw K x c) → ∀ σ', ModelR σ' K h HK tl tx → frM σ σ' → Q (some (.inl (-4))) σ') (hyes : (0 ≤ x ∧ x < K 7 1) → ∀ v, isL (CSw K x) v → ∀ σ', ModelR σ' K h HK tl tx → frM σ σ' → Q (some (.inl v)) σ') : WPd d m_X5_without [.inr (26, 0), .inl x] σ Q := by
  obtain ⟨d, rfl⟩ : ∃ k, d = k + 1 := ⟨d - 1, by omega⟩
  intro P hP
  obtain ⟨hK, hw, hh, htx⟩ := hC
  have hm := hw.2.1
  have a2 : σ 27 0 151 = K 7 1 := by rw [← hK, vm_a]
  (refine go (t := tb_X5_without) (WPd_mono d) hP 60 [] ?_; (conv => whnf); (repeat' (first | (refine ⟨fun _ => ?_, fun _ => ?_⟩ <;> first | (exfalso; omega) | (conv => whnf)) | (refine ⟨by omega, ?_⟩; conv => whnf) | (intro _; conv => whnf))))
  refine t_X5_isAsh (by omega) hx (by omega) (fun q1 => ?_) (fun q => ?_)
  · have cd : (0 ≤ x ∧ x < K 7 1) := by omega
    ((conv => whnf); (repeat' (first | (refine ⟨fun _ => ?_, fun _ => ?_⟩ <;> first | (exfalso; omega) | (conv => whnf)) | (refine ⟨by omega, ?_⟩; conv => whnf) | (intro _; conv => whnf))))
    refine t_X5_plain (by omega) ?_
    ((conv => whnf); (repeat' (first | (refine ⟨fun _ => ?_, fun _ => ?_⟩ <;> first | (exfalso; omega) | (conv => whnf)) | (refine ⟨by omega, ?_⟩; conv => whnf) | (intro _; conv => whnf))))
    have md : mdR (upS (plS σ) 26 0 9 x) x (-1) 0 0 0 := ⟨up_hit, by rw [up_j (by decide)]; exact plS_10 σ, by rw [up_j (by decide)]; exact plS_13 σ, Or.inl rfl, by decide, by decide, by omega, by decide⟩
    refine t_X5_solvesA (K := K) (ac := acB0 K x 0) (by omega) (show vwM (upS (plS σ) 26 0 9 x 27 0) = K by rw [up_k (by decide), plS_k (by decide)]; exact hK) hw md (fun q y q0 => acG_B q0) (acB0_z hw) (acB0_6 hw (by decide)) (fun ρ f0 b0 bb => ?_)
    have cr := ModelR_Q ⟨hK, hw, hh, htx⟩ (((plS_o σ).tr (upQ (v := x) (by decide) (by decide))).tr (offQ.k (fun k i hk => f0 k i (by omega))))
    by_cases c : ρ 31 0 0 < 100000000
    · have X := hyes cd _ (Mn_L b0 c) ρ cr.1 cr.2
      ((conv => whnf); (repeat' (first | (refine ⟨fun _ => ?_, fun _ => ?_⟩ <;> first | (exfalso; omega) | (conv => whnf)) | (refine ⟨by omega, ?_⟩; conv => whnf) | (intro _; conv => whnf))))
      exact X
    · have X := hno cd (Mn_no b0 c) ρ cr.1 cr.2
      ((conv => whnf); (repeat' (first | (refine ⟨fun _ => ?_, fun _ => ?_⟩ <;> first | (exfalso; omega) | (conv => whnf)) | (refine ⟨by omega, ?_⟩; conv => whnf) | (intro _; conv => whnf))))
      exact X
  · ((conv => whnf); (repeat' (first | (refine ⟨fun _ => ?_, fun _ => ?_⟩ <;> first | (exfalso; omega) | (conv => whnf)) | (refine ⟨by omega, ?_⟩; conv => whnf) | (intro _; conv => whnf))))
    exact hbad (fun e => q (by omega))
theorem t_X5_costWith {d : Nat} (hd : 4 ≤ d) {σ : Sto} {Q : Post} {K : KV} {h : Int} {HK : Int → KV} {tl : Int} {tx : Int → Int} {p a u : Int} (hC : ModelR σ K h HK tl tx) (hp : inR p) (ha : inR a) (hu : inR u) (hbad : ¬ ((1 ≤ p ∧ p ≤ K 7 0) ∧ (0 ≤ a ∧ a ≤ 500) ∧ (0 ≤ u ∧ u ≤ 9)) → Q (some (.inl (-1))) σ) (htwo : (1 ≤ p ∧ p ≤ K 7 0) ∧ (0 ≤ a ∧ a ≤ 500) ∧ (0 ≤ u ∧ u ≤ 9) → axK K p ≠ -1 → Q (some (.inl (-2))) σ) (hno : (1 ≤ p ∧ p ≤ K 7 0) ∧ (0 ≤ a ∧ a ≤ 500) ∧ (0 ≤ u ∧ u ≤ 9) → axK K p = -1 → (∀ c, ¬ CSp K p a u c) → ∀ σ', ModelR σ' K h HK tl tx → frM σ σ' → Q (some (.inl (-4))) σ') (hyes : (1 ≤ p ∧ p ≤ K 7 0) ∧ (0 ≤ a ∧ a ≤ 500) ∧ (0 ≤ u ∧ u ≤ 9) → axK K p = -1 → ∀ v, isL (CSp K p a u) v → ∀ σ', ModelR σ' K h HK tl tx → frM σ σ' → Q (some (.inl v)) σ') : WPd d m_X5_costWith [.inr (26, 0), .inl p, .inl a, .inl u] σ Q := by
  obtain ⟨d, rfl⟩ : ∃ k, d = k + 1 := ⟨d - 1, by omega⟩
  intro P hP
  obtain ⟨hK, hw, hh, htx⟩ := hC
  have hn := hw.1
  have hm := hw.2.1
  have a2 : σ 27 0 151 = K 7 1 := by rw [← hK, vm_a]
  have n2 : σ 27 0 0 = K 7 0 := by rw [← hK, vm_n]
  have bx := axK_of K p hw.2.1.1
  (refine go (t := tb_X5_costWith) (WPd_mono d) hP 60 [] ?_; (conv => whnf); (repeat' (first | (refine ⟨fun _ => ?_, fun _ => ?_⟩ <;> first | (exfalso; omega) | (conv => whnf)) | (refine ⟨by omega, ?_⟩; conv => whnf) | (intro _; conv => whnf))))
  refine t_X5_isNewAsh (by omega) hp ha hu (by omega) (fun q1 => ?_) (fun q => ?_)
  · have cd : (1 ≤ p ∧ p ≤ K 7 0) ∧ (0 ≤ a ∧ a ≤ 500) ∧ (0 ≤ u ∧ u ≤ 9) := by omega
    ((conv => whnf); (repeat' (first | (refine ⟨fun _ => ?_, fun _ => ?_⟩ <;> first | (exfalso; omega) | (conv => whnf)) | (refine ⟨by omega, ?_⟩; conv => whnf) | (intro _; conv => whnf))))
    refine t_X5_ashAt (by omega) (by omega) (by omega) ?_
    rw [hK]
    by_cases c : axK K p = -1
    · rw [c]
      ((conv => whnf); (repeat' (first | (refine ⟨fun _ => ?_, fun _ => ?_⟩ <;> first | (exfalso; omega) | (conv => whnf)) | (refine ⟨by omega, ?_⟩; conv => whnf) | (intro _; conv => whnf))))
      refine t_X5_plain (by omega) ?_
      ((conv => whnf); (repeat' (first | (refine ⟨fun _ => ?_, fun _ => ?_⟩ <;> first | (exfalso; omega) | (conv => whnf)) | (refine ⟨by omega, ?_⟩; conv => whnf) | (intro _; conv => whnf))))
      have md : mdR (upS (upS (upS (plS σ) 26 0 10 p) 26 0 11 a) 26 0 12 u) (-1) p a u 0 := ⟨by rw [up_j (by decide), up_j (by decide), up_j (by decide)]; exact plS_9 σ, by rw [up_j (by decide), up_j (by decide), up_hit], by rw [up_j (by decide), up_j (by decide), up_j (by decide)]; exact plS_13 σ, Or.inr ⟨by rw [up_j (by decide), up_hit], up_hit, cd.2.1⟩, by decide, cd.2.2, by decide, by omega⟩
      have h00 : acG K (-1) p a u 0 0 0 = some 0 := by
        unfold acG
        rw [if_neg (by omega)]
        exact acB0_z hw
      refine t_X5_solvesA (K := K) (ac := acG K (-1) p a u 0) (by omega) (show vwM (upS (upS (upS (plS σ) 26 0 10 p) 26 0 11 a) 26 0 12 u 27 0) = K by rw [up_k (by decide), up_k (by decide), up_k (by decide), plS_k (by decide)]; exact hK) hw md (fun q y q0 => rfl) h00 (acG_g hw (by decide) (by omega)) (fun ρ f0 b0 bb => ?_)
      have cr := ModelR_Q ⟨hK, hw, hh, htx⟩ (((((plS_o σ).tr (upQ (j := 10) (v := p) (by decide) (by decide))).tr (upQ (j := 11) (v := a) (by decide) (by decide))).tr (upQ (j := 12) (v := u) (by decide) (by decide))).tr (offQ.k (fun k i hk => f0 k i (by omega))))
      by_cases c3 : ρ 31 0 0 < 100000000
      · have X := hyes cd c _ (Mn_L b0 c3) ρ cr.1 cr.2
        ((conv => whnf); (repeat' (first | (refine ⟨fun _ => ?_, fun _ => ?_⟩ <;> first | (exfalso; omega) | (conv => whnf)) | (refine ⟨by omega, ?_⟩; conv => whnf) | (intro _; conv => whnf))))
        exact X
      · have X := hno cd c (Mn_no b0 c3) ρ cr.1 cr.2
        ((conv => whnf); (repeat' (first | (refine ⟨fun _ => ?_, fun _ => ?_⟩ <;> first | (exfalso; omega) | (conv => whnf)) | (refine ⟨by omega, ?_⟩; conv => whnf) | (intro _; conv => whnf))))
        exact X
    · ((conv => whnf); (repeat' (first | (refine ⟨fun _ => ?_, fun _ => ?_⟩ <;> first | (exfalso; omega) | (conv => whnf)) | (refine ⟨by omega, ?_⟩; conv => whnf) | (intro _; conv => whnf))))
      exact htwo cd c
  · ((conv => whnf); (repeat' (first | (refine ⟨fun _ => ?_, fun _ => ?_⟩ <;> first | (exfalso; omega) | (conv => whnf)) | (refine ⟨by omega, ?_⟩; conv => whnf) | (intro _; conv => whnf))))
    exact hbad (fun e => q (by omega))
theorem t_X5_widen {d : Nat} (hd : 4 ≤ d) {σ : Sto} {Q : Post} {K : KV} {h : Int} {HK : Int → KV} {tl : Int} {tx : Int → Int} (hC : ModelR σ K h HK tl tx) (hyes : ∀ v, isW K v → ∀ σ', ModelR σ' K h HK tl tx → frM σ σ' → Q (some (.inl v)) σ') : WPd d m_X5_widen [.inr (26, 0)] σ Q := by
  obtain ⟨d, rfl⟩ : ∃ k, d = k + 1 := ⟨d - 1, by omega⟩
  refine wpd_of fun P hT hP => ?_
  obtain ⟨hK, hw, hh, htx⟩ := hC
  have hn := hw.1
  have top : ∃ c, WS K 500 c := WS_top hw (by decide) _ 0 0 (by omega) (by omega) (by omega) (by omega)
  (refine go (t := tb_X5_widen) (WPd_mono d) hP 60 [29] ?_; (conv => whnf); (repeat' (first | (refine ⟨fun _ => ?_, fun _ => ?_⟩ <;> first | (exfalso; omega) | (conv => whnf)) | (refine ⟨by omega, ?_⟩; conv => whnf) | (intro _; conv => whnf))))
  refine t_X5_plain (by omega) ?_
  ((conv => whnf); (repeat' (first | (refine ⟨fun _ => ?_, fun _ => ?_⟩ <;> first | (exfalso; omega) | (conv => whnf)) | (refine ⟨by omega, ?_⟩; conv => whnf) | (intro _; conv => whnf))))
  have S : ∀ (τ : Sto) (e : Int) (Q' : Post), offQ σ τ → τ 26 0 9 = -1 → τ 26 0 10 = -1 → (0 ≤ e ∧ e ≤ 500) → (∀ ρ, offQ σ ρ → ρ 26 0 9 = -1 → ρ 26 0 10 = -1 → ρ 26 0 13 = e → (0 ≤ ρ 31 0 0 ∧ ρ 31 0 0 ≤ 100000000) → (ρ 31 0 0 < 100000000 → ∃ c, WS K e c) → (¬ ρ 31 0 0 < 100000000 → ∀ c, ¬ WS K e c) → Q' (some (.inl (ρ 31 0 0))) ρ) → WPd d m_X5_solves [.inr (26, 0)] (upS τ 26 0 13 e) Q' := by
    intro τ e Q' fo t9 t10 he hq
    have md : mdR (upS τ 26 0 13 e) (-1) (-1) 0 0 e := ⟨by rw [up_j (by decide)]; exact t9, by rw [up_j (by decide)]; exact t10, up_hit, Or.inl rfl, he, by decide, by decide, by decide⟩
    refine t_X5_solvesA (K := K) (ac := acB0 K (-1) e) (by omega) (show vwM (upS τ 26 0 13 e 27 0) = K by rw [up_k (by decide), fo.1 27 0 (by decide) (by decide)]; exact hK) hw md (fun q y q0 => acG_B q0) (acB0_z hw) (acB0_6 hw (by omega)) (fun ρ f0 b0 bb => ?_)
    have f26 : ∀ j, ρ 26 0 j = upS τ 26 0 13 e 26 0 j := fun j => by rw [f0 26 0 (by decide)]
    exact hq ρ ((fo.tr (upQ (by decide) (by decide))).tr (offQ.k (fun k i hk => f0 k i (by omega)))) (by rw [f26, up_j (by decide)]; exact t9) (by rw [f26, up_j (by decide)]; exact t10) (by rw [f26, up_hit]) bb (fun lt => ⟨_, (Mn_L b0 lt).1⟩) (fun ge => Mn_no b0 ge)
  have L29 : ∀ (n : Nat) (l h1 : Int) (τ : Sto), n = (h1 - l).toNat → 0 ≤ l → l ≤ h1 → h1 ≤ 500 → offQ σ τ → τ 26 0 9 = -1 → τ 26 0 10 = -1 → (∃ c, WS K h1 c) → (∀ e, 0 ≤ e → e < l → ∀ c, ¬ WS K e c) → P 29 [.inr (26, 0), .inl l, .inl h1] [] τ := by
    intro n
    induction n using Nat.strongRecOn with
    | _ n ih =>
      intro l h1 τ hn0 l0 lh h5 fo t9 t10 ex no
      obtain ⟨v0, hv0⟩ := ex
      by_cases c : l < h1
      · have b1 : 0 ≤ (l + h1) / 2 ∧ (l + h1) / 2 ≤ 500 := by omega
        have b2 : l ≤ (l + h1) / 2 ∧ (l + h1) / 2 < h1 := by omega
        (refine go (t := tb_X5_widen) (WPd_mono d) hP 60 [29] ?_; (conv => whnf); (repeat' (first | (refine ⟨fun _ => ?_, fun _ => ?_⟩ <;> first | (exfalso; omega) | (conv => whnf)) | (refine ⟨by omega, ?_⟩; conv => whnf) | (intro _; conv => whnf))))
        refine S τ ((l + h1) / 2) _ fo t9 t10 b1 (fun ρ fo2 r9 r10 r13 bb g1 g2 => ?_)
        by_cases c2 : ρ 31 0 0 < 100000000
        · have X := ih ((l + h1) / 2 - l).toNat (by omega) l ((l + h1) / 2) ρ rfl l0 b2.1 (by omega) fo2 r9 r10 (g1 c2) no
          ((conv => whnf); (repeat' (first | (refine ⟨fun _ => ?_, fun _ => ?_⟩ <;> first | (exfalso; omega) | (conv => whnf)) | (refine ⟨by omega, ?_⟩; conv => whnf) | (intro _; conv => whnf))))
          rw [r13]
          exact X
        · have X := ih (h1 - ((l + h1) / 2 + 1)).toNat (by omega) ((l + h1) / 2 + 1) h1 ρ rfl (by omega) (by omega) h5 fo2 r9 r10 ⟨v0, hv0⟩ (fun e e0 e1 c hc => by
            exact g2 c2 c (WS_m (by omega) hc))
          ((conv => whnf); (repeat' (first | (refine ⟨fun _ => ?_, fun _ => ?_⟩ <;> first | (exfalso; omega) | (conv => whnf)) | (refine ⟨by omega, ?_⟩; conv => whnf) | (intro _; conv => whnf))))
          rw [r13]
          exact X
      · have e : l = h1 := by omega
        subst e
        have cr := ModelR_Q ⟨hK, hw, hh, htx⟩ fo
        have X := hyes l ⟨l0, ⟨v0, hv0⟩, no⟩ τ cr.1 cr.2
        (refine go (t := tb_X5_widen) (WPd_mono d) hP 60 [29] ?_; (conv => whnf); (repeat' (first | (refine ⟨fun _ => ?_, fun _ => ?_⟩ <;> first | (exfalso; omega) | (conv => whnf)) | (refine ⟨by omega, ?_⟩; conv => whnf) | (intro _; conv => whnf))))
        exact X
  refine S (plS σ) 500 _ (plS_o σ) (plS_9 σ) (plS_10 σ) (by decide) (fun ρ fo r9 r10 r13 bb g1 g2 => ?_)
  by_cases c : ρ 31 0 0 < 100000000
  · have X := L29 _ 0 500 ρ rfl (by decide) (by decide) (by decide) fo r9 r10 top (fun e e0 e1 => by omega)
    clear top
    ((conv => whnf); (repeat' (first | (refine ⟨fun _ => ?_, fun _ => ?_⟩ <;> first | (exfalso; omega) | (conv => whnf)) | (refine ⟨by omega, ?_⟩; conv => whnf) | (intro _; conv => whnf))))
    exact X
  · exfalso
    obtain ⟨v, hv⟩ := top
    exact g2 c v hv
