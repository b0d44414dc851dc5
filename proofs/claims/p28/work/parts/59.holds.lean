/-! THE LAW: holds -/
theorem sumF_b {f : Int → Int} {k : Int} : ∀ (n : Nat) (i : Int), (∀ j, i ≤ j → j < i + n → 0 ≤ f j ∧ f j ≤ k) → 0 ≤ sumF f n i ∧ sumF f n i ≤ n * k
  | 0, _, _ => by
    show (0 : Int) ≤ 0 ∧ (0 : Int) ≤ ((0 : Nat) : Int) * k
    rw [show ((0 : Nat) : Int) = 0 from rfl, Int.zero_mul]
    omega
  | n + 1, i, h => by
    have a := h i (by omega) (by omega)
    have ih := sumF_b n (i + 1) (fun j h1 h2 => h j (by omega) (by omega))
    rw [sumF_s, show ((n + 1 : Nat) : Int) = (n : Int) + 1 by omega, Int.add_mul, Int.one_mul]
    omega
theorem t_X6_holds {d : Nat} (hd : 8 ≤ d) {σ : Sto} {Q : Post} {n : Int} {K : KV} {h : Int} {HK : Int → KV} {tl : Int} {tx : Int → Int} (hC : ClassR σ K h HK tl tx) (hn : n = K 7 0) (h1 : 1 ≤ n) (hq : ∀ σ', ClassR σ' K h HK tl tx → frC σ σ' → Q (some (.inl (1))) σ') : WPd d m_X6_holds [.inr (0, 0), .inl n] σ Q := by
  obtain ⟨d, rfl⟩ : ∃ k, d = k + 1 := ⟨d - 1, by omega⟩
  refine wpd_of fun P hT hP => ?_
  have hw := hC.2.1
  have n50 := hw.1
  have a6 := hw.2.1
  (refine go (t := tb_X6_holds) (WPd_mono d) hP 300 [107] ?_; (conv => whnf); (repeat' (first | (refine ⟨fun _ => ?_, fun _ => ?_⟩ <;> first | (exfalso; omega) | (conv => whnf)) | (refine ⟨by omega, ?_⟩; conv => whnf) | (intro _; conv => whnf))))
  refine t_ask_best (by omega) hC (fun no σ1 c1 f1 => ?_) (fun c0 A O G hY σ1 c1 f1 => ?_)
  · ((conv => whnf); (repeat' (first | (refine ⟨fun _ => ?_, fun _ => ?_⟩ <;> first | (exfalso; omega) | (conv => whnf)) | (refine ⟨by omega, ?_⟩; conv => whnf) | (intro _; conv => whnf))))
    refine t_X4_ways (by omega) c1 (fun _ σ2 c2 f2 => ?_) (fun ex => absurd ex (fun e => no _ e.choose_spec))
    ((conv => whnf); (repeat' (first | (refine ⟨fun _ => ?_, fun _ => ?_⟩ <;> first | (exfalso; omega) | (conv => whnf)) | (refine ⟨by omega, ?_⟩; conv => whnf) | (intro _; conv => whnf))))
    refine t_ask_widen (by omega) c2 (fun v vb _ vn => ?_)
    have vn := vn no
    ((conv => whnf); (repeat' (first | (refine ⟨fun _ => ?_, fun _ => ?_⟩ <;> first | (exfalso; omega) | (conv => whnf)) | (refine ⟨by omega, ?_⟩; conv => whnf) | (intro _; conv => whnf))))
    refine t_X4_age (by omega) c2 (by omega) (fun e => absurd (show 0 ≤ n ∧ n ≤ K 7 0 by omega) e) (fun _ _ σ3 c3 f3 => ?_) (fun _ ex => absurd ex (fun e => no _ e.choose_spec))
    ((conv => whnf); (repeat' (first | (refine ⟨fun _ => ?_, fun _ => ?_⟩ <;> first | (exfalso; omega) | (conv => whnf)) | (refine ⟨by omega, ?_⟩; conv => whnf) | (intro _; conv => whnf))))
    exact hq σ3 c3 ((f1.tr f2).tr f3)
  · have cb := CS_b hw hY.1.1
    have hY1 := hY
    ((conv => whnf); (repeat' (first | (refine ⟨fun _ => ?_, fun _ => ?_⟩ <;> first | (exfalso; omega) | (conv => whnf)) | (refine ⟨by omega, ?_⟩; conv => whnf) | (intro _; conv => whnf))))
    refine t_ask_ways (by omega) c1 hY (fun w wb σ2 c2 f2 => ?_)
    ((conv => whnf); (repeat' (first | (refine ⟨fun _ => ?_, fun _ => ?_⟩ <;> first | (exfalso; omega) | (conv => whnf)) | (refine ⟨by omega, ?_⟩; conv => whnf) | (intro _; conv => whnf))))
    refine t_ask_widen (by omega) c2 (fun v vb vy _ => ?_)
    have vy := vy ⟨_, hY.1.1⟩
    ((conv => whnf); (repeat' (first | (refine ⟨fun _ => ?_, fun _ => ?_⟩ <;> first | (exfalso; omega) | (conv => whnf)) | (refine ⟨by omega, ?_⟩; conv => whnf) | (intro _; conv => whnf))))
    refine t_ask_age (by omega) c2 hY (by omega) (fun σ3 c3 f3 => ?_)
    have A0 : A 0 = 0 := hY.2.1
    rw [A0]
    ((conv => whnf); (repeat' (first | (refine ⟨fun _ => ?_, fun _ => ?_⟩ <;> first | (exfalso; omega) | (conv => whnf)) | (refine ⟨by omega, ?_⟩; conv => whnf) | (intro _; conv => whnf))))
    refine t_ask_age (by omega) c3 hY (by omega) (fun σ4 c4 f4 => ?_)
    have An := (Bst_b hw hY.2 (p := n) (by omega)).1 (by omega)
    ((conv => whnf); (repeat' (first | (refine ⟨fun _ => ?_, fun _ => ?_⟩ <;> first | (exfalso; omega) | (conv => whnf)) | (refine ⟨by omega, ?_⟩; conv => whnf) | (intro _; conv => whnf))))
    refine t_ask_total (by omega) c4 hY (by omega) (fun σ5 c5 f5 => ?_)
    rw [totA_4, ← hn]
    ((conv => whnf); (repeat' (first | (refine ⟨fun _ => ?_, fun _ => ?_⟩ <;> first | (exfalso; omega) | (conv => whnf)) | (refine ⟨by omega, ?_⟩; conv => whnf) | (intro _; conv => whnf))))
    refine t_ask_total (by omega) c5 hY (by omega) (fun σ6 c6 f6 => ?_)
    rw [totA_4, ← hn]
    have fr6 : frC σ σ6 := ((((f1.tr f2).tr f3).tr f4).tr f5).tr f6
    ((conv => whnf); (repeat' (first | (refine ⟨fun _ => ?_, fun _ => ?_⟩ <;> first | (exfalso; omega) | (conv => whnf)) | (refine ⟨by omega, ?_⟩; conv => whnf) | (intro _; conv => whnf))))
    have TOT := yes_tot hw hY
    obtain ⟨D, eD⟩ : ∃ D : Int → Int, D = fun i => dif (A (K 3 i)) (K 4 i) := ⟨_, rfl⟩
    rw [← eD] at TOT
    have Db : ∀ j, 0 ≤ j → j < K 7 1 → 0 ≤ D j ∧ D j ≤ 9 := fun j j0 j1 => by
      have a := (yes_ash hw hY j0 j1).2
      have b := (hw.2.2.2.1 j j0 j1).2.2
      have e : D j = dif (A (K 3 j)) (K 4 j) := by rw [eD]
      have d0 : 0 ≤ dif (A (K 3 j)) (K 4 j) := by
        unfold dif
        omega
      omega
    have Dt := sumF_b (f := D) (k := 9) (K 7 1).toNat 0 (fun j j0 j1 => Db j j0 (by omega))
    -- the end, from the sum on
    have C392 : ∀ (x : Int) (τ : Sto), ClassR τ K h HK tl tx → frC σ τ → P 392 [.inr (0, 0), .inl n, .inl c0, .inl 0, .inl (sumF D (K 7 1).toNat 0), .inl 1, .inl x] [] τ := by
      intro x τ c1 f1
      (refine go (t := tb_X6_holds) (WPd_mono d) hP 300 [] ?_; (conv => whnf); (repeat' (first | (refine ⟨fun _ => ?_, fun _ => ?_⟩ <;> first | (exfalso; omega) | (conv => whnf)) | (refine ⟨by omega, ?_⟩; conv => whnf) | (intro _; conv => whnf))))
      refine t_ask_total (by omega) c1 hY (by omega) (fun σ2 c2 f2 => ?_)
      ((conv => whnf); (repeat' (first | (refine ⟨fun _ => ?_, fun _ => ?_⟩ <;> first | (exfalso; omega) | (conv => whnf)) | (refine ⟨by omega, ?_⟩; conv => whnf) | (intro _; conv => whnf))))
      refine t_ask_F (by omega) c2 ?_
      ((conv => whnf); (repeat' (first | (refine ⟨fun _ => ?_, fun _ => ?_⟩ <;> first | (exfalso; omega) | (conv => whnf)) | (refine ⟨by omega, ?_⟩; conv => whnf) | (intro _; conv => whnf))))
      refine t_ask_total (by omega) c2 hY (by omega) (fun σ3 c3 f3 => ?_)
      ((conv => whnf); (repeat' (first | (refine ⟨fun _ => ?_, fun _ => ?_⟩ <;> first | (exfalso; omega) | (conv => whnf)) | (refine ⟨by omega, ?_⟩; conv => whnf) | (intro _; conv => whnf))))
      refine t_ask_Th (by omega) c3 ?_
      ((conv => whnf); (repeat' (first | (refine ⟨fun _ => ?_, fun _ => ?_⟩ <;> first | (exfalso; omega) | (conv => whnf)) | (refine ⟨by omega, ?_⟩; conv => whnf) | (intro _; conv => whnf))))
      refine t_ask_total (by omega) c3 hY (by omega) (fun σ4 c4 f4 => ?_)
      ((conv => whnf); (repeat' (first | (refine ⟨fun _ => ?_, fun _ => ?_⟩ <;> first | (exfalso; omega) | (conv => whnf)) | (refine ⟨by omega, ?_⟩; conv => whnf) | (intro _; conv => whnf))))
      refine t_ask_G (by omega) c4 ?_
      ((conv => whnf); (repeat' (first | (refine ⟨fun _ => ?_, fun _ => ?_⟩ <;> first | (exfalso; omega) | (conv => whnf)) | (refine ⟨by omega, ?_⟩; conv => whnf) | (intro _; conv => whnf))))
      refine t_ask_W (by omega) c4 ?_
      rw [totA_0, totA_1, totA_2]
      ((conv => whnf); (repeat' (first | (refine ⟨fun _ => ?_, fun _ => ?_⟩ <;> first | (exfalso; omega) | (conv => whnf)) | (refine ⟨by omega, ?_⟩; conv => whnf) | (intro _; conv => whnf))))
      refine t_ask_total (by omega) c4 hY (by omega) (fun σ5 c5 f5 => ?_)
      rw [totA_3, ← eD]
      ((conv => whnf); (repeat' (first | (refine ⟨fun _ => ?_, fun _ => ?_⟩ <;> first | (exfalso; omega) | (conv => whnf)) | (refine ⟨by omega, ?_⟩; conv => whnf) | (intro _; conv => whnf))))
      refine t_ask_bound (by omega) c5 hY (by omega) (by omega) (by omega) (fun low lb lB lm _ σ6 c6 f6 => ?_)
      have lm := lm rfl
      ((conv => whnf); (repeat' (first | (refine ⟨fun _ => ?_, fun _ => ?_⟩ <;> first | (exfalso; omega) | (conv => whnf)) | (refine ⟨by omega, ?_⟩; conv => whnf) | (intro _; conv => whnf))))
      refine t_ask_bound (by omega) c6 hY (by omega) (by omega) (by omega) (fun high hb hB _ hm σ7 c7 f7 => ?_)
      have hm := hm rfl
      have at0 := yes_BS hw hY (p := n / 2) (by omega) (by omega) (s := 0) (by omega)
      have l1 := lm _ at0
      have h1 := hm _ at0
      have Ab := (Bst_b hw hY.2 (p := n / 2) (by omega)).1 (by omega)
      ((conv => whnf); (repeat' (first | (refine ⟨fun _ => ?_, fun _ => ?_⟩ <;> first | (exfalso; omega) | (conv => whnf)) | (refine ⟨by omega, ?_⟩; conv => whnf) | (intro _; conv => whnf))))
      refine t_ask_age (by omega) c7 hY (by omega) (fun σ8 c8 f8 => ?_)
      ((conv => whnf); (repeat' (first | (refine ⟨fun _ => ?_, fun _ => ?_⟩ <;> first | (exfalso; omega) | (conv => whnf)) | (refine ⟨by omega, ?_⟩; conv => whnf) | (intro _; conv => whnf))))
      refine t_ask_age (by omega) c8 hY (by omega) (fun σ9 c9 f9 => ?_)
      ((conv => whnf); (repeat' (first | (refine ⟨fun _ => ?_, fun _ => ?_⟩ <;> first | (exfalso; omega) | (conv => whnf)) | (refine ⟨by omega, ?_⟩; conv => whnf) | (intro _; conv => whnf))))
      refine t_ask_bound (by omega) c9 hY (by omega) (by omega) (by omega) (fun low9 lb9 _ lm9 _ σ10 c10 f10 => ?_)
      have lm9 := lm9 rfl _ (BS_m (by omega) lB)
      ((conv => whnf); (repeat' (first | (refine ⟨fun _ => ?_, fun _ => ?_⟩ <;> first | (exfalso; omega) | (conv => whnf)) | (refine ⟨by omega, ?_⟩; conv => whnf) | (intro _; conv => whnf))))
      refine t_ask_bound (by omega) c10 hY (by omega) (by omega) (by omega) (fun high9 hb9 _ _ hm9 σ11 c11 f11 => ?_)
      have hm9 := hm9 rfl _ (BS_m (by omega) hB)
      ((conv => whnf); (repeat' (first | (refine ⟨fun _ => ?_, fun _ => ?_⟩ <;> first | (exfalso; omega) | (conv => whnf)) | (refine ⟨by omega, ?_⟩; conv => whnf) | (intro _; conv => whnf))))
      exact hq σ11 c11 ((((((((((f1.tr f2).tr f3).tr f4).tr f5).tr f6).tr f7).tr f8).tr f9).tr f10).tr f11)
    have L2 : ∀ (m : Nat) (x off : Int) (τ : Sto), m = (K 7 1 - x).toNat → 0 ≤ x → x ≤ K 7 1 → off + sumF D m x = sumF D (K 7 1).toNat 0 → 0 ≤ off ∧ off ≤ 9 * x → ClassR τ K h HK tl tx → frC σ τ → P 255 [.inr (0, 0), .inl n, .inl c0, .inl 0, .inl off, .inl 1, .inl x] [] τ := by
      intro m
      induction m with
      | zero =>
        intro x off τ hm x0 x1 io ob c1 f1
        have e : off = sumF D (K 7 1).toNat 0 := by
          have e0 : sumF D 0 x = 0 := rfl
          omega
        subst e
        have X := C392 x τ c1 f1
        (refine go (t := tb_X6_holds) (WPd_mono d) hP 300 [392] ?_; (conv => whnf); (repeat' (first | (refine ⟨fun _ => ?_, fun _ => ?_⟩ <;> first | (exfalso; omega) | (conv => whnf)) | (refine ⟨by omega, ?_⟩; conv => whnf) | (intro _; conv => whnf))))
        refine t_ask_ashes (by omega) c1 ?_
        ((conv => whnf); (repeat' (first | (refine ⟨fun _ => ?_, fun _ => ?_⟩ <;> first | (exfalso; omega) | (conv => whnf)) | (refine ⟨by omega, ?_⟩; conv => whnf) | (intro _; conv => whnf))))
        exact X
      | succ m ih =>
        intro x off τ hm x0 x1 io ob c1 f1
        have dx := Db x x0 (by omega)
        rw [sumF_s] at io
        have ya := yes_ash hw hY x0 (by omega)
        have pb := hw.2.2.2.1 x x0 (by omega)
        have eDx : D x = dif (A (K 3 x)) (K 4 x) := by rw [eD]
        have C299 : ∀ (ρ : Sto) (off' by' : Int), off' = off + D x → by' = A (K 3 x) - K 4 x → ClassR ρ K h HK tl tx → frC σ ρ → P 299 [.inr (0, 0), .inl n, .inl c0, .inl 0, .inl off', .inl 1, .inl x, .inl by'] [] ρ := by
          intro ρ off' by' eo eb c2 f2
          have db : dif (A (K 3 x)) (K 4 x) = max by' (-by') := by rw [eb]; rfl
          (refine go (t := tb_X6_holds) (WPd_mono d) hP 300 [255] ?_; (conv => whnf); (repeat' (first | (refine ⟨fun _ => ?_, fun _ => ?_⟩ <;> first | (exfalso; omega) | (conv => whnf)) | (refine ⟨by omega, ?_⟩; conv => whnf) | (intro _; conv => whnf))))
          refine t_ask_ash (by omega) 0 3 c2 (by omega) (by decide) ?_
          ((conv => whnf); (repeat' (first | (refine ⟨fun _ => ?_, fun _ => ?_⟩ <;> first | (exfalso; omega) | (conv => whnf)) | (refine ⟨by omega, ?_⟩; conv => whnf) | (intro _; conv => whnf))))
          refine t_ask_age (by omega) c2 hY (show 0 ≤ K 3 x ∧ K 3 x ≤ K 7 0 by omega) (fun σ3 c3 f3 => ?_)
          ((conv => whnf); (repeat' (first | (refine ⟨fun _ => ?_, fun _ => ?_⟩ <;> first | (exfalso; omega) | (conv => whnf)) | (refine ⟨by omega, ?_⟩; conv => whnf) | (intro _; conv => whnf))))
          refine t_ask_ash (by omega) 1 4 c3 (by omega) (by decide) ?_
          ((conv => whnf); (repeat' (first | (refine ⟨fun _ => ?_, fun _ => ?_⟩ <;> first | (exfalso; omega) | (conv => whnf)) | (refine ⟨by omega, ?_⟩; conv => whnf) | (intro _; conv => whnf))))
          refine t_ask_ash (by omega) 2 5 c3 (by omega) (by decide) ?_
          ((conv => whnf); (repeat' (first | (refine ⟨fun _ => ?_, fun _ => ?_⟩ <;> first | (exfalso; omega) | (conv => whnf)) | (refine ⟨by omega, ?_⟩; conv => whnf) | (intro _; conv => whnf))))
          refine t_ask_ash (by omega) 2 5 c3 (by omega) (by decide) ?_
          ((conv => whnf); (repeat' (first | (refine ⟨fun _ => ?_, fun _ => ?_⟩ <;> first | (exfalso; omega) | (conv => whnf)) | (refine ⟨by omega, ?_⟩; conv => whnf) | (intro _; conv => whnf))))
          refine t_ask_without (by omega) c3 (by omega) (fun v hv σ4 c4 f4 => ?_)
          have vb := cst_le (WFK_delA hw ⟨x0, show x < K 7 1 by omega⟩) hY.1 (fun c hc => CS_del_le hw x0 (show x < K 7 1 by omega) hc) hv
          have X := ih (x + 1) off' σ4 (by omega) (by omega) (by omega) (by omega) (by omega) c4 ((f2.tr f3).tr f4)
          ((conv => whnf); (repeat' (first | (refine ⟨fun _ => ?_, fun _ => ?_⟩ <;> first | (exfalso; omega) | (conv => whnf)) | (refine ⟨by omega, ?_⟩; conv => whnf) | (intro _; conv => whnf))))
          (refine hT 7 ?_; exact X)
        (refine go (t := tb_X6_holds) (WPd_mono d) hP 300 [299] ?_; (conv => whnf); (repeat' (first | (refine ⟨fun _ => ?_, fun _ => ?_⟩ <;> first | (exfalso; omega) | (conv => whnf)) | (refine ⟨by omega, ?_⟩; conv => whnf) | (intro _; conv => whnf))))
        refine t_ask_ashes (by omega) c1 ?_
        ((conv => whnf); (repeat' (first | (refine ⟨fun _ => ?_, fun _ => ?_⟩ <;> first | (exfalso; omega) | (conv => whnf)) | (refine ⟨by omega, ?_⟩; conv => whnf) | (intro _; conv => whnf))))
        refine t_ask_off (by omega) c1 hY (by omega) (fun σ2 c2 f2 => ?_)
        have d1 : D x = max (A (K 3 x) - K 4 x) (-(A (K 3 x) - K 4 x)) := by rw [eDx]; rfl
        ((conv => whnf); (repeat' (first | (refine ⟨fun _ => ?_, fun _ => ?_⟩ <;> first | (exfalso; omega) | (conv => whnf)) | (refine ⟨by omega, ?_⟩; conv => whnf) | (intro _; conv => whnf))))
        · exact C299 σ2 _ _ (by omega) (by omega) c2 (f1.tr f2)
        · exact C299 σ2 _ _ (by omega) (by omega) c2 (f1.tr f2)
    have L1 : ∀ (m : Nat) (x : Int) (τ : Sto), m = (n - x).toNat → 0 ≤ x → x ≤ 2 * n → ClassR τ K h HK tl tx → frC σ τ → P 107 [.inr (0, 0), .inl n, .inl c0, .inl 0, .inl 0, .inl 1, .inl x] [] τ := by
      intro m
      induction m using Nat.strongRecOn with
      | _ m ih =>
        intro x τ hm x0 x1 c1 f1
        by_cases xn : n ≤ x
        · have X := L2 _ 0 0 τ rfl (by omega) (by omega) (by rw [Int.zero_add, Int.sub_zero]) (by omega) c1 f1
          (refine go (t := tb_X6_holds) (WPd_mono d) hP 300 [255] ?_; (conv => whnf); (repeat' (first | (refine ⟨fun _ => ?_, fun _ => ?_⟩ <;> first | (exfalso; omega) | (conv => whnf)) | (refine ⟨by omega, ?_⟩; conv => whnf) | (intro _; conv => whnf))))
          exact X
        · have b := (Bst_b hw hY.2 x0).2 (by omega)
          have kb := hw.2.2.1 x x0 (by omega)
          have bA := (Bst_b hw hY.2 x0).1 (by omega)
          have bA1 := (Bst_b hw hY.2 (p := x + 1) (by omega)).1 (by omega)
          have own : (K 1 x = 0 → O x = 1) ∧ (K 1 x = 1 → O x = 0 ∨ O x = 1) ∧ (K 1 x = 2 → O x = 1 ∨ O x = 2) := by
            have b1 := b.1
            unfold lo hi at b1
            refine ⟨fun e => ?_, fun e => ?_, fun e => ?_⟩
            · rw [e, if_neg (by decide), if_neg (by decide)] at b1
              omega
            · rw [e, if_pos rfl, if_neg (by decide)] at b1
              omega
            · rw [e, if_neg (by decide), if_pos rfl] at b1
              omega
          have b2 := b.2.1
          have b3 := b.2.2
          have b4 : 0 ≤ O x ∧ O x ≤ 2 := by omega
          have C191 : ∀ ρ, ClassR ρ K h HK tl tx → frC σ ρ → P 191 [.inr (0, 0), .inl n, .inl c0, .inl 0, .inl 0, .inl 1, .inl x, .inl (O x), .inl (G x), .inl (K 1 x)] [] ρ := by
            intro ρ c2 f2
            (refine go (t := tb_X6_holds) (WPd_mono d) hP 300 [107] ?_; (conv => whnf); (repeat' (first | (refine ⟨fun _ => ?_, fun _ => ?_⟩ <;> first | (exfalso; omega) | (conv => whnf)) | (refine ⟨by omega, ?_⟩; conv => whnf) | (intro _; conv => whnf))))
            refine t_ask_layer (by omega) 2 c2 (by omega) (by decide) ?_
            ((conv => whnf); (repeat' (first | (refine ⟨fun _ => ?_, fun _ => ?_⟩ <;> first | (exfalso; omega) | (conv => whnf)) | (refine ⟨by omega, ?_⟩; conv => whnf) | (intro _; conv => whnf))))
            refine t_ask_age (by omega) c2 hY (by omega) (fun σ3 c3 f3 => ?_)
            ((conv => whnf); (repeat' (first | (refine ⟨fun _ => ?_, fun _ => ?_⟩ <;> first | (exfalso; omega) | (conv => whnf)) | (refine ⟨by omega, ?_⟩; conv => whnf) | (intro _; conv => whnf))))
            refine t_ask_age (by omega) c3 hY (by omega) (fun σ4 c4 f4 => ?_)
            ((conv => whnf); (repeat' (first | (refine ⟨fun _ => ?_, fun _ => ?_⟩ <;> first | (exfalso; omega) | (conv => whnf)) | (refine ⟨by omega, ?_⟩; conv => whnf) | (intro _; conv => whnf))))
            have X := ih (n - (x + (1 + n / 12))).toNat (by omega) (x + (1 + n / 12)) σ4 rfl (by omega) (by omega) c4 ((f2.tr f3).tr f4)
            (refine hT 7 ?_; exact X)
          (refine go (t := tb_X6_holds) (WPd_mono d) hP 300 [191] ?_; (conv => whnf); (repeat' (first | (refine ⟨fun _ => ?_, fun _ => ?_⟩ <;> first | (exfalso; omega) | (conv => whnf)) | (refine ⟨by omega, ?_⟩; conv => whnf) | (intro _; conv => whnf))))
          refine t_ask_own (by omega) c1 hY (by omega) (fun σ2 c2 f2 => ?_)
          ((conv => whnf); (repeat' (first | (refine ⟨fun _ => ?_, fun _ => ?_⟩ <;> first | (exfalso; omega) | (conv => whnf)) | (refine ⟨by omega, ?_⟩; conv => whnf) | (intro _; conv => whnf))))
          refine t_ask_miss (by omega) c2 hY (by omega) (fun σ3 c3 f3 => ?_)
          ((conv => whnf); (repeat' (first | (refine ⟨fun _ => ?_, fun _ => ?_⟩ <;> first | (exfalso; omega) | (conv => whnf)) | (refine ⟨by omega, ?_⟩; conv => whnf) | (intro _; conv => whnf))))
          refine t_ask_layer (by omega) 1 c3 (by omega) (by decide) ?_
          ((conv => whnf); (repeat' (first | (refine ⟨fun _ => ?_, fun _ => ?_⟩ <;> first | (exfalso; omega) | (conv => whnf)) | (refine ⟨by omega, ?_⟩; conv => whnf) | (intro _; conv => whnf))))
          all_goals exact C191 σ3 c3 ((f1.tr f2).tr f3)
    exact L1 _ 0 σ6 rfl (by omega) (by omega) c6 fr6
