/-! THE LAW from behind its constructor on -/
def LQ : Post := fun r _ => r = some (.inl 1)
theorem HistR_h {σ : Sto} {K : KV} {h : Int} {HK : Int → KV} {tl : Int} {tx : Int → Int} (hC : ClassR σ K h HK tl tx) : 0 ≤ h ∧ h ≤ 6 := hC.2.2.1.2.1
theorem thick_b {K : KV} (hK : WFK K) : 0 ≤ sumF (K 0) (K 7 0).toNat 0 ∧ sumF (K 0) (K 7 0).toNat 0 ≤ 4950 := by
  have n := hK.1
  have a := sumF_b (f := K 0) (k := 99) (K 7 0).toNat 0 (fun j j0 j1 => by
    have := (hK.2.2.1 j j0 (by omega)).1
    omega)
  omega
/-- undo behind a change -/
theorem t_back {d : Nat} (hd : 5 ≤ d) {σ : Sto} {Q : Post} {K K' : KV} {h : Int} {HK : Int → KV} {tl : Int} {tx : Int → Int} (h0 : 0 ≤ h ∧ h ≤ 6) (hC : ClassR σ K' (min 6 (h + 1)) (pushH h HK K) tl tx) (hq : ∀ v h' HK' σ', (0 ≤ v ∧ v ≤ 6) → ClassR σ' K h' HK' tl tx → frC σ σ' → Q (some (.inl v)) σ') : WPd d m_X4_undo [.inr (0, 0)] σ Q := by
  refine t_X4_undo hd hC (fun e => by omega) (fun _ σ' a b => ?_)
  rw [pushH_top h0] at a
  exact hq _ _ _ σ' (by omega) a b
theorem law_run {d : Nat} (hd : 8 ≤ d) {P : Ctx} (hT : ∀ (n : Nat) {pc : Nat} {ls st : List AV} {σ : Sto}, P pc (ls.take n) st σ → P pc ls st σ) (hP : ∀ pc ls st σ, stp (WPd d) LQ P ls st σ (lk2 tb_law pc) → P pc ls st σ) {σ : Sto} {K : KV} {h : Int} {HK : Int → KV} {tl : Int} {tx : Int → Int} (hC : ClassR σ K h HK tl tx) (hL : 0 ≤ σ 41 0 (-1) ∧ σ 41 0 (-1) ≤ 260) (h0 : K 7 0 = 0) (h1 : K 7 1 = 0) : P 8 [.inr (41, 0), .inr (0, 0)] [] σ := by
  have e41 : ∀ τ, frC σ τ → 0 ≤ τ 41 0 (-1) ∧ τ 41 0 (-1) ≤ 260 := fun τ f => by
    rw [f 41 0 (by decide)]
    exact hL
  (refine go (t := tb_law) (WPd_mono d) hP 300 [122, 108] ?_; (conv => whnf); (repeat' (first | (refine ⟨fun _ => ?_, fun _ => ?_⟩ <;> first | (exfalso; omega) | (conv => whnf)) | (refine ⟨by omega, ?_⟩; conv => whnf) | (intro _; conv => whnf))))
  refine t_X6_builds (by omega) hC hL h0 h1 (fun n K1 H1 HK1 σ1 nb e1 c1 f1 => ?_)
  ((conv => whnf); (repeat' (first | (refine ⟨fun _ => ?_, fun _ => ?_⟩ <;> first | (exfalso; omega) | (conv => whnf)) | (refine ⟨by omega, ?_⟩; conv => whnf) | (intro _; conv => whnf))))
  refine t_X6_holds (by omega) c1 e1.symm (by omega) (fun σ2 c2 f2 => ?_)
  ((conv => whnf); (repeat' (first | (refine ⟨fun _ => ?_, fun _ => ?_⟩ <;> first | (exfalso; omega) | (conv => whnf)) | (refine ⟨by omega, ?_⟩; conv => whnf) | (intro _; conv => whnf))))
  refine t_ask_widen (by omega) c2 (fun wide wb _ _ => ?_)
  ((conv => whnf); (repeat' (first | (refine ⟨fun _ => ?_, fun _ => ?_⟩ <;> first | (exfalso; omega) | (conv => whnf)) | (refine ⟨by omega, ?_⟩; conv => whnf) | (intro _; conv => whnf))))
  refine t_ask_cost (by omega) c2 (fun had hhad σ3 c3 f3 => ?_)
  have hadb := cst_b c2.2.1 hhad
  have C369 : ∀ (τ : Sto) (K : KV) (h : Int) (HK : Int → KV) (c : Int), cst K c → ClassR τ K h HK tl tx → K 7 0 = n → frC σ τ → P 369 [.inr (41, 0), .inr (0, 0), .inl n, .inl 1, .inl wide, .inl had, .inl c] [] τ := by
    intro τ K h HK c hc c1 e1 f1
    have hw := c1.2.1
    have tb := thick_b hw
    have kb := (hw.2.2.1 (n - 1) (by omega) (by omega)).1
    have cb := cst_b hw hc
    obtain ⟨r7, rs⟩ := rem_sum hw e1.symm (by omega)
    (refine go (t := tb_law) (WPd_mono d) hP 300 [] ?_; (conv => whnf); (repeat' (first | (refine ⟨fun _ => ?_, fun _ => ?_⟩ <;> first | (exfalso; omega) | (conv => whnf)) | (refine ⟨by omega, ?_⟩; conv => whnf) | (intro _; conv => whnf))))
    refine t_ask_thick (by omega) c1 ?_
    ((conv => whnf); (repeat' (first | (refine ⟨fun _ => ?_, fun _ => ?_⟩ <;> first | (exfalso; omega) | (conv => whnf)) | (refine ⟨by omega, ?_⟩; conv => whnf) | (intro _; conv => whnf))))
    refine t_ask_layer (by omega) 0 c1 (by omega) (by decide) ?_
    ((conv => whnf); (repeat' (first | (refine ⟨fun _ => ?_, fun _ => ?_⟩ <;> first | (exfalso; omega) | (conv => whnf)) | (refine ⟨by omega, ?_⟩; conv => whnf) | (intro _; conv => whnf))))
    refine t_X4_removeLayer (by omega) c1 (by omega) (fun e => absurd (show 0 ≤ n - 1 ∧ n - 1 < K 7 0 by omega) e) (fun _ σ4 c4 f4 => ?_)
    ((conv => whnf); (repeat' (first | (refine ⟨fun _ => ?_, fun _ => ?_⟩ <;> first | (exfalso; omega) | (conv => whnf)) | (refine ⟨by omega, ?_⟩; conv => whnf) | (intro _; conv => whnf))))
    refine t_ask_thick (by omega) c4 ?_
    rw [rs]
    ((conv => whnf); (repeat' (first | (refine ⟨fun _ => ?_, fun _ => ?_⟩ <;> first | (exfalso; omega) | (conv => whnf)) | (refine ⟨by omega, ?_⟩; conv => whnf) | (intro _; conv => whnf))))
    refine t_back (by omega) (HistR_h c1) c4 (fun v h5 HK5 σ5 vb c5 f5 => ?_)
    ((conv => whnf); (repeat' (first | (refine ⟨fun _ => ?_, fun _ => ?_⟩ <;> first | (exfalso; omega) | (conv => whnf)) | (refine ⟨by omega, ?_⟩; conv => whnf) | (intro _; conv => whnf))))
    refine t_ask_cost (by omega) c5 (fun v6 hv6 σ6 c6 f6 => ?_)
    have e6 := cst_u hv6 hc
    ((conv => whnf); (repeat' (first | (refine ⟨fun _ => ?_, fun _ => ?_⟩ <;> first | (exfalso; omega) | (conv => whnf)) | (refine ⟨by omega, ?_⟩; conv => whnf) | (intro _; conv => whnf))))
    refine t_ask_thick (by omega) c6 ?_
    ((conv => whnf); (repeat' (first | (refine ⟨fun _ => ?_, fun _ => ?_⟩ <;> first | (exfalso; omega) | (conv => whnf)) | (refine ⟨by omega, ?_⟩; conv => whnf) | (intro _; conv => whnf))))
  have C294 : ∀ (τ : Sto) (K : KV) (h : Int) (HK : Int → KV) (c x y z w : Int), isL (CS K) c → ClassR τ K h HK tl tx → K 7 0 = n → frC σ τ → P 294 [.inr (41, 0), .inr (0, 0), .inl n, .inl 1, .inl wide, .inl had, .inl c, .inl x, .inl y, .inl z, .inl w] [] τ := by
    intro τ K h HK c x y z w hc c1 e1 f1
    have hw := c1.2.1
    have cb := CS_b hw hc.1
    (refine go (t := tb_law) (WPd_mono d) hP 300 [369] ?_; (conv => whnf); (repeat' (first | (refine ⟨fun _ => ?_, fun _ => ?_⟩ <;> first | (exfalso; omega) | (conv => whnf)) | (refine ⟨by omega, ?_⟩; conv => whnf) | (intro _; conv => whnf))))
    refine t_X6_cell (by omega) (e41 τ f1) (by omega) (fun v b => ?_)
    have z1 : 0 ≤ v % n ∧ v % n < n := ⟨Int.emod_nonneg _ (by omega), Int.emod_lt_of_pos _ (by omega)⟩
    ((conv => whnf); (repeat' (first | (refine ⟨fun _ => ?_, fun _ => ?_⟩ <;> first | (exfalso; omega) | (conv => whnf)) | (refine ⟨by omega, ?_⟩; conv => whnf) | (intro _; conv => whnf))))
    generalize v % n = k at *
    have mb := (hw.2.2.1 k z1.1 (by omega)).2.2
    refine t_ask_layer (by omega) 2 c1 (by omega) (by decide) ?_
    ((conv => whnf); (repeat' (first | (refine ⟨fun _ => ?_, fun _ => ?_⟩ <;> first | (exfalso; omega) | (conv => whnf)) | (refine ⟨by omega, ?_⟩; conv => whnf) | (intro _; conv => whnf))))
    refine t_X4_setLayer (by omega) c1 (by omega) (by omega) (by omega) (fun e => absurd (show (0 ≤ k ∧ k < K 7 0) ∧ (0 ≤ (2 : Int) ∧ (2 : Int) ≤ 2) ∧ (lowP 2 ≤ 20 ∧ 20 ≤ topP 2) from ⟨by omega, by decide, by decide⟩) e) (fun _ σ2 c2 f2 => ?_)
    have e2 : K (2 : Int).toNat k = K 2 k := rfl
    rw [e2]
    ((conv => whnf); (repeat' (first | (refine ⟨fun _ => ?_, fun _ => ?_⟩ <;> first | (exfalso; omega) | (conv => whnf)) | (refine ⟨by omega, ?_⟩; conv => whnf) | (intro _; conv => whnf))))
    refine t_ask_cost (by omega) c2 (fun v3 hv3 σ3 c3 f3 => ?_)
    have b3 := cst_le c2.2.1 hc (fun c h => CS_more hw (show 0 ≤ k ∧ k < K 7 0 by omega) h) hv3
    ((conv => whnf); (repeat' (first | (refine ⟨fun _ => ?_, fun _ => ?_⟩ <;> first | (exfalso; omega) | (conv => whnf)) | (refine ⟨by omega, ?_⟩; conv => whnf) | (intro _; conv => whnf))))
    refine t_ask_cost (by omega) c3 (fun v4 hv4 σ4 c4 f4 => ?_)
    have e4 := cst_u hv4 hv3
    ((conv => whnf); (repeat' (first | (refine ⟨fun _ => ?_, fun _ => ?_⟩ <;> first | (exfalso; omega) | (conv => whnf)) | (refine ⟨by omega, ?_⟩; conv => whnf) | (intro _; conv => whnf))))
    refine t_back (by omega) (HistR_h c1) c4 (fun v5 h5 HK5 σ5 vb c5 f5 => ?_)
    ((conv => whnf); (repeat' (first | (refine ⟨fun _ => ?_, fun _ => ?_⟩ <;> first | (exfalso; omega) | (conv => whnf)) | (refine ⟨by omega, ?_⟩; conv => whnf) | (intro _; conv => whnf))))
    refine t_ask_cost (by omega) c5 (fun v6 hv6 σ6 c6 f6 => ?_)
    have e6 := cst_u hv6 (Or.inr hc)
    have X := C369 σ6 K h5 HK5 c (Or.inr hc) c6 e1 (((((f1.tr f2).tr f3).tr f4).tr f5).tr f6)
    ((conv => whnf); (repeat' (first | (refine ⟨fun _ => ?_, fun _ => ?_⟩ <;> first | (exfalso; omega) | (conv => whnf)) | (refine ⟨by omega, ?_⟩; conv => whnf) | (intro _; conv => whnf))))
    (refine hT 7 ?_; exact X)
  have C146 : ∀ (τ : Sto) (K : KV) (h : Int) (HK : Int → KV), ClassR τ K h HK tl tx → K 7 0 = n → K 7 1 ≤ 1 → frC σ τ → P 146 [.inr (41, 0), .inr (0, 0), .inl n, .inl 1, .inl wide, .inl had] [] τ := by
    intro τ K h HK c1 e1 g1 f1
    have hw := c1.2.1
    (refine go (t := tb_law) (WPd_mono d) hP 300 [369, 294] ?_; (conv => whnf); (repeat' (first | (refine ⟨fun _ => ?_, fun _ => ?_⟩ <;> first | (exfalso; omega) | (conv => whnf)) | (refine ⟨by omega, ?_⟩; conv => whnf) | (intro _; conv => whnf))))
    refine t_ask_best (by omega) c1 (fun no σ2 c2 f2 => ?_) (fun c A O G hY σ2 c2 f2 => ?_)
    · have X := C369 σ2 K h HK (-4) (Or.inl ⟨rfl, no⟩) c2 e1 (f1.tr f2)
      ((conv => whnf); (repeat' (first | (refine ⟨fun _ => ?_, fun _ => ?_⟩ <;> first | (exfalso; omega) | (conv => whnf)) | (refine ⟨by omega, ?_⟩; conv => whnf) | (intro _; conv => whnf))))
      exact X
    · have cb := CS_b hw hY.1.1
      ((conv => whnf); (repeat' (first | (refine ⟨fun _ => ?_, fun _ => ?_⟩ <;> first | (exfalso; omega) | (conv => whnf)) | (refine ⟨by omega, ?_⟩; conv => whnf) | (intro _; conv => whnf))))
      refine t_X6_cell (by omega) (e41 σ2 (f1.tr f2)) (by omega) (fun v b => ?_)
      have z1 : 0 ≤ v % n ∧ v % n < n := ⟨Int.emod_nonneg _ (by omega), Int.emod_lt_of_pos _ (by omega)⟩
      ((conv => whnf); (repeat' (first | (refine ⟨fun _ => ?_, fun _ => ?_⟩ <;> first | (exfalso; omega) | (conv => whnf)) | (refine ⟨by omega, ?_⟩; conv => whnf) | (intro _; conv => whnf))))
      obtain ⟨p, ep⟩ : ∃ p, 1 + v % n = p := ⟨_, rfl⟩
      rw [ep]
      have pb : 1 ≤ p ∧ p ≤ K 7 0 := by omega
      refine t_ask_age (by omega) c2 hY (by omega) (fun σ3 c3 f3 => ?_)
      have Ab := (Bst_b hw hY.2 (p := p) (by omega)).1 (by omega)
      ((conv => whnf); (repeat' (first | (refine ⟨fun _ => ?_, fun _ => ?_⟩ <;> first | (exfalso; omega) | (conv => whnf)) | (refine ⟨by omega, ?_⟩; conv => whnf) | (intro _; conv => whnf))))
      have fr3 := (f1.tr f2).tr f3
      refine t_X4_costWith (by omega) c3 (by omega) (by omega) (by omega) (fun e => ?_) (fun _ q2 => ?_) (fun r q no => ?_) (fun r q v4 hv4 σ4 c4 f4 => ?_)
      · have q : 500 < A p := by omega
        have X := fun z w => C294 σ3 K h HK c p (A p) z w hY.1 c3 e1 fr3
        ((conv => whnf); (repeat' (first | (refine ⟨fun _ => ?_, fun _ => ?_⟩ <;> first | (exfalso; omega) | (conv => whnf)) | (refine ⟨by omega, ?_⟩; conv => whnf) | (intro _; conv => whnf))))
        exact X _ _
      · have X := fun z w => C294 σ3 K h HK c p (A p) z w hY.1 c3 e1 fr3
        ((conv => whnf); (repeat' (first | (refine ⟨fun _ => ?_, fun _ => ?_⟩ <;> first | (exfalso; omega) | (conv => whnf)) | (refine ⟨by omega, ?_⟩; conv => whnf) | (intro _; conv => whnf))))
        exact X _ _
      · exact absurd ((CS_ins hw (by omega) r.1 r.2.1 r.2.2 q c).1 (yes_ins hw hY (by omega) r.1 r.2.1.2 q).1) (no c)
      · have yi := yes_ins hw hY (by omega) r.1 r.2.1.2 q
        have e4 : v4 = c := by
          refine isL_u ⟨(CS_ins hw (by omega) r.1 r.2.1 r.2.2 q v4).2 hv4.1, fun c hc => hv4.2 c ((CS_ins hw (by omega) r.1 r.2.1 r.2.2 q c).1 hc)⟩ yi
        have nx := (nxK_cut hw p).1
        ((conv => whnf); (repeat' (first | (refine ⟨fun _ => ?_, fun _ => ?_⟩ <;> first | (exfalso; omega) | (conv => whnf)) | (refine ⟨by omega, ?_⟩; conv => whnf) | (intro _; conv => whnf))))
        refine t_X4_addAsh (by omega) c4 (by omega) (by omega) (by omega) (fun e => absurd r e) (fun _ e => absurd q e) (fun _ _ e => by omega) (fun _ _ _ σ5 c5 f5 => ?_)
        ((conv => whnf); (repeat' (first | (refine ⟨fun _ => ?_, fun _ => ?_⟩ <;> first | (exfalso; omega) | (conv => whnf)) | (refine ⟨by omega, ?_⟩; conv => whnf) | (intro _; conv => whnf))))
        refine t_ask_cost (by omega) c5 (fun v6 hv6 σ6 c6 f6 => ?_)
        have e6 := cst_u hv6 (Or.inr yi)
        ((conv => whnf); (repeat' (first | (refine ⟨fun _ => ?_, fun _ => ?_⟩ <;> first | (exfalso; omega) | (conv => whnf)) | (refine ⟨by omega, ?_⟩; conv => whnf) | (intro _; conv => whnf))))
        refine t_X6_holds (by omega) c6 (show n = K 7 0 from e1.symm) (by omega) (fun σ7 c7 f7 => ?_)
        ((conv => whnf); (repeat' (first | (refine ⟨fun _ => ?_, fun _ => ?_⟩ <;> first | (exfalso; omega) | (conv => whnf)) | (refine ⟨by omega, ?_⟩; conv => whnf) | (intro _; conv => whnf))))
        refine t_back (by omega) (HistR_h c4) c7 (fun v8 h8 HK8 σ8 vb c8 f8 => ?_)
        have X := fun z w => C294 σ8 K h8 HK8 c p (A p) z w hY.1 c8 e1 (((((fr3.tr f4).tr f5).tr f6).tr f7).tr f8)
        ((conv => whnf); (repeat' (first | (refine ⟨fun _ => ?_, fun _ => ?_⟩ <;> first | (exfalso; omega) | (conv => whnf)) | (refine ⟨by omega, ?_⟩; conv => whnf) | (intro _; conv => whnf))))
        exact X _ _
  have C122 : ∀ (m : Nat) (τ : Sto) (K : KV) (h : Int) (HK : Int → KV), m = (K 7 1).toNat → ClassR τ K h HK tl tx → K 7 0 = n → frC σ τ → P 122 [.inr (41, 0), .inr (0, 0), .inl n, .inl 1, .inl wide, .inl had] [] τ := by
    intro m
    induction m using Nat.strongRecOn with
    | _ m ih =>
      intro τ K h HK hm c1 e1 f1
      have a6 := c1.2.1.2.1
      by_cases q : K 7 1 ≤ 1
      · have X := C146 τ K h HK c1 e1 q f1
        (refine go (t := tb_law) (WPd_mono d) hP 300 [146] ?_; (conv => whnf); (repeat' (first | (refine ⟨fun _ => ?_, fun _ => ?_⟩ <;> first | (exfalso; omega) | (conv => whnf)) | (refine ⟨by omega, ?_⟩; conv => whnf) | (intro _; conv => whnf))))
        refine t_ask_ashes (by omega) c1 ?_
        ((conv => whnf); (repeat' (first | (refine ⟨fun _ => ?_, fun _ => ?_⟩ <;> first | (exfalso; omega) | (conv => whnf)) | (refine ⟨by omega, ?_⟩; conv => whnf) | (intro _; conv => whnf))))
        exact X
      · (refine go (t := tb_law) (WPd_mono d) hP 300 [122] ?_; (conv => whnf); (repeat' (first | (refine ⟨fun _ => ?_, fun _ => ?_⟩ <;> first | (exfalso; omega) | (conv => whnf)) | (refine ⟨by omega, ?_⟩; conv => whnf) | (intro _; conv => whnf))))
        refine t_ask_ashes (by omega) c1 ?_
        ((conv => whnf); (repeat' (first | (refine ⟨fun _ => ?_, fun _ => ?_⟩ <;> first | (exfalso; omega) | (conv => whnf)) | (refine ⟨by omega, ?_⟩; conv => whnf) | (intro _; conv => whnf))))
        refine t_ask_ashes (by omega) c1 ?_
        ((conv => whnf); (repeat' (first | (refine ⟨fun _ => ?_, fun _ => ?_⟩ <;> first | (exfalso; omega) | (conv => whnf)) | (refine ⟨by omega, ?_⟩; conv => whnf) | (intro _; conv => whnf))))
        refine t_X4_removeAsh (by omega) c1 (by omega) (fun e => absurd (show 0 ≤ K 7 1 - 1 ∧ K 7 1 - 1 < K 7 1 by omega) e) (fun _ σ2 c2 f2 => ?_)
        have X := ih (K 7 1 - 1).toNat (by omega) σ2 _ _ _ (by rfl) c2 (show K 7 0 = n from e1) (f1.tr f2)
        ((conv => whnf); (repeat' (first | (refine ⟨fun _ => ?_, fun _ => ?_⟩ <;> first | (exfalso; omega) | (conv => whnf)) | (refine ⟨by omega, ?_⟩; conv => whnf) | (intro _; conv => whnf))))
        exact X
  ((conv => whnf); (repeat' (first | (refine ⟨fun _ => ?_, fun _ => ?_⟩ <;> first | (exfalso; omega) | (conv => whnf)) | (refine ⟨by omega, ?_⟩; conv => whnf) | (intro _; conv => whnf))))
  refine t_ask_ashes (by omega) c3 ?_
  have a6 := c3.2.1.2.1
  have fr3 := (f1.tr f2).tr f3
  ((conv => whnf); (repeat' (first | (refine ⟨fun _ => ?_, fun _ => ?_⟩ <;> first | (exfalso; omega) | (conv => whnf)) | (refine ⟨by omega, ?_⟩; conv => whnf) | (intro _; conv => whnf))))
  · exact C122 _ σ3 _ _ _ rfl c3 e1 fr3
  · refine t_ask_without (by omega) c3 (by omega) (fun w0 hw0 σ4 c4 f4 => ?_)
    have dW := WFK_delA c3.2.1 (x := 0) (by omega)
    have wb0 := cst_b dW hw0
    have wle : 0 ≤ had → 0 ≤ w0 ∧ w0 ≤ had := fun q => cst_le dW ((cst_0 c3.2.1 hhad).1 q) (fun c hc => CS_del_le c3.2.1 (by decide) (by omega) hc) hw0
    ((conv => whnf); (repeat' (first | (refine ⟨fun _ => ?_, fun _ => ?_⟩ <;> first | (exfalso; omega) | (conv => whnf)) | (refine ⟨by omega, ?_⟩; conv => whnf) | (intro _; conv => whnf))))
    refine t_X4_removeAsh (by omega) c4 (by omega) (fun e => absurd (show 0 ≤ (0 : Int) ∧ (0 : Int) < K1 7 1 by omega) e) (fun _ σ5 c5 f5 => ?_)
    ((conv => whnf); (repeat' (first | (refine ⟨fun _ => ?_, fun _ => ?_⟩ <;> first | (exfalso; omega) | (conv => whnf)) | (refine ⟨by omega, ?_⟩; conv => whnf) | (intro _; conv => whnf))))
    refine t_ask_cost (by omega) c5 (fun v6 hv6 σ6 c6 f6 => ?_)
    have e6 := cst_u hv6 hw0
    have C108 : P 108 [.inr (41, 0), .inr (0, 0), .inl n, .inl 1, .inl wide, .inl had, .inl w0] [] σ6 := by
      (refine go (t := tb_law) (WPd_mono d) hP 300 [122] ?_; (conv => whnf); (repeat' (first | (refine ⟨fun _ => ?_, fun _ => ?_⟩ <;> first | (exfalso; omega) | (conv => whnf)) | (refine ⟨by omega, ?_⟩; conv => whnf) | (intro _; conv => whnf))))
      refine t_X6_holds (by omega) c6 (show n = K1 7 0 from e1.symm) (by omega) (fun σ7 c7 f7 => ?_)
      have X := C122 _ σ7 _ _ _ rfl c7 (show K1 7 0 = n from e1) ((((fr3.tr f4).tr f5).tr f6).tr f7)
      ((conv => whnf); (repeat' (first | (refine ⟨fun _ => ?_, fun _ => ?_⟩ <;> first | (exfalso; omega) | (conv => whnf)) | (refine ⟨by omega, ?_⟩; conv => whnf) | (intro _; conv => whnf))))
      (refine hT 6 ?_; exact X)
    ((conv => whnf); (repeat' (first | (refine ⟨fun _ => ?_, fun _ => ?_⟩ <;> first | (exfalso; omega) | (conv => whnf)) | (refine ⟨by omega, ?_⟩; conv => whnf) | (intro _; conv => whnf))))
    all_goals exact C108
