/-! THE PROPERTY: the class's answers where the best count is known -/
theorem frC.rf (σ : Sto) : frC σ σ := fun _ _ _ => rfl
theorem frC.tr {σ τ ρ : Sto} (h : frC σ τ) (h' : frC τ ρ) : frC σ ρ := fun k i hk => (h' k i hk).trans (h k i hk)
theorem t_ask_cost {d : Nat} (hd : 6 ≤ d) {σ : Sto} {Q : Post} {K : KV} {h : Int} {HK : Int → KV} {tl : Int} {tx : Int → Int} (hC : ClassR σ K h HK tl tx) (hq : ∀ v, cst K v → ∀ σ', ClassR σ' K h HK tl tx → frC σ σ' → Q (some (.inl (v))) σ') : WPd d m_X4_cost [.inr (0, 0)] σ Q := by
  exact t_X4_cost hd hC (fun no σ' a b => hq _ (Or.inl ⟨rfl, no⟩) σ' a b) (fun v hv σ' a b => hq v (Or.inr hv) σ' a b)
theorem t_ask_best {d : Nat} (hd : 6 ≤ d) {σ : Sto} {Q : Post} {K : KV} {h : Int} {HK : Int → KV} {tl : Int} {tx : Int → Int} (hC : ClassR σ K h HK tl tx) (hno : (∀ c, ¬ CS K c) → ∀ σ', ClassR σ' K h HK tl tx → frC σ σ' → Q (some (.inl (-4))) σ') (hyes : ∀ v A O G, Yes K v A O G → ∀ σ', ClassR σ' K h HK tl tx → frC σ σ' → Q (some (.inl (v))) σ') : WPd d m_X4_cost [.inr (0, 0)] σ Q := by
  obtain ⟨d, rfl⟩ : ∃ k, d = k + 1 := ⟨d - 1, by omega⟩
  intro P hP
  (refine go (t := tb_X4_cost) (WPd_mono d) hP 60 [] ?_; (conv => whnf); (repeat' (first | (refine ⟨fun _ => ?_, fun _ => ?_⟩ <;> first | (exfalso; omega) | (conv => whnf)) | (refine ⟨by omega, ?_⟩; conv => whnf) | (intro _; conv => whnf))))
  refine t_X2_hasCount (by omega) hC.1 hC.2.1 hC.2.2.2.2 (fun ρ fo ro t12 lt b0 => ?_) (fun ρ fo ro no => ?_)
  · have cr := ClassR_R hC fo ro
    ((conv => whnf); (repeat' (first | (refine ⟨fun _ => ?_, fun _ => ?_⟩ <;> first | (exfalso; omega) | (conv => whnf)) | (refine ⟨by omega, ?_⟩; conv => whnf) | (intro _; conv => whnf))))
    refine t_X2_leastCost (by omega) ?_
    ((conv => whnf); (repeat' (first | (refine ⟨fun _ => ?_, fun _ => ?_⟩ <;> first | (exfalso; omega) | (conv => whnf)) | (refine ⟨by omega, ?_⟩; conv => whnf) | (intro _; conv => whnf))))
    exact hyes _ _ _ _ ⟨Mn_L b0 lt, Bst_o hC.2.1 ((RecOk_B ro t12).2.2 lt)⟩ ρ cr.1 cr.2
  · have cr := ClassR_R hC fo ro
    ((conv => whnf); (repeat' (first | (refine ⟨fun _ => ?_, fun _ => ?_⟩ <;> first | (exfalso; omega) | (conv => whnf)) | (refine ⟨by omega, ?_⟩; conv => whnf) | (intro _; conv => whnf))))
    exact hno no ρ cr.1 cr.2
theorem Bst_at {K : KV} {ac : acT} {B : Int} {A O G A' O' G' : Int → Int} (h : Bst K ac B A O G) (h' : Bst K ac B A' O' G') {p : Int} (p0 : 0 ≤ p) : (p ≤ K 7 0 → A' p = A p) ∧ (p < K 7 0 → O' p = O p ∧ G' p = G p) := by
  refine ⟨fun h1 => ?_, fun h1 => ?_⟩
  · have e := (Bst_u h h' p.toNat (by omega)).1
    rw [show (p.toNat : Int) = p by omega] at e
    exact e.symm
  · have e := (Bst_u h h' (p + 1).toNat (by omega)).2 p p0 (by omega)
    exact ⟨e.1.symm, e.2.symm⟩
theorem t_ask_age {d : Nat} (hd : 6 ≤ d) {σ : Sto} {Q : Post} {i c0 : Int} {A O G : Int → Int} {K : KV} {h : Int} {HK : Int → KV} {tl : Int} {tx : Int → Int} (hC : ClassR σ K h HK tl tx) (hY : Yes K c0 A O G) (hi : 0 ≤ i ∧ i ≤ K 7 0) (hq : ∀ σ', ClassR σ' K h HK tl tx → frC σ σ' → Q (some (.inl (A i))) σ') : WPd d m_X4_age [.inr (0, 0), .inl i] σ Q := by
  have n := hC.2.1.1
  refine t_X4_age hd hC (by omega) (fun e => absurd hi e) (fun _ no => absurd hY.1.1 (no _)) (fun _ _ A' O' G' hB σ' a b => ?_)
  rw [(Bst_at hY.2 hB hi.1).1 hi.2]
  exact hq σ' a b
theorem t_ask_own {d : Nat} (hd : 6 ≤ d) {σ : Sto} {Q : Post} {i c0 : Int} {A O G : Int → Int} {K : KV} {h : Int} {HK : Int → KV} {tl : Int} {tx : Int → Int} (hC : ClassR σ K h HK tl tx) (hY : Yes K c0 A O G) (hi : 0 ≤ i ∧ i < K 7 0) (hq : ∀ σ', ClassR σ' K h HK tl tx → frC σ σ' → Q (some (.inl (O i))) σ') : WPd d m_X4_years [.inr (0, 0), .inl i, .inl 0] σ Q := by
  have n := hC.2.1.1
  refine t_X4_years hd hC (by omega) (by decide) (fun e => absurd ⟨hi, by decide⟩ e) (fun _ no => absurd hY.1.1 (no _)) (fun _ _ A' O' G' hB σ' a b => ?_)
  rw [if_pos rfl, ((Bst_at hY.2 hB hi.1).2 hi.2).1]
  exact hq σ' a b
theorem t_ask_miss {d : Nat} (hd : 6 ≤ d) {σ : Sto} {Q : Post} {i c0 : Int} {A O G : Int → Int} {K : KV} {h : Int} {HK : Int → KV} {tl : Int} {tx : Int → Int} (hC : ClassR σ K h HK tl tx) (hY : Yes K c0 A O G) (hi : 0 ≤ i ∧ i < K 7 0) (hq : ∀ σ', ClassR σ' K h HK tl tx → frC σ σ' → Q (some (.inl (G i))) σ') : WPd d m_X4_years [.inr (0, 0), .inl i, .inl 1] σ Q := by
  have n := hC.2.1.1
  refine t_X4_years hd hC (by omega) (by decide) (fun e => absurd ⟨hi, by decide⟩ e) (fun _ no => absurd hY.1.1 (no _)) (fun _ _ A' O' G' hB σ' a b => ?_)
  rw [if_neg (by decide), ((Bst_at hY.2 hB hi.1).2 hi.2).2]
  exact hq σ' a b
theorem t_ask_off {d : Nat} (hd : 6 ≤ d) {σ : Sto} {Q : Post} {x c0 : Int} {A O G : Int → Int} {K : KV} {h : Int} {HK : Int → KV} {tl : Int} {tx : Int → Int} (hC : ClassR σ K h HK tl tx) (hY : Yes K c0 A O G) (hx : 0 ≤ x ∧ x < K 7 1) (hq : ∀ σ', ClassR σ' K h HK tl tx → frC σ σ' → Q (some (.inl (100 + (A (K 3 x) - K 4 x)))) σ') : WPd d m_X4_offset [.inr (0, 0), .inl x] σ Q := by
  have n := hC.2.1.2.1
  have r := (hC.2.1.2.2.2.1 x hx.1 hx.2).1
  refine t_X4_offset hd hC (by omega) (fun e => absurd hx e) (fun _ no => absurd hY.1.1 (no _)) (fun _ _ A' O' G' hB σ' a b => ?_)
  rw [(Bst_at hY.2 hB (show 0 ≤ K 3 x by omega)).1 r.2]
  exact hq σ' a b
theorem totA_u {K : KV} (hK : WFK K) {ac : acT} {B : Int} {A O G A' O' G' : Int → Int} (h : Bst K ac B A O G) (h' : Bst K ac B A' O' G') (w : Int) : totA K A' O' G' w = totA K A O G w := by
  have n := hK.1
  have n1 := hK.2.1
  unfold totA
  rw [cntF_cg (f := O') (g := O) (w := 0) _ _ (fun j j0 j1 => ((Bst_at h h' j0).2 (by omega)).1), cntF_cg (f := O') (g := O) (w := 2) _ _ (fun j j0 j1 => ((Bst_at h h' j0).2 (by omega)).1), sumF_cg (f := G') (g := G) _ _ (fun j j0 j1 => ((Bst_at h h' j0).2 (by omega)).2), (Bst_at h h' n.1).1 (Int.le_refl _), sumF_cg (f := fun i => dif (A' (K 3 i)) (K 4 i)) (g := fun i => dif (A (K 3 i)) (K 4 i)) _ _ (fun j j0 j1 => by
    have r := (hK.2.2.2.1 j j0 (by omega)).1
    show dif (A' (K 3 j)) (K 4 j) = dif (A (K 3 j)) (K 4 j)
    rw [(Bst_at h h' (show 0 ≤ K 3 j by omega)).1 r.2])]
theorem t_ask_total {d : Nat} (hd : 6 ≤ d) {σ : Sto} {Q : Post} {w c0 : Int} {A O G : Int → Int} {K : KV} {h : Int} {HK : Int → KV} {tl : Int} {tx : Int → Int} (hC : ClassR σ K h HK tl tx) (hY : Yes K c0 A O G) (hw : 0 ≤ w ∧ w ≤ 4) (hq : ∀ σ', ClassR σ' K h HK tl tx → frC σ σ' → Q (some (.inl (totA K A O G w))) σ') : WPd d m_X4_total [.inr (0, 0), .inl w] σ Q := by
  refine t_X4_total hd hC (by omega) (fun e => absurd hw e) (fun _ no => absurd hY.1.1 (no _)) (fun _ _ A' O' G' hB σ' a b => ?_)
  rw [totA_u hC.2.1 hY.2 hB]
  exact hq σ' a b
theorem totA_0 (K : KV) (A O G : Int → Int) : totA K A O G 0 = cntF O 0 (K 7 0).toNat 0 := if_pos rfl
theorem totA_1 (K : KV) (A O G : Int → Int) : totA K A O G 1 = cntF O 2 (K 7 0).toNat 0 := by
  unfold totA
  rw [if_neg (by decide), if_pos rfl]
theorem totA_2 (K : KV) (A O G : Int → Int) : totA K A O G 2 = sumF G (K 7 0).toNat 0 := by
  unfold totA
  rw [if_neg (by decide), if_neg (by decide), if_pos rfl]
theorem totA_3 (K : KV) (A O G : Int → Int) : totA K A O G 3 = sumF (fun i => dif (A (K 3 i)) (K 4 i)) (K 7 1).toNat 0 := by
  unfold totA
  rw [if_neg (by decide), if_neg (by decide), if_neg (by decide), if_pos rfl]
theorem totA_4 (K : KV) (A O G : Int → Int) : totA K A O G 4 = A (K 7 0) := by
  unfold totA
  rw [if_neg (by decide), if_neg (by decide), if_neg (by decide), if_neg (by decide)]
theorem t_ask_without {d : Nat} (hd : 7 ≤ d) {σ : Sto} {Q : Post} {x : Int} {K : KV} {h : Int} {HK : Int → KV} {tl : Int} {tx : Int → Int} (hC : ClassR σ K h HK tl tx) (hx : 0 ≤ x ∧ x < K 7 1) (hq : ∀ v, cst (delAK K x) v → ∀ σ', ClassR σ' K h HK tl tx → frC σ σ' → Q (some (.inl (v))) σ') : WPd d m_X4_without [.inr (0, 0), .inl x] σ Q := by
  have n := hC.2.1.2.1
  exact t_X4_without hd hC (by omega) (fun e => absurd hx e) (fun _ no σ' a b => hq _ (cst_del hC.2.1 hx.1 hx.2 (Or.inl ⟨rfl, no⟩)) σ' a b) (fun _ v hv σ' a b => hq v (cst_del hC.2.1 hx.1 hx.2 (Or.inr hv)) σ' a b)
theorem t_ask_widen {d : Nat} (hd : 3 ≤ d) {σ : Sto} {Q : Post} {K : KV} {h : Int} {HK : Int → KV} {tl : Int} {tx : Int → Int} (hC : ClassR σ K h HK tl tx) (hq : ∀ v, (0 ≤ v ∧ v ≤ 500) → ((∃ c, CS K c) → v = 0) → ((∀ c, ¬ CS K c) → 0 < v) → Q (some (.inl v)) σ) : WPd d m_X4_widen [.inr (0, 0)] σ Q := by
  exact t_X4_widen hd hC (fun v hv => by
    have b := isW_b hC.2.1 hv
    exact hq v b.1 b.2.1 b.2.2)
theorem t_ask_ways {d : Nat} (hd : 6 ≤ d) {σ : Sto} {Q : Post} {c0 : Int} {A O G : Int → Int} {K : KV} {h : Int} {HK : Int → KV} {tl : Int} {tx : Int → Int} (hC : ClassR σ K h HK tl tx) (hY : Yes K c0 A O G) (hq : ∀ v, 1 ≤ v ∧ v ≤ 1000000 → ∀ σ', ClassR σ' K h HK tl tx → frC σ σ' → Q (some (.inl (v))) σ') : WPd d m_X4_ways [.inr (0, 0)] σ Q := by
  refine t_X4_ways hd hC (fun no => absurd hY.1.1 (no _)) (fun ex σ' a b => hq _ ?_ σ' a b)
  have := yes_nW hC.2.1 ex
  omega
theorem t_ask_bound {d : Nat} (hd : 7 ≤ d) {σ : Sto} {Q : Post} {p s w c0 : Int} {A O G : Int → Int} {K : KV} {h : Int} {HK : Int → KV} {tl : Int} {tx : Int → Int} (hC : ClassR σ K h HK tl tx) (hY : Yes K c0 A O G) (hp : 0 ≤ p ∧ p ≤ K 7 0) (hs : 0 ≤ s ∧ s ≤ 200) (hw : 0 ≤ w ∧ w ≤ 1) (hq : ∀ a, (0 ≤ a ∧ a ≤ 600) → BS K p.toNat (K 7 0 - p).toNat (c0 + s) a → (w = 0 → ∀ a', BS K p.toNat (K 7 0 - p).toNat (c0 + s) a' → a ≤ a') → (w = 1 → ∀ a', BS K p.toNat (K 7 0 - p).toNat (c0 + s) a' → a' ≤ a) → ∀ σ', ClassR σ' K h HK tl tx → frC σ σ' → Q (some (.inl (a))) σ') : WPd d m_X4_bound [.inr (0, 0), .inl p, .inl s, .inl w] σ Q := by
  have n := hC.2.1.1
  refine t_X4_bound hd hC (by omega) (by omega) (by omega) (fun e => absurd ⟨hp, hs, hw⟩ e) (fun _ no => absurd hY.1.1 (no _)) (fun _ c1 h1 a hB f0 f1 σ' x y => ?_)
  have e := isL_u h1 hY.1
  subst e
  exact hq a (BS_b hC.2.1 (by omega) hB) hB f0 f1 σ' x y
theorem t_ask_ashes {d : Nat} (hd : 2 ≤ d) {σ : Sto} {Q : Post} {K : KV} {h : Int} {HK : Int → KV} {tl : Int} {tx : Int → Int} (hC : ClassR σ K h HK tl tx) (hq : Q (some (.inl (K 7 1))) σ) : WPd d m_X4_count [.inr (0, 0), .inl 1] σ Q := by
  refine t_X4_count hd hC (by decide) ?_
  rw [if_neg (by decide), if_pos rfl]
  exact hq
theorem t_ask_thick {d : Nat} (hd : 2 ≤ d) {σ : Sto} {Q : Post} {K : KV} {h : Int} {HK : Int → KV} {tl : Int} {tx : Int → Int} (hC : ClassR σ K h HK tl tx) (hq : Q (some (.inl (sumF (K 0) (K 7 0).toNat 0))) σ) : WPd d m_X4_count [.inr (0, 0), .inl 2] σ Q := by
  refine t_X4_count hd hC (by decide) ?_
  rw [if_neg (by decide), if_neg (by decide), if_pos rfl]
  exact hq
theorem t_ask_F {d : Nat} (hd : 2 ≤ d) {σ : Sto} {Q : Post} {K : KV} {h : Int} {HK : Int → KV} {tl : Int} {tx : Int → Int} (hC : ClassR σ K h HK tl tx) (hq : Q (some (.inl (K 6 0))) σ) : WPd d m_X4_count [.inr (0, 0), .inl 5] σ Q := by
  refine t_X4_count hd hC (by decide) ?_
  rw [if_neg (by decide), if_neg (by decide), if_neg (by decide), if_neg (by decide), if_neg (by decide), if_pos rfl]
  exact hq
theorem t_ask_Th {d : Nat} (hd : 2 ≤ d) {σ : Sto} {Q : Post} {K : KV} {h : Int} {HK : Int → KV} {tl : Int} {tx : Int → Int} (hC : ClassR σ K h HK tl tx) (hq : Q (some (.inl (K 6 1))) σ) : WPd d m_X4_count [.inr (0, 0), .inl 6] σ Q := by
  refine t_X4_count hd hC (by decide) ?_
  rw [if_neg (by decide), if_neg (by decide), if_neg (by decide), if_neg (by decide), if_neg (by decide), if_neg (by decide), if_pos rfl]
  exact hq
theorem t_ask_G {d : Nat} (hd : 2 ≤ d) {σ : Sto} {Q : Post} {K : KV} {h : Int} {HK : Int → KV} {tl : Int} {tx : Int → Int} (hC : ClassR σ K h HK tl tx) (hq : Q (some (.inl (K 6 2))) σ) : WPd d m_X4_count [.inr (0, 0), .inl 7] σ Q := by
  refine t_X4_count hd hC (by decide) ?_
  rw [if_neg (by decide), if_neg (by decide), if_neg (by decide), if_neg (by decide), if_neg (by decide), if_neg (by decide), if_neg (by decide), if_pos rfl]
  exact hq
theorem t_ask_W {d : Nat} (hd : 2 ≤ d) {σ : Sto} {Q : Post} {K : KV} {h : Int} {HK : Int → KV} {tl : Int} {tx : Int → Int} (hC : ClassR σ K h HK tl tx) (hq : Q (some (.inl (K 6 3))) σ) : WPd d m_X4_count [.inr (0, 0), .inl 8] σ Q := by
  refine t_X4_count hd hC (by decide) ?_
  rw [if_neg (by decide), if_neg (by decide), if_neg (by decide), if_neg (by decide), if_neg (by decide), if_neg (by decide), if_neg (by decide), if_neg (by decide), if_pos rfl]
  exact hq
theorem t_ask_layer {d : Nat} (hd : 3 ≤ d) {σ : Sto} {Q : Post} {i : Int} (w : Nat) {K : KV} {h : Int} {HK : Int → KV} {tl : Int} {tx : Int → Int} (hC : ClassR σ K h HK tl tx) (hi : 0 ≤ i ∧ i < K 7 0) (hw : w ≤ 2) (hq : Q (some (.inl (K w i))) σ) : WPd d m_X4_layer [.inr (0, 0), .inl i, .inl (w : Int)] σ Q := by
  have n := hC.2.1.1
  refine t_X4_layer hd hC (by omega) (by omega) (fun e => absurd ⟨hi, by omega⟩ e) (fun _ => ?_)
  rw [Int.toNat_natCast]
  exact hq
theorem t_ask_ash {d : Nat} (hd : 3 ≤ d) {σ : Sto} {Q : Post} {i : Int} (w q : Nat) {K : KV} {h : Int} {HK : Int → KV} {tl : Int} {tx : Int → Int} (hC : ClassR σ K h HK tl tx) (hi : 0 ≤ i ∧ i < K 7 1) (hw : w ≤ 2 ∧ q = 3 + w) (hq : Q (some (.inl (K q i))) σ) : WPd d m_X4_ash [.inr (0, 0), .inl i, .inl (w : Int)] σ Q := by
  have n := hC.2.1.2.1
  refine t_X4_ash hd hC (by omega) (by omega) (fun e => absurd ⟨hi, by omega⟩ e) (fun _ => ?_)
  rw [Int.toNat_natCast, ← hw.2]
  exact hq
