/-! THE MODEL: counts -/
def offQ (σ σ' : Sto) : Prop := (∀ k i, k ≠ 26 → ¬ (31 ≤ k ∧ k ≤ 35) → σ' k i = σ k i) ∧ σ' 26 0 2 = σ 26 0 2 ∧ σ' 26 0 4 = σ 26 0 4
theorem offQ.rf (σ : Sto) : offQ σ σ := ⟨fun _ _ _ _ => rfl, rfl, rfl⟩
theorem offQ.tr {σ τ ρ : Sto} (h : offQ σ τ) (h' : offQ τ ρ) : offQ σ ρ := ⟨fun k i a b => by rw [h'.1 k i a b, h.1 k i a b], by rw [h'.2.1, h.2.1], by rw [h'.2.2, h.2.2]⟩
theorem offQ.k {σ τ : Sto} (h : ∀ k i, ¬ (31 ≤ k ∧ k ≤ 35) → τ k i = σ k i) : offQ σ τ := ⟨fun k i _ b => h k i b, by rw [h 26 0 (by omega)], by rw [h 26 0 (by omega)]⟩
theorem ModelR_Q {σ σ' : Sto} {K : KV} {h : Int} {HK : Int → KV} {tl : Int} {tx : Int → Int} (hC : ModelR σ K h HK tl tx) (fo : offQ σ σ') : ModelR σ' K h HK tl tx ∧ frM σ σ' := ClassM_off hC fo.1 fo.2.1 fo.2.2
theorem acG_K {K : KV} {ma mu : Int} {q x : Int} (hq : 0 ≤ q) : acG K (-1) (-1) ma mu 0 q x = acK K q x := by
  unfold acG
  rw [if_neg (by omega), acK_0]
theorem cAt_cg {K : KV} {ac ac' : acT} {B : Int} {m : Nat} {p a c : Int} (hp : 0 ≤ p) (h : ∀ q x, 0 ≤ q → ac q x = ac' q x) : cAt K ac B m p a c ↔ cAt K ac' B m p a c := by
  constructor
  · rintro ⟨w, c', hw, hc, e⟩
    exact ⟨w, c', by rw [← h p a hp]; exact hw, cont_cg m p a c' (fun q x w q0 _ hw => by rw [← h q x (by omega)]; exact hw) hc, e⟩
  · rintro ⟨w, c', hw, hc, e⟩
    exact ⟨w, c', by rw [h p a hp]; exact hw, cont_cg m p a c' (fun q x w q0 _ hw => by rw [h q x (by omega)]; exact hw) hc, e⟩
theorem cAt_0 {K : KV} {ac : acT} {B : Int} {m : Nat} {c : Int} (h : ac 0 0 = some 0) : cAt K ac B m 0 0 c ↔ cont K ac B m 0 0 c := by
  constructor
  · rintro ⟨w, c', hw, hc, e⟩
    rw [h] at hw
    cases hw
    rw [e, Int.add_zero]
    exact hc
  · intro hc
    exact ⟨0, c, h, hc, by omega⟩
abbrev plS (σ : Sto) : Sto := upS (upS (upS σ 26 0 9 (-1)) 26 0 10 (-1)) 26 0 13 0
theorem plS_md (σ : Sto) : mdR (plS σ) (-1) (-1) 0 0 0 := by
  refine ⟨?_, ?_, up_hit, Or.inl rfl, by decide, by decide, by decide, by decide⟩
  · unfold plS
    rw [up_j (by decide), up_j (by decide), up_hit]
  · unfold plS
    rw [up_j (by decide), up_hit]
theorem plS_k {σ : Sto} {k : Nat} {i : Int} (h : k ≠ 26) : plS σ k i = σ k i := by
  unfold plS
  rw [up_k h, up_k h, up_k h]
theorem plS_o (σ : Sto) : offQ σ (plS σ) := ⟨fun k i a _ => plS_k a, by unfold plS; rw [up_j (by decide), up_j (by decide), up_j (by decide)], by unfold plS; rw [up_j (by decide), up_j (by decide), up_j (by decide)]⟩
/-- what the table of the rest holds, plainly -/
def RestOk (σ : Sto) (K : KV) : Prop := ∀ (m : Nat) (p a : Int), 0 ≤ p → p + m = K 7 0 → 0 ≤ a → a ≤ 600 → Mn (cAt K (acK K) 600 m p a) 100000000 (σ 31 0 (601 * p + a))
theorem RestOk_0 {σ : Sto} {K : KV} (hK : WFK K) (h : RestOk σ K) : Mn (CS K) 100000000 (σ 31 0 0) := by
  have hn := hK.1
  have := h (K 7 0).toNat 0 0 (by omega) (by omega) (by omega) (by omega)
  exact Mn_iff this (fun c => cAt_0 (acK_z hK))
theorem t_X5_solvesP {d : Nat} (hd : 3 ≤ d) {σ : Sto} {Q : Post} {K : KV} {ma mu : Int} (hK : vwM (σ 27 0) = K) (hw : WFK K) (hM : mdR σ (-1) (-1) ma mu 0) (hq : ∀ σ', (∀ k i, k ≠ 31 → σ' k i = σ k i) → RestOk σ' K → Mn (CS K) 100000000 (σ' 31 0 0) → (0 ≤ σ' 31 0 0 ∧ σ' 31 0 0 ≤ 100000000) → Q (some (.inl (σ' 31 0 0))) σ') : WPd d m_X5_solves [.inr (26, 0)] σ Q := by
  refine t_X5_solves hd hK hw hM (fun ρ f1 f2 => ?_)
  have ro : RestOk ρ K := fun m p a p0 pm a0 a1 => Mn_iff (f2 m p a p0 pm a0 a1) (fun c => cAt_cg p0 (fun q x q0 => acG_K q0))
  have b := RestOk_0 hw ro
  exact hq ρ f1 ro b ⟨Mn_0 b (by decide) (fun c hc => (cont_lt hw (acK_g hw) (by have := hw.1; omega) hc).1), Mn_le b⟩
theorem due_M {K : KV} (hK : WFK K) {m : Nat} {p a v cv : Int} (h : Mn (cAt K (acK K) 600 m p a) 100000000 v) (hv : v < 100000000) (hcv : (acK K p a = none ∧ 100000000 ≤ cv) ∨ (acK K p a = some cv ∧ 0 ≤ cv ∧ cv ≤ 60000)) : Mn (cont K (acK K) 600 m p a) 100000000 (v - cv) := by
  obtain ⟨w, c', hw, hc, e⟩ := (Mn_L h hv).1
  have ecv : w = cv := by
    rcases hcv with z | z
    · rw [z.1] at hw
      cases hw
    · rw [z.1] at hw
      injection hw with q
      exact q.symm
  subst ecv
  have b := acK_b hK p a w hw
  refine ⟨fun c hc2 => ?_, Or.inr ⟨by omega, ?_⟩⟩
  · have := h.1 (c + w) ⟨w, c, hw, hc2, rfl⟩
    omega
  · rw [e, show c' + w - w = c' by omega]
    exact hc
theorem t_X5_counts {d : Nat} (hd : 4 ≤ d) {σ : Sto} {Q : Post} {K : KV} (hK : vwM (σ 27 0) = K) (hw : WFK K) (hno : (∀ c, ¬ CS K c) → ∀ σ', offQ σ σ' → Q (some (.inl 0)) σ') (hyes : (∃ c, CS K c) → ∀ σ', offQ σ σ' → Bst K (acK K) 600 (σ' 35 0) (σ' 33 0) (σ' 34 0) → Q (some (.inl 1)) σ') : WPd d m_X5_counts [.inr (26, 0)] σ Q := by
  obtain ⟨d, rfl⟩ : ∃ k, d = k + 1 := ⟨d - 1, by omega⟩
  refine wpd_of fun P hT hP => ?_
  have hn := hw.1
  have n2 : σ 27 0 0 = K 7 0 := by rw [← hK, vm_n]
  (refine go (t := tb_X5_counts) (WPd_mono d) hP 120 [24, 69, 87, 214] ?_; (conv => whnf); (repeat' (first | (refine ⟨fun _ => ?_, fun _ => ?_⟩ <;> first | (exfalso; omega) | (conv => whnf)) | (refine ⟨by omega, ?_⟩; conv => whnf) | (intro _; conv => whnf))))
  refine t_X5_plain (by omega) ?_
  ((conv => whnf); (repeat' (first | (refine ⟨fun _ => ?_, fun _ => ?_⟩ <;> first | (exfalso; omega) | (conv => whnf)) | (refine ⟨by omega, ?_⟩; conv => whnf) | (intro _; conv => whnf))))
  refine t_X5_solvesP (K := K) (by omega) (show vwM (plS σ 27 0) = K by rw [plS_k (by decide)]; exact hK) hw (plS_md σ) (fun τ0 f0 ro b0 bb => ?_)
  have o0 : offQ σ τ0 := (plS_o σ).tr (offQ.k (fun k i hk => f0 k i (by omega)))
  have md0 : mdR τ0 (-1) (-1) 0 0 0 := mdR_cg (plS_md σ) (fun j _ _ => by rw [f0 26 0 (by decide)])
  by_cases c : τ0 31 0 0 < 100000000
  · have ex : ∃ c, CS K c := ⟨_, (Mn_L b0 c).1⟩
    have g27 : τ0 27 0 = σ 27 0 := o0.1 27 0 (by decide) (by decide)
    have L24 : ∀ (n : Nat) (p : Int) (τ : Sto), n = (K 7 0 - p).toNat → 0 ≤ p → p ≤ K 7 0 → (∀ k i, ¬ (33 ≤ k ∧ k ≤ 35) → τ k i = τ0 k i) → τ 35 0 0 = 0 → (0 ≤ τ 35 0 p ∧ τ 35 0 p ≤ 600) → τ0 31 0 (601 * p + τ 35 0 p) < 100000000 → (∀ q, 0 ≤ q → q < p → PkL K (acK K) 600 (K 7 0 - q - 1).toNat q (τ 35 0 q) (τ 33 0 q) (τ 34 0 q) ∧ τ 35 0 (q + 1) = τ 35 0 q + τ 33 0 q + τ 34 0 q) → P 24 [.inr (26, 0), .inl p] [] τ := by
      intro n
      induction n with
      | zero =>
        intro p τ hn0 p0 p1 fr a0 ab al iv
        have f27 : τ 27 0 0 = K 7 0 := by rw [fr 27 0 (by omega), g27]; exact n2
        have X := hyes ex τ (o0.tr (offQ.k (fun k i hk => fr k i (by omega)))) ⟨a0, fun q q0 q1 => iv q q0 (by omega)⟩
        (refine go (t := tb_X5_counts) (WPd_mono d) hP 120 [24, 69, 87, 214] ?_; (conv => whnf); (repeat' (first | (refine ⟨fun _ => ?_, fun _ => ?_⟩ <;> first | (exfalso; omega) | (conv => whnf)) | (refine ⟨by omega, ?_⟩; conv => whnf) | (intro _; conv => whnf))))
        exact X
      | succ n ih =>
        intro p τ hn0 p0 p1 fr a0 ab al iv
        have f27 : τ 27 0 = σ 27 0 := by rw [fr 27 0 (by omega), g27]
        have f270 : τ 27 0 0 = K 7 0 := by rw [f27]; exact n2
        have f31 : τ 31 0 = τ0 31 0 := fr 31 0 (by omega)
        have md : mdR τ (-1) (-1) 0 0 0 := mdR_cg md0 (fun j _ _ => by rw [fr 26 0 (by omega)])
        obtain ⟨m, hm⟩ : ∃ m : Nat, (K 7 0 - p - 1).toNat = m := ⟨_, rfl⟩
        obtain ⟨a, ea⟩ : ∃ a, τ 35 0 p = a := ⟨_, rfl⟩
        rw [ea] at ab al
        obtain ⟨-, v1, v2⟩ := (vm_in (f := σ 27 0)).1 p0 (by omega)
        rw [hK] at v1 v2
        have f2 : τ 27 0 (101 + p) = K 2 p := by rw [f27]; exact v2.symm
        have bl := lo_b (K 1 p)
        have bh := hi_b (K 1 p)
        have mb := (hw.2.2.1 p p0 (by omega)).2.2
        have r1 := ro (m + 1) p a p0 (by omega) ab.1 ab.2
        have r0 := Mn_0 r1 (by decide) (fun c hc => (cAt_b hw (acK_g hw) (by omega) hc).1)
        have cva := acN_av hw (l := -1) (mp := -1) (ma := 0) (mu := 0) (wi := 0) (by decide) (by decide) p a
        rw [acG_K p0] at cva
        obtain ⟨cv, ecv⟩ : ∃ cv, acN K (-1) (-1) 0 0 0 p a = cv := ⟨_, rfl⟩
        rw [ecv] at cva
        have du := due_M hw r1 al cva.1
        have cv0 : 0 ≤ cv := by
          rcases cva.1 with z | z <;> omega
        obtain ⟨due, edue⟩ : ∃ due, τ0 31 0 (601 * p + a) - cv = due := ⟨_, rfl⟩
        rw [edue] at du
        have dub : -200000000 ≤ due ∧ due < 100000000 := by omega
        have thrI : ∀ o g, rngK K p (o, g) → a + o + g ≤ 600 → (thr K (acK K) 600 m p a o g ↔ oK K p o + g * K 6 2 + τ0 31 0 (601 * (p + 1) + (a + o + g)) = due) := fun o g hr hB => by
          have q1 := hr.1
          have q2 := hr.2
          dsimp only at q1 q2
          exact thr_iff hw (acK_g hw) (by decide) (by omega) hr hB (ro m (p + 1) (a + o + g) (by omega) (by omega) (by omega) hB) du dub.2
        obtain ⟨o0', g0', t0⟩ := thr_ex hw (acK_g hw) du dub.2
        have tr : ∀ o g, thr K (acK K) 600 m p a o g → (lo (K 1 p) ≤ o ∧ o ≤ hi (K 1 p)) ∧ (0 ≤ g ∧ g ≤ K 2 p) ∧ a + o + g ≤ 600 := fun o g t => ⟨t.1, t.2.1, t.2.2.1⟩
        have tr0 := tr _ _ t0
        have D : ∀ (o g y : Int), thr K (acK K) 600 m p a o g → (∀ o' g', thr K (acK K) 600 m p a o' g' → o + g < o' + g' ∨ (o + g = o' + g' ∧ o ≤ o')) → P 214 [.inr (26, 0), .inl p, .inl due, .inl 1, .inl y] [] (upS (upS (upS τ 33 0 p o) 34 0 p g) 35 0 (p + 1) (a + o + g)) := by
          intro o g y t1 t2
          have tt := tr o g t1
          have lt2 : τ0 31 0 (601 * (p + 1) + (a + o + g)) < 100000000 := by
            obtain ⟨w, c', hw1, hc1, -⟩ := t1.2.2.2
            have ca : cAt K (acK K) 600 m (p + 1) (a + o + g) (c' + w) := ⟨w, c', hw1, hc1, rfl⟩
            have a1 := (ro m (p + 1) (a + o + g) (by omega) (by omega) (by omega) tt.2.2).1 _ ca
            have a2 := cAt_b hw (acK_g hw) (by omega) ca
            omega
          obtain ⟨ρ, eρ⟩ : ∃ ρ, upS (upS (upS τ 33 0 p o) 34 0 p g) 35 0 (p + 1) (a + o + g) = ρ := ⟨_, rfl⟩
          have s35 : ∀ x, x ≠ p + 1 → ρ 35 0 x = τ 35 0 x := fun x hx => by rw [← eρ, up_j hx, up_k (by decide), up_k (by decide)]
          have s35' : ρ 35 0 (p + 1) = a + o + g := by rw [← eρ, up_hit]
          have s33 : ∀ x, x ≠ p → ρ 33 0 x = τ 33 0 x := fun x hx => by rw [← eρ, up_k (by decide), up_k (by decide), up_j hx]
          have s33' : ρ 33 0 p = o := by rw [← eρ, up_k (by decide), up_k (by decide), up_hit]
          have s34 : ∀ x, x ≠ p → ρ 34 0 x = τ 34 0 x := fun x hx => by rw [← eρ, up_k (by decide), up_j hx, up_k (by decide)]
          have s34' : ρ 34 0 p = g := by rw [← eρ, up_k (by decide), up_hit]
          have X := ih (p + 1) ρ (by omega) (by omega) (by omega) (fun k i hk => by rw [← eρ, up_k (by omega), up_k (by omega), up_k (by omega)]; exact fr k i hk) (by rw [s35 0 (by omega)]; exact a0) (by rw [s35']; omega) (by rw [s35']; exact lt2) (fun q q0 q1 => by
            by_cases c : q = p
            · rw [c, s35 p (by omega), s35', s33', s34', ea, hm]
              exact ⟨⟨t1, t2⟩, rfl⟩
            · rw [s35 q (by omega), s35 (q + 1) (by omega), s33 q c, s34 q c]
              exact iv q q0 (by omega))
          rw [eρ]
          (refine go (t := tb_X5_counts) (WPd_mono d) hP 120 [24, 69, 87, 214] ?_; (conv => whnf); (repeat' (first | (refine ⟨fun _ => ?_, fun _ => ?_⟩ <;> first | (exfalso; omega) | (conv => whnf)) | (refine ⟨by omega, ?_⟩; conv => whnf) | (intro _; conv => whnf))))
          (refine hT 2 ?_; exact X)
        have F69 : ∀ (y : Int) (ρ : Sto), -5 ≤ y → y ≤ 100 → P 214 [.inr (26, 0), .inl p, .inl due, .inl 1, .inl y] [] ρ → P 69 [.inr (26, 0), .inl p, .inl due, .inl 1, .inl y] [] ρ := by
          intro y ρ y0 y1 X
          by_cases c : y ≤ 22
          · (refine go (t := tb_X5_counts) (WPd_mono d) hP 120 [24, 69, 87, 214] ?_; (conv => whnf); (repeat' (first | (refine ⟨fun _ => ?_, fun _ => ?_⟩ <;> first | (exfalso; omega) | (conv => whnf)) | (refine ⟨by omega, ?_⟩; conv => whnf) | (intro _; conv => whnf))))
            exact X
          · (refine go (t := tb_X5_counts) (WPd_mono d) hP 120 [24, 69, 87, 214] ?_; (conv => whnf); (repeat' (first | (refine ⟨fun _ => ?_, fun _ => ?_⟩ <;> first | (exfalso; omega) | (conv => whnf)) | (refine ⟨by omega, ?_⟩; conv => whnf) | (intro _; conv => whnf))))
            exact X
        have F87 : ∀ (y w : Int) (ρ : Sto), -5 ≤ y → y ≤ 90 → -5 ≤ w → w ≤ 100 → ρ 27 0 = σ 27 0 → P 214 [.inr (26, 0), .inl p, .inl due, .inl 1, .inl (y + 1)] [] ρ → P 87 [.inr (26, 0), .inl p, .inl due, .inl 1, .inl y, .inl w] [] ρ := by
          intro y w ρ y0 y1 w0 w1 e27 X
          have X := F69 (y + 1) ρ (by omega) (by omega) X
          by_cases c : w ≤ hi (K 1 p)
          · (refine go (t := tb_X5_counts) (WPd_mono d) hP 120 [24, 69, 87, 214] ?_; (conv => whnf); (repeat' (first | (refine ⟨fun _ => ?_, fun _ => ?_⟩ <;> first | (exfalso; omega) | (conv => whnf)) | (refine ⟨by omega, ?_⟩; conv => whnf) | (intro _; conv => whnf))))
            refine t_X5_mostOwn (by omega) (by omega) ?_
            rw [e27, ← v1]
            ((conv => whnf); (repeat' (first | (refine ⟨fun _ => ?_, fun _ => ?_⟩ <;> first | (exfalso; omega) | (conv => whnf)) | (refine ⟨by omega, ?_⟩; conv => whnf) | (intro _; conv => whnf))))
            (refine hT 5 ?_; exact X)
          · (refine go (t := tb_X5_counts) (WPd_mono d) hP 120 [24, 69, 87, 214] ?_; (conv => whnf); (repeat' (first | (refine ⟨fun _ => ?_, fun _ => ?_⟩ <;> first | (exfalso; omega) | (conv => whnf)) | (refine ⟨by omega, ?_⟩; conv => whnf) | (intro _; conv => whnf))))
            refine t_X5_mostOwn (by omega) (by omega) ?_
            rw [e27, ← v1]
            ((conv => whnf); (repeat' (first | (refine ⟨fun _ => ?_, fun _ => ?_⟩ <;> first | (exfalso; omega) | (conv => whnf)) | (refine ⟨by omega, ?_⟩; conv => whnf) | (intro _; conv => whnf))))
            (refine hT 5 ?_; exact X)
        have L69 : ∀ (n : Nat) (y : Int), n = (23 - y).toNat → 0 ≤ y → (∀ o g, thr K (acK K) 600 m p a o g → y ≤ o + g) → P 69 [.inr (26, 0), .inl p, .inl due, .inl 0, .inl y] [] τ := by
          intro n
          induction n with
          | zero =>
            intro y hn0 y0 jv
            have := jv _ _ t0
            exfalso
            omega
          | succ n kh =>
            intro y hn0 y0 jv
            have yo := jv _ _ t0
            have L87 : ∀ (k : Nat) (w : Int), k = (hi (K 1 p) + 1 - w).toNat → lo (K 1 p) ≤ w → w ≤ hi (K 1 p) + 1 → (∀ o g, thr K (acK K) 600 m p a o g → y < o + g ∨ (y = o + g ∧ w ≤ o)) → P 87 [.inr (26, 0), .inl p, .inl due, .inl 0, .inl y, .inl w] [] τ := by
              intro k
              induction k with
              | zero =>
                intro w hk w0 w1 kv
                have X := kh (y + 1) (by omega) (by omega) (fun o g t => by
                  have := kv o g t
                  have q := tr o g t
                  omega)
                (refine go (t := tb_X5_counts) (WPd_mono d) hP 120 [24, 69, 87, 214] ?_; (conv => whnf); (repeat' (first | (refine ⟨fun _ => ?_, fun _ => ?_⟩ <;> first | (exfalso; omega) | (conv => whnf)) | (refine ⟨by omega, ?_⟩; conv => whnf) | (intro _; conv => whnf))))
                refine t_X5_mostOwn (by omega) (by omega) ?_
                rw [f27, ← v1]
                ((conv => whnf); (repeat' (first | (refine ⟨fun _ => ?_, fun _ => ?_⟩ <;> first | (exfalso; omega) | (conv => whnf)) | (refine ⟨by omega, ?_⟩; conv => whnf) | (intro _; conv => whnf))))
                (refine hT 5 ?_; exact X)
              | succ k lh =>
                intro w hk w0 w1 kv
                have X := fun h => lh (w + 1) (by omega) (by omega) (by omega) h
                have no : ¬ thr K (acK K) 600 m p a w (y - w) → ∀ o g, thr K (acK K) 600 m p a o g → y < o + g ∨ (y = o + g ∧ w + 1 ≤ o) := fun h o g q => by
                  rcases kv o g q with z | ⟨z1, z2⟩
                  · exact Or.inl z
                  · by_cases c : o = w
                    · subst c
                      rw [show g = y - o by omega] at q
                      exact absurd q h
                    · exact Or.inr ⟨z1, by omega⟩
                (refine go (t := tb_X5_counts) (WPd_mono d) hP 120 [24, 69, 87, 214] ?_; (conv => whnf); (repeat' (first | (refine ⟨fun _ => ?_, fun _ => ?_⟩ <;> first | (exfalso; omega) | (conv => whnf)) | (refine ⟨by omega, ?_⟩; conv => whnf) | (intro _; conv => whnf))))
                refine t_X5_mostOwn (by omega) (by omega) ?_
                rw [f27, ← v1]
                ((conv => whnf); (repeat' (first | (refine ⟨fun _ => ?_, fun _ => ?_⟩ <;> first | (exfalso; omega) | (conv => whnf)) | (refine ⟨by omega, ?_⟩; conv => whnf) | (intro _; conv => whnf))))
                rw [ea]
                refine t_X5_in (by omega) (by omega) (by omega) (by omega) (fun h => ?_) (fun h => ?_)
                · rw [f2] at h
                  ((conv => whnf); (repeat' (first | (refine ⟨fun _ => ?_, fun _ => ?_⟩ <;> first | (exfalso; omega) | (conv => whnf)) | (refine ⟨by omega, ?_⟩; conv => whnf) | (intro _; conv => whnf))))
                  have hB : a + w + (y - w) ≤ 600 := by omega
                  have rg : rngK K p (w, y - w) := ⟨⟨w0, by omega⟩, h⟩
                  have ti := thrI w (y - w) rg hB
                  rw [show a + w + (y - w) = a + y by omega] at ti
                  have ye := yr_st hw (p := p) (by omega) rg
                  dsimp only [stK] at ye
                  have st := st_b hw (p := p) (by omega) rg
                  dsimp only [stK] at st
                  have r1' := ro m (p + 1) (a + y) (by omega) (by omega) (by omega) (by omega)
                  have r2' := Mn_le r1'
                  have r3' := Mn_0 r1' (by decide) (fun c hc => (cAt_b hw (acK_g hw) (by omega) hc).1)
                  refine t_X5_yearsCost (K := K) (by omega) (by rw [f27]; exact hK) (by omega) ?_
                  ((conv => whnf); (repeat' (first | (refine ⟨fun _ => ?_, fun _ => ?_⟩ <;> first | (exfalso; omega) | (conv => whnf)) | (refine ⟨by omega, ?_⟩; conv => whnf) | (intro _; conv => whnf))))
                  rw [f31]
                  ((conv => whnf); (repeat' (first | (refine ⟨fun _ => ?_, fun _ => ?_⟩ <;> first | (exfalso; omega) | (conv => whnf)) | (refine ⟨by omega, ?_⟩; conv => whnf) | (intro _; conv => whnf))))
                  · (refine hT 6 ?_; exact (X (no (fun q => by have := ti.1 q; omega))))
                  · have Z := D w (y - w) (y + 1) (ti.2 (by omega)) (fun o' g' q => by
                      have := kv o' g' q
                      omega)
                    rw [show a + w + (y - w) = a + y by omega] at Z
                    (refine hT 6 ?_; exact (F87 y (w + 1) _ (by omega) (by omega) (by omega) (by omega) (by rw [up_k (by decide), up_k (by decide), up_k (by decide)]; exact f27) Z))
                · rw [f2] at h
                  ((conv => whnf); (repeat' (first | (refine ⟨fun _ => ?_, fun _ => ?_⟩ <;> first | (exfalso; omega) | (conv => whnf)) | (refine ⟨by omega, ?_⟩; conv => whnf) | (intro _; conv => whnf))))
                  (refine hT 6 ?_; exact (X (no (fun q => by have := tr _ _ q; omega))))
            (refine go (t := tb_X5_counts) (WPd_mono d) hP 120 [24, 69, 87, 214] ?_; (conv => whnf); (repeat' (first | (refine ⟨fun _ => ?_, fun _ => ?_⟩ <;> first | (exfalso; omega) | (conv => whnf)) | (refine ⟨by omega, ?_⟩; conv => whnf) | (intro _; conv => whnf))))
            refine t_X5_leastOwn (by omega) (by omega) ?_
            rw [f27, ← v1]
            ((conv => whnf); (repeat' (first | (refine ⟨fun _ => ?_, fun _ => ?_⟩ <;> first | (exfalso; omega) | (conv => whnf)) | (refine ⟨by omega, ?_⟩; conv => whnf) | (intro _; conv => whnf))))
            exact L87 _ _ rfl (by omega) (by omega) (fun o g t => by
              have := jv o g t
              have q := tr o g t
              omega)
        have X := L69 _ 0 rfl (by omega) (fun o g t => by have := tr o g t; omega)
        (refine go (t := tb_X5_counts) (WPd_mono d) hP 120 [24, 69, 87, 214] ?_; (conv => whnf); (repeat' (first | (refine ⟨fun _ => ?_, fun _ => ?_⟩ <;> first | (exfalso; omega) | (conv => whnf)) | (refine ⟨by omega, ?_⟩; conv => whnf) | (intro _; conv => whnf))))
        rw [ea]
        ((conv => whnf); (repeat' (first | (refine ⟨fun _ => ?_, fun _ => ?_⟩ <;> first | (exfalso; omega) | (conv => whnf)) | (refine ⟨by omega, ?_⟩; conv => whnf) | (intro _; conv => whnf))))
        refine t_X5_ashCost (K := K) (l := -1) (mp := -1) (ma := 0) (mu := 0) (wi := 0) (by omega) (by rw [f27]; exact hK) hw md (by omega) (by omega) ?_
        rw [ecv, f31]
        ((conv => whnf); (repeat' (first | (refine ⟨fun _ => ?_, fun _ => ?_⟩ <;> first | (exfalso; omega) | (conv => whnf)) | (refine ⟨by omega, ?_⟩; conv => whnf) | (intro _; conv => whnf))))
        rw [edue]
        exact X
    ((conv => whnf); (repeat' (first | (refine ⟨fun _ => ?_, fun _ => ?_⟩ <;> first | (exfalso; omega) | (conv => whnf)) | (refine ⟨by omega, ?_⟩; conv => whnf) | (intro _; conv => whnf))))
    refine L24 _ 0 _ rfl (by omega) (by omega) (fun k i hk => up_k (by omega)) up_hit (by rw [up_hit]; decide) (by rw [up_hit]; exact c) (fun q q0 q1 => by omega)
  · ((conv => whnf); (repeat' (first | (refine ⟨fun _ => ?_, fun _ => ?_⟩ <;> first | (exfalso; omega) | (conv => whnf)) | (refine ⟨by omega, ?_⟩; conv => whnf) | (intro _; conv => whnf))))
    exact hno (Mn_no b0 c) τ0 o0
