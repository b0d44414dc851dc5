/-! THE MODEL: ways -/
noncomputable def owV (K : KV) (m : Nat) (p x r : Int) : Int := if r < 100000000 then min 1000000 (nW K (acK K) 600 m p x : Int) else 0
theorem t_X5_ways {d : Nat} (hd : 4 ≤ d) {σ : Sto} {Q : Post} {K : KV} {h : Int} {HK : Int → KV} {tl : Int} {tx : Int → Int} (hC : ModelR σ K h HK tl tx) (hno : (∀ c, ¬ CS K c) → ∀ σ', ModelR σ' K h HK tl tx → frM σ σ' → Q (some (.inl 0)) σ') (hyes : (∃ c, CS K c) → ∀ σ', ModelR σ' K h HK tl tx → frM σ σ' → Q (some (.inl (min 1000000 (nW K (acK K) 600 (K 7 0).toNat 0 0 : Int)))) σ') : WPd d m_X5_ways [.inr (26, 0)] σ Q := by
  obtain ⟨d, rfl⟩ : ∃ k, d = k + 1 := ⟨d - 1, by omega⟩
  refine wpd_of fun P hT hP => ?_
  obtain ⟨hK, hw, hh, htx⟩ := hC
  have hn := hw.1
  have n2 : σ 27 0 0 = K 7 0 := by rw [← hK, vm_n]
  (refine go (t := tb_X5_ways) (WPd_mono d) hP 90 [22, 28, 121, 150, 262] ?_; (conv => whnf); (repeat' (first | (refine ⟨fun _ => ?_, fun _ => ?_⟩ <;> first | (exfalso; omega) | (conv => whnf)) | (refine ⟨by omega, ?_⟩; conv => whnf) | (intro _; conv => whnf))))
  refine t_X5_plain (by omega) ?_
  ((conv => whnf); (repeat' (first | (refine ⟨fun _ => ?_, fun _ => ?_⟩ <;> first | (exfalso; omega) | (conv => whnf)) | (refine ⟨by omega, ?_⟩; conv => whnf) | (intro _; conv => whnf))))
  refine t_X5_solvesP (K := K) (by omega) (show vwM (plS σ 27 0) = K by rw [plS_k (by decide)]; exact hK) hw (plS_md σ) (fun τ f0 ro b0 bb => ?_)
  have o1 := (plS_o σ).tr (offQ.k (fun k i hk => f0 k i (by omega)))
  by_cases c : τ 31 0 0 < 100000000
  · have lc := Mn_L b0 c
    have md0 : mdR τ (-1) (-1) 0 0 0 := mdR_cg (plS_md σ) (fun j _ _ => by rw [f0 26 0 (by decide)])
    have e27 : τ 27 0 = σ 27 0 := o1.1 27 0 (by decide) (by decide)
    have e0 : τ 27 0 0 = K 7 0 := by rw [e27]; exact n2
    obtain ⟨R, eR⟩ : ∃ R : Int → Int, τ 31 0 = R := ⟨_, rfl⟩
    unfold RestOk at ro
    rw [eR] at ro
    have L22 : ∀ (n : Nat) (p : Int) (ρ : Sto), n = (p + 1).toNat → -1 ≤ p → p ≤ K 7 0 → (∀ k i, k ≠ 32 → ρ k i = τ k i) → (∀ (m : Nat) (q x : Int), p < q → q + m = K 7 0 → 0 ≤ x → x ≤ 600 → ρ 32 0 (601 * q + x) = owV K m q x (R (601 * q + x))) → P 22 [.inr (26, 0), .inl p] [] ρ := by
      intro n
      induction n with
      | zero =>
        intro p ρ hn0 p0 p1 fr iv
        have cr := ModelR_Q ⟨hK, hw, hh, htx⟩ (o1.tr (offQ.k (fun k i hk => fr k i (by omega))))
        have X := hyes ⟨_, lc.1⟩ ρ cr.1 cr.2
        have e := iv (K 7 0).toNat 0 0 (by omega) (by omega) (by omega) (by omega)
        have i0 : 601 * (0 : Int) + 0 = 0 := by decide
        rw [i0] at e
        have eR0 : R 0 < 100000000 := by rw [← eR]; exact c
        unfold owV at e
        rw [if_pos eR0] at e
        rw [← e] at X
        (refine go (t := tb_X5_ways) (WPd_mono d) hP 90 [22, 28, 121, 150, 262] ?_; (conv => whnf); (repeat' (first | (refine ⟨fun _ => ?_, fun _ => ?_⟩ <;> first | (exfalso; omega) | (conv => whnf)) | (refine ⟨by omega, ?_⟩; conv => whnf) | (intro _; conv => whnf))))
        exact X
      | succ n ih =>
        intro p ρ0 hn0 p0 p1 fr0 iv0
        obtain ⟨m, hm⟩ : ∃ m : Nat, p + m = K 7 0 := ⟨(K 7 0 - p).toNat, by omega⟩
        have L28 : ∀ (n : Nat) (a : Int) (ρ : Sto), n = (601 - a).toNat → 0 ≤ a → a ≤ 601 → (∀ k i, k ≠ 32 → ρ k i = τ k i) → (∀ (m : Nat) (q x : Int), p < q → q + m = K 7 0 → 0 ≤ x → x ≤ 600 → ρ 32 0 (601 * q + x) = owV K m q x (R (601 * q + x))) → (∀ x, 0 ≤ x → x < a → ρ 32 0 (601 * p + x) = owV K m p x (R (601 * p + x))) → P 28 [.inr (26, 0), .inl p, .inl a] [] ρ := by
          intro n
          induction n with
          | zero =>
            intro a ρ hn1 a0 a1 fr iv jv
            have X := ih (p - 1) ρ (by omega) (by omega) (by omega) fr (fun m' q x q0 q1 x0 x1 => by
              by_cases c : q = p
              · subst c
                rw [show m' = m by omega]
                exact jv x x0 (by omega)
              · exact iv m' q x (by omega) q1 x0 x1)
            (refine go (t := tb_X5_ways) (WPd_mono d) hP 90 [22, 28, 121, 150, 262] ?_; (conv => whnf); (repeat' (first | (refine ⟨fun _ => ?_, fun _ => ?_⟩ <;> first | (exfalso; omega) | (conv => whnf)) | (refine ⟨by omega, ?_⟩; conv => whnf) | (intro _; conv => whnf))))
            (refine hT 2 ?_; exact X)
          | succ n kh =>
            intro a ρ hn1 a0 a1 fr iv jv
            have f27 : ρ 27 0 = σ 27 0 := by rw [fr 27 0 (by decide), e27]
            have f270 : ρ 27 0 0 = K 7 0 := by rw [f27]; exact n2
            have f31 : ρ 31 0 = R := by rw [fr 31 0 (by decide), eR]
            have f31' : ∀ j, ρ 31 0 j = R j := fun j => by rw [f31]
            have md : mdR ρ (-1) (-1) 0 0 0 := mdR_cg md0 (fun j _ _ => by rw [fr 26 0 (by decide)])
            have r1 := ro m p a (by omega) hm a0 (by omega)
            have r2 := Mn_0 r1 (by decide) (fun c hc => (cAt_b hw (acK_g hw) (by omega) hc).1)
            have r3 := Mn_le r1
            obtain ⟨due, edue⟩ : ∃ due, R (601 * p + a) = due := ⟨_, rfl⟩
            have gdue : ρ 31 0 (601 * p + a) = due := by rw [f31, edue]
            rw [edue] at r1 r2 r3
            have T262 : ∀ (v c w : Int), v = owV K m p a due → P 262 [.inr (26, 0), .inl p, .inl a, .inl due, .inl v, .inl c, .inl w] [] ρ := by
              intro v c w hv
              have vb : -5 ≤ v ∧ v ≤ 1000000 := by
                rw [hv]
                unfold owV
                split <;> omega
              have X := kh (a + 1) (upS ρ 32 0 (601 * p + a) v) (by omega) (by omega) (by omega) (fun k i hk => by rw [up_k hk]; exact fr k i hk) (fun m' q x q0 q1 x0 x1 => by
                rw [up_j (by omega)]
                exact iv m' q x q0 q1 x0 x1) (fun x x0 x1 => by
                by_cases c : x = a
                · rw [c, up_hit, edue]
                  exact hv
                · rw [up_j (by omega)]
                  exact jv x x0 (by omega))
              (refine go (t := tb_X5_ways) (WPd_mono d) hP 90 [22, 28, 121, 150, 262] ?_; (conv => whnf); (repeat' (first | (refine ⟨fun _ => ?_, fun _ => ?_⟩ <;> first | (exfalso; omega) | (conv => whnf)) | (refine ⟨by omega, ?_⟩; conv => whnf) | (intro _; conv => whnf))))
              (refine hT 3 ?_; exact X)
            by_cases pn : p = K 7 0
            · have m0 : m = 0 := by omega
              subst m0
              have X121 : ∀ v c, v = owV K 0 p a due → P 121 [.inr (26, 0), .inl p, .inl a, .inl due, .inl v, .inl c, .inl 9] [] ρ := by
                intro v c hv
                have X := T262 v c 9 hv
                (refine go (t := tb_X5_ways) (WPd_mono d) hP 90 [22, 28, 121, 150, 262] ?_; (conv => whnf); (repeat' (first | (refine ⟨fun _ => ?_, fun _ => ?_⟩ <;> first | (exfalso; omega) | (conv => whnf)) | (refine ⟨by omega, ?_⟩; conv => whnf) | (intro _; conv => whnf))))
                exact X
              by_cases c2 : due < 100000000
              · have X := X121 1 0 (by
                  unfold owV
                  rw [if_pos c2]
                  rfl)
                (refine go (t := tb_X5_ways) (WPd_mono d) hP 90 [22, 28, 121, 150, 262] ?_; (conv => whnf); (repeat' (first | (refine ⟨fun _ => ?_, fun _ => ?_⟩ <;> first | (exfalso; omega) | (conv => whnf)) | (refine ⟨by omega, ?_⟩; conv => whnf) | (intro _; conv => whnf))))
                rw [gdue]
                exact X
              · have X := X121 0 0 (by
                  unfold owV
                  rw [if_neg c2])
                (refine go (t := tb_X5_ways) (WPd_mono d) hP 90 [22, 28, 121, 150, 262] ?_; (conv => whnf); (repeat' (first | (refine ⟨fun _ => ?_, fun _ => ?_⟩ <;> first | (exfalso; omega) | (conv => whnf)) | (refine ⟨by omega, ?_⟩; conv => whnf) | (intro _; conv => whnf))))
                rw [gdue]
                exact X
            · obtain ⟨m', rfl⟩ : ∃ m', m = m' + 1 := ⟨m - 1, by omega⟩
              obtain ⟨-, v1, v2⟩ := (vm_in (f := σ 27 0)).1 (show 0 ≤ p by omega) (by omega)
              rw [hK] at v1 v2
              have f2 : ρ 27 0 (101 + p) = K 2 p := by rw [f27]; exact v2.symm
              have bl := lo_b (K 1 p)
              have bh := hi_b (K 1 p)
              have mb := (hw.2.2.1 p (by omega) (by omega)).2.2
              by_cases c2 : due < 100000000
              · have cva := acN_av hw (l := -1) (mp := -1) (ma := 0) (mu := 0) (wi := 0) (by decide) (by decide) p a
                rw [acG_K (by omega)] at cva
                obtain ⟨cv, ecv⟩ : ∃ cv, acN K (-1) (-1) 0 0 0 p a = cv := ⟨_, rfl⟩
                rw [ecv] at cva
                have du := due_M hw r1 c2 cva.1
                have cv0 : 0 ≤ cv := by
                  rcases cva.1 with z | z <;> omega
                have cv1 := cva.2
                obtain ⟨T, eT⟩ : ∃ T : Int → Int → Prop, thr K (acK K) 600 m' p a = T := ⟨_, rfl⟩
                obtain ⟨N, eN⟩ : ∃ N : Int → Nat, (fun x => nW K (acK K) 600 m' (p + 1) x) = N := ⟨_, rfl⟩
                have eNx : ∀ x, nW K (acK K) 600 m' (p + 1) x = N x := fun x => by rw [← eN]
                have nWT : nW K (acK K) 600 (m' + 1) p a = sumN (fun o => sumN (ttF T N a o) 21) 3 := by rw [nW_s, eT, eN]
                have hTr : ∀ o g, T o g → (lo (K 1 p) ≤ o ∧ o ≤ hi (K 1 p)) ∧ (0 ≤ g ∧ g ≤ K 2 p) ∧ a + o + g ≤ 600 := fun o g t => by
                  rw [← eT] at t
                  exact ⟨t.1, t.2.1, t.2.2.1⟩
                have thrI : ∀ o g, rngK K p (o, g) → a + o + g ≤ 600 → (T o g ↔ oK K p o + g * K 6 2 + R (601 * (p + 1) + (a + o + g)) = due - cv) := fun o g hr hB => by
                  have q1 := hr.1
                  have q2 := hr.2
                  dsimp only at q1 q2
                  rw [← eT]
                  exact thr_iff hw (acK_g hw) (by decide) (by omega) hr hB (ro m' (p + 1) (a + o + g) (by omega) (by omega) (by omega) hB) du (by omega)
                have L121 : ∀ (n : Nat) (w v : Int), n = (hi (K 1 p) + 1 - w).toNat → lo (K 1 p) ≤ w → w ≤ hi (K 1 p) + 1 → v = min 1000000 (sumN (fun o => sumN (ttF T N a o) 21) w.toNat : Int) → P 121 [.inr (26, 0), .inl p, .inl a, .inl due, .inl v, .inl cv, .inl w] [] ρ := by
                  intro n
                  induction n with
                  | zero =>
                    intro w v hn2 w0 w1 hv
                    have X := T262 v cv w (by
                      unfold owV
                      rw [if_pos c2, hv, nWT]
                      congr 2
                      refine (sumN_up 3 (by omega) (fun i hi => sumN_z _ (fun g hg => ttF_f (fun t => ?_)))).symm
                      have := hTr _ _ t
                      omega)
                    (refine go (t := tb_X5_ways) (WPd_mono d) hP 90 [22, 28, 121, 150, 262] ?_; (conv => whnf); (repeat' (first | (refine ⟨fun _ => ?_, fun _ => ?_⟩ <;> first | (exfalso; omega) | (conv => whnf)) | (refine ⟨by omega, ?_⟩; conv => whnf) | (intro _; conv => whnf))))
                    refine t_X5_mostOwn (by omega) (by omega) ?_
                    rw [f27, ← v1]
                    ((conv => whnf); (repeat' (first | (refine ⟨fun _ => ?_, fun _ => ?_⟩ <;> first | (exfalso; omega) | (conv => whnf)) | (refine ⟨by omega, ?_⟩; conv => whnf) | (intro _; conv => whnf))))
                    exact X
                  | succ n lh =>
                    intro w v hn2 w0 w1 hv
                    have EX : ∀ (y v : Int), 0 ≤ y → y ≤ 21 → v = min 1000000 ((sumN (fun o => sumN (ttF T N a o) 21) w.toNat + sumN (ttF T N a w.toNat) y.toNat : Nat) : Int) → (∀ g, y ≤ g → g ≤ K 2 p → ¬ a + w + g ≤ 600) → P 121 [.inr (26, 0), .inl p, .inl a, .inl due, .inl v, .inl cv, .inl (w + 1)] [] ρ := by
                      intro y v y0 y1 hv hz
                      refine lh (w + 1) v (by omega) (by omega) (by omega) ?_
                      rw [hv, show (w + 1).toNat = w.toNat + 1 by omega, sumN_s]
                      have e : sumN (ttF T N a w.toNat) 21 = sumN (ttF T N a w.toNat) y.toNat := sumN_up 21 (by omega) (fun i hi => ttF_f (fun t => by
                        have q := hTr _ _ t
                        have := hz i (by omega) (by omega)
                        omega))
                      rw [e]
                    have L150 : ∀ (k : Nat) (y v : Int), k = (K 2 p + 1 - y).toNat → 0 ≤ y → y ≤ K 2 p + 1 → v = min 1000000 ((sumN (fun o => sumN (ttF T N a o) 21) w.toNat + sumN (ttF T N a w.toNat) y.toNat : Nat) : Int) → P 150 [.inr (26, 0), .inl p, .inl a, .inl due, .inl v, .inl cv, .inl w, .inl y] [] ρ := by
                      intro k
                      induction k with
                      | zero =>
                        intro y v hk y0 y1 hv
                        have X := EX y v y0 (by omega) hv (fun g g0 g1 => by omega)
                        (refine go (t := tb_X5_ways) (WPd_mono d) hP 90 [22, 28, 121, 150, 262] ?_; (conv => whnf); (repeat' (first | (refine ⟨fun _ => ?_, fun _ => ?_⟩ <;> first | (exfalso; omega) | (conv => whnf)) | (refine ⟨by omega, ?_⟩; conv => whnf) | (intro _; conv => whnf))))
                        (refine hT 7 ?_; exact X)
                      | succ k oh =>
                        intro y v hk y0 y1 hv
                        by_cases c3 : a + w + y ≤ 600
                        · have rg : rngK K p (w, y) := ⟨⟨w0, by omega⟩, ⟨y0, by omega⟩⟩
                          have st := st_b hw (p := p) (by omega) rg
                          have ye := yr_st hw (p := p) (by omega) rg
                          dsimp only [stK] at st ye
                          have ti := thrI w y rg c3
                          have q1 := ro m' (p + 1) (a + w + y) (by omega) (by omega) (by omega) c3
                          have q2 := Mn_0 q1 (by decide) (fun c hc => (cAt_b hw (acK_g hw) (by omega) hc).1)
                          have q3 := Mn_le q1
                          have ix : 601 * (p + 1) + a + w + y = 601 * (p + 1) + (a + w + y) := by omega
                          have g31 := f31' (601 * (p + 1) + (a + w + y))
                          have g32 := iv m' (p + 1) (a + w + y) (by omega) (by omega) (by omega) c3
                          have ey : (y + 1).toNat = y.toNat + 1 := by omega
                          have ew : (w.toNat : Int) = w := by omega
                          have eyy : (y.toNat : Int) = y := by omega
                          have vb : 0 ≤ v ∧ v ≤ 1000000 := by omega
                          by_cases t : T w y
                          · have tv := ti.1 t
                            unfold owV at g32
                            rw [if_pos (by omega), eNx] at g32
                            have tt : ttF T N a w.toNat y.toNat = N (a + w + y) := by rw [ttF_t (by rw [ew, eyy]; exact t), ew, eyy]
                            have X := fun (v' : Int) (hv' : v' = min 1000000 ((sumN (fun o => sumN (ttF T N a o) 21) w.toNat + (sumN (ttF T N a w.toNat) y.toNat + N (a + w + y)) : Nat) : Int)) => oh (y + 1) v' (by clear hv'; omega) (by clear hv'; omega) (by clear hv'; omega) (by
                              rw [ey, sumN_s _ y.toNat, tt]
                              exact hv')
                            by_cases c4 : 1000000 < v + ρ 32 0 (601 * (p + 1) + (a + w + y))
                            · have X := X 1000000 (by omega)
                              (refine go (t := tb_X5_ways) (WPd_mono d) hP 90 [22, 28, 121, 150, 262] ?_; (conv => whnf); (repeat' (first | (refine ⟨fun _ => ?_, fun _ => ?_⟩ <;> first | (exfalso; omega) | (conv => whnf)) | (refine ⟨by omega, ?_⟩; conv => whnf) | (intro _; conv => whnf))))
                              rw [ix]
                              refine t_X5_yearsCost (K := K) (by omega) (by rw [f27]; exact hK) (by omega) ?_
                              ((conv => whnf); (repeat' (first | (refine ⟨fun _ => ?_, fun _ => ?_⟩ <;> first | (exfalso; omega) | (conv => whnf)) | (refine ⟨by omega, ?_⟩; conv => whnf) | (intro _; conv => whnf))))
                              (refine hT 8 ?_; exact X)
                            · have X := X (v + ρ 32 0 (601 * (p + 1) + (a + w + y))) (by omega)
                              (refine go (t := tb_X5_ways) (WPd_mono d) hP 90 [22, 28, 121, 150, 262] ?_; (conv => whnf); (repeat' (first | (refine ⟨fun _ => ?_, fun _ => ?_⟩ <;> first | (exfalso; omega) | (conv => whnf)) | (refine ⟨by omega, ?_⟩; conv => whnf) | (intro _; conv => whnf))))
                              rw [ix]
                              refine t_X5_yearsCost (K := K) (by omega) (by rw [f27]; exact hK) (by omega) ?_
                              ((conv => whnf); (repeat' (first | (refine ⟨fun _ => ?_, fun _ => ?_⟩ <;> first | (exfalso; omega) | (conv => whnf)) | (refine ⟨by omega, ?_⟩; conv => whnf) | (intro _; conv => whnf))))
                              (refine hT 8 ?_; exact X)
                          · have ne : ¬ oK K p w + y * K 6 2 + R (601 * (p + 1) + (a + w + y)) = due - cv := fun e => t (ti.2 e)
                            clear ti
                            have tt : ttF T N a w.toNat y.toNat = 0 := ttF_f (by rw [ew, eyy]; exact t)
                            have X := oh (y + 1) v (by omega) (by omega) (by omega) (by
                              rw [ey, sumN_s _ y.toNat, tt]
                              exact hv)
                            (refine go (t := tb_X5_ways) (WPd_mono d) hP 90 [22, 28, 121, 150, 262] ?_; (conv => whnf); (repeat' (first | (refine ⟨fun _ => ?_, fun _ => ?_⟩ <;> first | (exfalso; omega) | (conv => whnf)) | (refine ⟨by omega, ?_⟩; conv => whnf) | (intro _; conv => whnf))))
                            rw [ix]
                            refine t_X5_yearsCost (K := K) (by omega) (by rw [f27]; exact hK) (by omega) ?_
                            ((conv => whnf); (repeat' (first | (refine ⟨fun _ => ?_, fun _ => ?_⟩ <;> first | (exfalso; omega) | (conv => whnf)) | (refine ⟨by omega, ?_⟩; conv => whnf) | (intro _; conv => whnf))))
                            rw [show v + 0 = v by omega]
                            (refine hT 8 ?_; exact X)
                        · have X := EX y v y0 (by omega) hv (fun g g0 g1 => by omega)
                          (refine go (t := tb_X5_ways) (WPd_mono d) hP 90 [22, 28, 121, 150, 262] ?_; (conv => whnf); (repeat' (first | (refine ⟨fun _ => ?_, fun _ => ?_⟩ <;> first | (exfalso; omega) | (conv => whnf)) | (refine ⟨by omega, ?_⟩; conv => whnf) | (intro _; conv => whnf))))
                          (refine hT 7 ?_; exact X)
                    have X := L150 _ 0 v rfl (by omega) (by omega) hv
                    (refine go (t := tb_X5_ways) (WPd_mono d) hP 90 [22, 28, 121, 150, 262] ?_; (conv => whnf); (repeat' (first | (refine ⟨fun _ => ?_, fun _ => ?_⟩ <;> first | (exfalso; omega) | (conv => whnf)) | (refine ⟨by omega, ?_⟩; conv => whnf) | (intro _; conv => whnf))))
                    refine t_X5_mostOwn (by omega) (by omega) ?_
                    rw [f27, ← v1]
                    ((conv => whnf); (repeat' (first | (refine ⟨fun _ => ?_, fun _ => ?_⟩ <;> first | (exfalso; omega) | (conv => whnf)) | (refine ⟨by omega, ?_⟩; conv => whnf) | (intro _; conv => whnf))))
                    exact X
                have X := L121 _ (lo (K 1 p)) 0 rfl (by omega) (by omega) (by
                  rw [sumN_z _ (fun i hi => sumN_z _ (fun g hg => ttF_f (fun t => ?_)))]
                  · rfl
                  · have := hTr _ _ t
                    omega)
                (refine go (t := tb_X5_ways) (WPd_mono d) hP 90 [22, 28, 121, 150, 262] ?_; (conv => whnf); (repeat' (first | (refine ⟨fun _ => ?_, fun _ => ?_⟩ <;> first | (exfalso; omega) | (conv => whnf)) | (refine ⟨by omega, ?_⟩; conv => whnf) | (intro _; conv => whnf))))
                refine t_X5_ashCost (K := K) (l := -1) (mp := -1) (ma := 0) (mu := 0) (wi := 0) (by omega) (by rw [f27]; exact hK) hw md (by omega) (by omega) ?_
                rw [ecv]
                ((conv => whnf); (repeat' (first | (refine ⟨fun _ => ?_, fun _ => ?_⟩ <;> first | (exfalso; omega) | (conv => whnf)) | (refine ⟨by omega, ?_⟩; conv => whnf) | (intro _; conv => whnf))))
                refine t_X5_leastOwn (by omega) (by omega) ?_
                rw [f27, ← v1, gdue]
                ((conv => whnf); (repeat' (first | (refine ⟨fun _ => ?_, fun _ => ?_⟩ <;> first | (exfalso; omega) | (conv => whnf)) | (refine ⟨by omega, ?_⟩; conv => whnf) | (intro _; conv => whnf))))
                exact X
              · have X := T262 0 0 (lo (K 1 p)) (by
                  unfold owV
                  rw [if_neg c2])
                have X2 : P 121 [.inr (26, 0), .inl p, .inl a, .inl due, .inl 0, .inl 0, .inl (lo (K 1 p))] [] ρ := by
                  (refine go (t := tb_X5_ways) (WPd_mono d) hP 90 [22, 28, 121, 150, 262] ?_; (conv => whnf); (repeat' (first | (refine ⟨fun _ => ?_, fun _ => ?_⟩ <;> first | (exfalso; omega) | (conv => whnf)) | (refine ⟨by omega, ?_⟩; conv => whnf) | (intro _; conv => whnf))))
                  refine t_X5_mostOwn (by omega) (by omega) ?_
                  rw [f27, ← v1]
                  ((conv => whnf); (repeat' (first | (refine ⟨fun _ => ?_, fun _ => ?_⟩ <;> first | (exfalso; omega) | (conv => whnf)) | (refine ⟨by omega, ?_⟩; conv => whnf) | (intro _; conv => whnf))))
                  exact X
                (refine go (t := tb_X5_ways) (WPd_mono d) hP 90 [22, 28, 121, 150, 262] ?_; (conv => whnf); (repeat' (first | (refine ⟨fun _ => ?_, fun _ => ?_⟩ <;> first | (exfalso; omega) | (conv => whnf)) | (refine ⟨by omega, ?_⟩; conv => whnf) | (intro _; conv => whnf))))
                refine t_X5_leastOwn (by omega) (by omega) ?_
                rw [f27, ← v1, gdue]
                ((conv => whnf); (repeat' (first | (refine ⟨fun _ => ?_, fun _ => ?_⟩ <;> first | (exfalso; omega) | (conv => whnf)) | (refine ⟨by omega, ?_⟩; conv => whnf) | (intro _; conv => whnf))))
                exact X2
        have X := L28 _ 0 ρ0 rfl (by omega) (by omega) fr0 iv0 (fun x x0 x1 => by omega)
        (refine go (t := tb_X5_ways) (WPd_mono d) hP 90 [22, 28, 121, 150, 262] ?_; (conv => whnf); (repeat' (first | (refine ⟨fun _ => ?_, fun _ => ?_⟩ <;> first | (exfalso; omega) | (conv => whnf)) | (refine ⟨by omega, ?_⟩; conv => whnf) | (intro _; conv => whnf))))
        exact X
    have X := L22 _ (K 7 0) τ rfl (by omega) (by omega) (fun _ _ _ => rfl) (fun m q x q0 q1 => by omega)
    ((conv => whnf); (repeat' (first | (refine ⟨fun _ => ?_, fun _ => ?_⟩ <;> first | (exfalso; omega) | (conv => whnf)) | (refine ⟨by omega, ?_⟩; conv => whnf) | (intro _; conv => whnf))))
    rw [e0]
    exact X
  · have cr := ModelR_Q ⟨hK, hw, hh, htx⟩ o1
    have X := hno (Mn_no b0 c) τ cr.1 cr.2
    ((conv => whnf); (repeat' (first | (refine ⟨fun _ => ?_, fun _ => ?_⟩ <;> first | (exfalso; omega) | (conv => whnf)) | (refine ⟨by omega, ?_⟩; conv => whnf) | (intro _; conv => whnf))))
    exact X
