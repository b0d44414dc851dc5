/-! THE CLASS BESIDE THE MODEL: each call answers alike -/
def RelB (σ : Sto) : Prop := ∃ K h HK tl tx, ClassR σ K h HK tl tx ∧ ModelR σ K h HK tl tx
theorem frC.rf (σ : Sto) : frC σ σ := fun _ _ _ => rfl
theorem frM.rf (σ : Sto) : frM σ σ := fun _ _ _ => rfl
theorem ClassR_f {σ σ' : Sto} {K : KV} {h : Int} {HK : Int → KV} {tl : Int} {tx : Int → Int} (hC : ClassR σ K h HK tl tx) (f : frM σ σ') : ClassR σ' K h HK tl tx := by
  obtain ⟨c1, c2, c3, c4, c5⟩ := hC
  exact ⟨by rw [vwC_cg (σ := σ) (fun k h1 h2 => f k 0 (by omega))]; exact c1, c2, HistR_off c3 (fun k i hk => f k i (by omega)), TxtR_off c4 (fun k i hk => f k i (by omega)), RecOk_off c5 (fun k i hk => f k i (by omega))⟩
theorem ModelR_f {σ σ' : Sto} {K : KV} {h : Int} {HK : Int → KV} {tl : Int} {tx : Int → Int} (hC : ModelR σ K h HK tl tx) (f : frC σ σ') : ModelR σ' K h HK tl tx := by
  obtain ⟨c1, c2, c3, c4⟩ := hC
  refine ⟨by rw [f 27 0 (by omega)]; exact c1, c2, ?_, ?_⟩
  · unfold HistM at c3 ⊢
    rw [f 26 0 (by omega), f 28 0 (by omega)]
    exact c3
  · unfold TxtM at c4 ⊢
    rw [f 26 0 (by omega), f 29 0 (by omega)]
    exact c4
def MQ5 (σ1 : Sto) (v : Int) : Post := fun r σ2 => r = some (.inl v) ∧ RelB σ2 ∧ frM σ1 σ2
def PQ (d y5 : Nat) (as5 : List AV) (σ : Sto) : Post := fun r σ1 => ∃ v, r = some (.inl v) ∧ frC σ σ1 ∧ inR v ∧ WPd d y5 as5 σ1 (MQ5 σ1 v)
theorem cnt_bd (f : Int → Int) (w : Int) : ∀ (n : Nat) (i : Int), 0 ≤ cntF f w n i ∧ cntF f w n i ≤ n
  | 0, _ => by
    unfold cntF
    omega
  | n + 1, i => by
    have ih := cnt_bd f w n (i + 1)
    unfold cntF
    split <;> omega
theorem sum_bd {f : Int → Int} {X : Int} (hX : 0 ≤ X) : ∀ (n : Nat) (i : Int), (∀ j, i ≤ j → j < i + n → 0 ≤ f j ∧ f j ≤ X) → 0 ≤ sumF f n i ∧ sumF f n i ≤ n * X
  | 0, _, _ => by
    unfold sumF
    omega
  | n + 1, i, h => by
    have ih := sum_bd (f := f) hX n (i + 1) (fun j j0 j1 => h j (by omega) (by omega))
    have b := h i (by omega) (by omega)
    unfold sumF
    rw [show ((n + 1 : Nat) : Int) * X = n * X + X by rw [show ((n + 1 : Nat) : Int) = (n : Int) + 1 by omega, Int.add_mul, Int.one_mul]]
    omega
theorem tot_bd {K : KV} (hK : WFK K) {A O G : Int → Int} (h : Bst K (acK K) 600 A O G) (w : Int) : inR (totA K A O G w) := by
  have n1 := hK.1
  have n2 := hK.2.1
  unfold totA
  by_cases c0 : w = 0
  · rw [if_pos c0]
    have := cnt_bd O 0 (K 7 0).toNat 0
    omega
  · rw [if_neg c0]
    by_cases c1 : w = 1
    · rw [if_pos c1]
      have := cnt_bd O 2 (K 7 0).toNat 0
      omega
    · rw [if_neg c1]
      by_cases c2 : w = 2
      · rw [if_pos c2]
        have := sum_bd (f := G) (X := 20) (by decide) (K 7 0).toNat 0 (fun j j0 j1 => by
          have a := (Bst_b hK h j0).2 (by omega)
          have b := (hK.2.2.1 j j0 (by omega)).2.2
          omega)
        omega
      · rw [if_neg c2]
        by_cases c3 : w = 3
        · rw [if_pos c3]
          have := sum_bd (f := fun i => dif (A (K 3 i)) (K 4 i)) (X := 1100) (by decide) (K 7 1).toNat 0 (fun j j0 j1 => by
            have u := hK.2.2.2.1 j j0 (by omega)
            have a := (Bst_b hK h (p := K 3 j) (by omega)).1 (by omega)
            dsimp only [dif]
            omega)
          omega
        · rw [if_neg c3]
          have a := (Bst_b hK h (p := K 7 0) (by omega)).1 (by omega)
          omega
theorem tot_u {K : KV} (hK : WFK K) {A O G A' O' G' : Int → Int} (h : Bst K (acK K) 600 A O G) (h' : Bst K (acK K) 600 A' O' G') (w : Int) : totA K A O G w = totA K A' O' G' w := by
  have n1 := hK.1
  have n2 := hK.2.1
  have u := fun m hm => Bst_u h h' m hm
  have un := u (K 7 0).toNat (by omega)
  rw [show ((K 7 0).toNat : Int) = K 7 0 by omega] at un
  unfold totA
  rw [cntF_cg (f := O) (g := O') _ _ (fun j j0 j1 => (un.2 j (by omega) (by omega)).1), cntF_cg (f := O) (g := O') (w := 2) _ _ (fun j j0 j1 => (un.2 j (by omega) (by omega)).1), sumF_cg (f := G) (g := G') _ _ (fun j j0 j1 => (un.2 j (by omega) (by omega)).2), un.1]
  have s3 : sumF (fun i => dif (A (K 3 i)) (K 4 i)) (K 7 1).toNat 0 = sumF (fun i => dif (A' (K 3 i)) (K 4 i)) (K 7 1).toNat 0 := sumF_cg _ _ fun j j0 j1 => by
    have x := hK.2.2.2.1 j (by omega) (by omega)
    have a := (u (K 3 j).toNat (by omega)).1
    rw [show ((K 3 j).toNat : Int) = K 3 j by omega] at a
    rw [a]
  rw [s3]
theorem A_u {K : KV} (hK : WFK K) {A O G A' O' G' : Int → Int} (h : Bst K (acK K) 600 A O G) (h' : Bst K (acK K) 600 A' O' G') {p : Int} (h0 : 0 ≤ p) (h1 : p ≤ K 7 0) : A p = A' p := by
  have a := (Bst_u h h' p.toNat (by omega)).1
  rwa [show (p.toNat : Int) = p by omega] at a
theorem OG_u {K : KV} (hK : WFK K) {A O G A' O' G' : Int → Int} (h : Bst K (acK K) 600 A O G) (h' : Bst K (acK K) 600 A' O' G') {p : Int} (h0 : 0 ≤ p) (h1 : p < K 7 0) : O p = O' p ∧ G p = G' p := by
  have n1 := hK.1
  exact (Bst_u h h' (K 7 0).toNat (by omega)).2 p h0 (by omega)
theorem cost_bd {K : KV} (hK : WFK K) {ac : acT} (hac : acB ac 60000) {v : Int} (h : cont K ac 600 (K 7 0).toNat 0 0 v) : inR v := by
  have n1 := hK.1
  have := cont_lt hK hac (by omega) h
  omega
theorem W_bd {K : KV} (hK : WFK K) {v : Int} (h : isW K v) : inR v := by
  have n1 := hK.1
  have top := WS_top hK (e := 500) (by decide) (K 7 0).toNat 0 0 (by omega) (by omega) (by omega) (by omega)
  obtain ⟨c, hc⟩ := top
  obtain ⟨h0, -, h2⟩ := h
  by_cases q : 500 < v
  · exact absurd hc (h2 500 (by decide) q c)
  · omega
theorem div_bd {x v : Int} (h0 : 0 ≤ x) (h1 : x ≤ 100000) (hv : 1 ≤ v) : inR (x / v) := by
  have a := Int.ediv_nonneg h0 (show 0 ≤ v by omega)
  have b := Int.ediv_le_self v h0
  omega
theorem BS_in {K : KV} (hK : WFK K) {p m : Nat} (hp : (p : Int) ≤ K 7 0) {lim a : Int} (h : BS K p m lim a) : inR a := by
  obtain ⟨c1, w1, c2, g1, _, _, _⟩ := h
  have a1 := (pre_old hK hp g1).1
  have a2 := old_b hK
  omega
theorem K_in {K : KV} (hK : WFK K) : (∀ w i : Int, 0 ≤ w → w ≤ 2 → 0 ≤ i → i < K 7 0 → inR (K w.toNat i)) ∧ (∀ w i : Int, 0 ≤ w → w ≤ 2 → 0 ≤ i → i < K 7 1 → inR (K (3 + w.toNat) i)) ∧ (∀ j, 0 ≤ j → j < 4 → inR (K 6 j)) := by
  refine ⟨fun w i w0 w1 i0 i1 => ?_, fun w i w0 w1 i0 i1 => ?_, fun j j0 j1 => ?_⟩
  · have u := hK.2.2.1 i i0 i1
    rcases (show w = 0 ∨ w = 1 ∨ w = 2 by omega) with rfl | rfl | rfl
    · show inR (K 0 i)
      omega
    · show inR (K 1 i)
      omega
    · show inR (K 2 i)
      omega
  · have u := hK.2.2.2.1 i i0 i1
    have n1 := hK.1
    rcases (show w = 0 ∨ w = 1 ∨ w = 2 by omega) with rfl | rfl | rfl
    · show inR (K 3 i)
      omega
    · show inR (K 4 i)
      omega
    · show inR (K 5 i)
      omega
  · have := hK.2.2.2.2.2 j j0 j1
    omega
theorem bound_u {P : Int → Prop} {w a b : Int} (hw : 0 ≤ w ∧ w ≤ 1) (h1 : P a) (h2 : w = 0 → ∀ c, P c → a ≤ c) (h3 : w = 1 → ∀ c, P c → c ≤ a) (g1 : P b) (g2 : w = 0 → ∀ c, P c → b ≤ c) (g3 : w = 1 → ∀ c, P c → c ≤ b) : b = a := by
  rcases (show w = 0 ∨ w = 1 by omega) with z | z
  · have x := h2 z b g1
    have y := g2 z a h1
    omega
  · have x := h3 z b g1
    have y := g3 z a h1
    omega
theorem WFK_of_lay {σ : Sto} {K : KV} {h : Int} {HK : Int → KV} {tl : Int} {tx : Int → Int} (hC : ClassR σ K h HK tl tx) (q : (parF tl tx 90 0 emK).1 = -4) : WFK (parF tl tx 90 0 emK).2 := by
  have ht := hC.2.2.2.1.2.1
  rcases parF_b (tl := tl) (tx := tx) 90 0 emK (by omega) (by omega) emK_wf with z | z
  · exact z.2
  · omega
theorem cnt_in {K : KV} (hK : WFK K) {h : Int} (hh : 0 ≤ h ∧ h ≤ 6) (w : Int) : inR (if w = 0 then K 7 0 else if w = 1 then K 7 1 else if w = 2 then sumF (K 0) (K 7 0).toNat 0 else if w = 3 then cntF (K 1) 1 (K 7 0).toNat 0 else if w = 4 then cntF (K 1) 2 (K 7 0).toNat 0 else if w = 5 then K 6 0 else if w = 6 then K 6 1 else if w = 7 then K 6 2 else if w = 8 then K 6 3 else if w = 9 then h else -1) := by
  have n1 := hK.1
  have n2 := hK.2.1
  have s1 := sum_th hK (K 7 0).toNat 0 (by omega) (by omega)
  have s2 := cnt_bd (K 1) 1 (K 7 0).toNat 0
  have s3 := cnt_bd (K 1) 2 (K 7 0).toNat 0
  have k0 := hK.2.2.2.2.2 0 (by omega) (by omega)
  have k1 := hK.2.2.2.2.2 1 (by omega) (by omega)
  have k2 := hK.2.2.2.2.2 2 (by omega) (by omega)
  have k3 := hK.2.2.2.2.2 3 (by omega) (by omega)
  (repeat' split) <;> omega
theorem rate_bd {K : KV} (hK : WFK K) {A O G : Int → Int} {u l w v : Int} (q1 : (0 ≤ u ∧ u ≤ K 7 0) ∧ (0 ≤ l ∧ l ≤ K 7 0) ∧ u < l ∧ (0 ≤ w ∧ w ≤ 1)) (bs : Bst K (acK K) 600 A O G) (q3 : A u < A l) (g : isG (sumF (K 0) (l - u).toNat u) (A l - A u) v) : inR (if w = 0 then sumF (K 0) (l - u).toNat u / v else (A l - A u) / v) := by
  have n1 := hK.1
  have s1 := sum_th hK (l - u).toNat u (by omega) (by omega)
  have a1 := (Bst_b hK bs q1.1.1).1 q1.1.2
  have a2 := (Bst_b hK bs q1.2.1.1).1 q1.2.1.2
  split
  · exact div_bd (by omega) (by omega) g.1.1
  · exact div_bd (by omega) (by omega) g.1.1
theorem p_addLayer {d : Nat} (hd : 7 ≤ d) {σ : Sto} {i t k m : Int} (hR : RelB σ) (h_i : inR i) (h_t : inR t) (h_k : inR k) (h_m : inR m) : WPd d m_X4_addLayer [.inr (0, 0), .inl i, .inl t, .inl k, .inl m] σ (PQ d m_X5_addLayer [.inr (26, 0), .inl i, .inl t, .inl k, .inl m] σ) := by
  obtain ⟨K, h, HK, tl, tx, hC, hM⟩ := hR
  have hw := hC.2.1
  have n1 := hw.1
  have n2 := hw.2.1
  have hh := hC.2.2.1.2.1
  have ht := hC.2.2.2.1.2.1
  have ki := K_in hw
  refine t_X4_addLayer (by omega) hC h_i h_t h_k h_m ?_ ?_ ?_
  · intro q1
    have hM1 := hM
    have f1 := frC.rf σ
    have c1 := hC
    refine ⟨_, rfl, f1, (by decide), ?_⟩
    refine t_X5_addLayer (by omega) hM1 h_i h_t h_k h_m ?_ ?_ ?_
    · intro r1
      exact ⟨rfl, ⟨_, _, _, _, _, c1, hM1⟩, frM.rf _⟩
    · intro r1 r2
      exfalso
      (first | omega | exact absurd q1 r1 | exact absurd r1 q1 | exact absurd q2 r2 | exact absurd r2 q2 | (obtain ⟨z, hz⟩ := r2; exact q2 z hz) | (obtain ⟨z, hz⟩ := q2; exact r2 z hz) | exact q2 _ r2.1 | exact r2 _ q2.1 | exact q1 _ r1.1 | exact r1 _ q1.1 | exact q3 _ r3.1 | exact r3 _ q3.1 | (obtain ⟨z, hz⟩ := r1; exact q1 z hz) | (obtain ⟨z, hz⟩ := q1; exact r1 z hz) | (have e1 := A_u hw bs bs2 q1.1.1 q1.1.2; have e2 := A_u hw bs bs2 q1.2.1.1 q1.2.1.2; omega))
    · intro r1 r2 σ2 m2 f2
      exfalso
      (first | omega | exact absurd q1 r1 | exact absurd r1 q1 | exact absurd q2 r2 | exact absurd r2 q2 | (obtain ⟨z, hz⟩ := r2; exact q2 z hz) | (obtain ⟨z, hz⟩ := q2; exact r2 z hz) | exact q2 _ r2.1 | exact r2 _ q2.1 | exact q1 _ r1.1 | exact r1 _ q1.1 | exact q3 _ r3.1 | exact r3 _ q3.1 | (obtain ⟨z, hz⟩ := r1; exact q1 z hz) | (obtain ⟨z, hz⟩ := q1; exact r1 z hz) | (have e1 := A_u hw bs bs2 q1.1.1 q1.1.2; have e2 := A_u hw bs bs2 q1.2.1.1 q1.2.1.2; omega))
  · intro q1 q2
    have hM1 := hM
    have f1 := frC.rf σ
    have c1 := hC
    refine ⟨_, rfl, f1, (by decide), ?_⟩
    refine t_X5_addLayer (by omega) hM1 h_i h_t h_k h_m ?_ ?_ ?_
    · intro r1
      exfalso
      (first | omega | exact absurd q1 r1 | exact absurd r1 q1 | exact absurd q2 r2 | exact absurd r2 q2 | (obtain ⟨z, hz⟩ := r2; exact q2 z hz) | (obtain ⟨z, hz⟩ := q2; exact r2 z hz) | exact q2 _ r2.1 | exact r2 _ q2.1 | exact q1 _ r1.1 | exact r1 _ q1.1 | exact q3 _ r3.1 | exact r3 _ q3.1 | (obtain ⟨z, hz⟩ := r1; exact q1 z hz) | (obtain ⟨z, hz⟩ := q1; exact r1 z hz) | (have e1 := A_u hw bs bs2 q1.1.1 q1.1.2; have e2 := A_u hw bs bs2 q1.2.1.1 q1.2.1.2; omega))
    · intro r1 r2
      exact ⟨rfl, ⟨_, _, _, _, _, c1, hM1⟩, frM.rf _⟩
    · intro r1 r2 σ2 m2 f2
      exfalso
      (first | omega | exact absurd q1 r1 | exact absurd r1 q1 | exact absurd q2 r2 | exact absurd r2 q2 | (obtain ⟨z, hz⟩ := r2; exact q2 z hz) | (obtain ⟨z, hz⟩ := q2; exact r2 z hz) | exact q2 _ r2.1 | exact r2 _ q2.1 | exact q1 _ r1.1 | exact r1 _ q1.1 | exact q3 _ r3.1 | exact r3 _ q3.1 | (obtain ⟨z, hz⟩ := r1; exact q1 z hz) | (obtain ⟨z, hz⟩ := q1; exact r1 z hz) | (have e1 := A_u hw bs bs2 q1.1.1 q1.1.2; have e2 := A_u hw bs bs2 q1.2.1.1 q1.2.1.2; omega))
  · intro q1 q2 σ1 c1 f1
    have hM1 := ModelR_f hM f1
    refine ⟨_, rfl, f1, (by omega), ?_⟩
    refine t_X5_addLayer (by omega) hM1 h_i h_t h_k h_m ?_ ?_ ?_
    · intro r1
      exfalso
      (first | omega | exact absurd q1 r1 | exact absurd r1 q1 | exact absurd q2 r2 | exact absurd r2 q2 | (obtain ⟨z, hz⟩ := r2; exact q2 z hz) | (obtain ⟨z, hz⟩ := q2; exact r2 z hz) | exact q2 _ r2.1 | exact r2 _ q2.1 | exact q1 _ r1.1 | exact r1 _ q1.1 | exact q3 _ r3.1 | exact r3 _ q3.1 | (obtain ⟨z, hz⟩ := r1; exact q1 z hz) | (obtain ⟨z, hz⟩ := q1; exact r1 z hz) | (have e1 := A_u hw bs bs2 q1.1.1 q1.1.2; have e2 := A_u hw bs bs2 q1.2.1.1 q1.2.1.2; omega))
    · intro r1 r2
      exfalso
      (first | omega | exact absurd q1 r1 | exact absurd r1 q1 | exact absurd q2 r2 | exact absurd r2 q2 | (obtain ⟨z, hz⟩ := r2; exact q2 z hz) | (obtain ⟨z, hz⟩ := q2; exact r2 z hz) | exact q2 _ r2.1 | exact r2 _ q2.1 | exact q1 _ r1.1 | exact r1 _ q1.1 | exact q3 _ r3.1 | exact r3 _ q3.1 | (obtain ⟨z, hz⟩ := r1; exact q1 z hz) | (obtain ⟨z, hz⟩ := q1; exact r1 z hz) | (have e1 := A_u hw bs bs2 q1.1.1 q1.1.2; have e2 := A_u hw bs bs2 q1.2.1.1 q1.2.1.2; omega))
    · intro r1 r2 σ2 m2 f2
      exact ⟨rfl, ⟨_, _, _, _, _, ClassR_f c1 f2, m2⟩, f2⟩
theorem p_removeLayer {d : Nat} (hd : 7 ≤ d) {σ : Sto} {i : Int} (hR : RelB σ) (h_i : inR i) : WPd d m_X4_removeLayer [.inr (0, 0), .inl i] σ (PQ d m_X5_removeLayer [.inr (26, 0), .inl i] σ) := by
  obtain ⟨K, h, HK, tl, tx, hC, hM⟩ := hR
  have hw := hC.2.1
  have n1 := hw.1
  have n2 := hw.2.1
  have hh := hC.2.2.1.2.1
  have ht := hC.2.2.2.1.2.1
  have ki := K_in hw
  refine t_X4_removeLayer (by omega) hC h_i ?_ ?_
  · intro q1
    have hM1 := hM
    have f1 := frC.rf σ
    have c1 := hC
    refine ⟨_, rfl, f1, (by decide), ?_⟩
    refine t_X5_removeLayer (by omega) hM1 h_i ?_ ?_
    · intro r1
      exact ⟨rfl, ⟨_, _, _, _, _, c1, hM1⟩, frM.rf _⟩
    · intro r1 σ2 m2 f2
      exfalso
      (first | omega | exact absurd q1 r1 | exact absurd r1 q1 | exact absurd q2 r2 | exact absurd r2 q2 | (obtain ⟨z, hz⟩ := r2; exact q2 z hz) | (obtain ⟨z, hz⟩ := q2; exact r2 z hz) | exact q2 _ r2.1 | exact r2 _ q2.1 | exact q1 _ r1.1 | exact r1 _ q1.1 | exact q3 _ r3.1 | exact r3 _ q3.1 | (obtain ⟨z, hz⟩ := r1; exact q1 z hz) | (obtain ⟨z, hz⟩ := q1; exact r1 z hz) | (have e1 := A_u hw bs bs2 q1.1.1 q1.1.2; have e2 := A_u hw bs bs2 q1.2.1.1 q1.2.1.2; omega))
  · intro q1 σ1 c1 f1
    have hM1 := ModelR_f hM f1
    refine ⟨_, rfl, f1, (by omega), ?_⟩
    refine t_X5_removeLayer (by omega) hM1 h_i ?_ ?_
    · intro r1
      exfalso
      (first | omega | exact absurd q1 r1 | exact absurd r1 q1 | exact absurd q2 r2 | exact absurd r2 q2 | (obtain ⟨z, hz⟩ := r2; exact q2 z hz) | (obtain ⟨z, hz⟩ := q2; exact r2 z hz) | exact q2 _ r2.1 | exact r2 _ q2.1 | exact q1 _ r1.1 | exact r1 _ q1.1 | exact q3 _ r3.1 | exact r3 _ q3.1 | (obtain ⟨z, hz⟩ := r1; exact q1 z hz) | (obtain ⟨z, hz⟩ := q1; exact r1 z hz) | (have e1 := A_u hw bs bs2 q1.1.1 q1.1.2; have e2 := A_u hw bs bs2 q1.2.1.1 q1.2.1.2; omega))
    · intro r1 σ2 m2 f2
      exact ⟨rfl, ⟨_, _, _, _, _, ClassR_f c1 f2, m2⟩, f2⟩
theorem p_setLayer {d : Nat} (hd : 7 ≤ d) {σ : Sto} {i w v : Int} (hR : RelB σ) (h_i : inR i) (h_w : inR w) (h_v : inR v) : WPd d m_X4_setLayer [.inr (0, 0), .inl i, .inl w, .inl v] σ (PQ d m_X5_setLayer [.inr (26, 0), .inl i, .inl w, .inl v] σ) := by
  obtain ⟨K, h, HK, tl, tx, hC, hM⟩ := hR
  have hw := hC.2.1
  have n1 := hw.1
  have n2 := hw.2.1
  have hh := hC.2.2.1.2.1
  have ht := hC.2.2.2.1.2.1
  have ki := K_in hw
  refine t_X4_setLayer (by omega) hC h_i h_w h_v ?_ ?_
  · intro q1
    have hM1 := hM
    have f1 := frC.rf σ
    have c1 := hC
    refine ⟨_, rfl, f1, (by decide), ?_⟩
    refine t_X5_setLayer (by omega) hM1 h_i h_w h_v ?_ ?_
    · intro r1
      exact ⟨rfl, ⟨_, _, _, _, _, c1, hM1⟩, frM.rf _⟩
    · intro r1 σ2 m2 f2
      exfalso
      (first | omega | exact absurd q1 r1 | exact absurd r1 q1 | exact absurd q2 r2 | exact absurd r2 q2 | (obtain ⟨z, hz⟩ := r2; exact q2 z hz) | (obtain ⟨z, hz⟩ := q2; exact r2 z hz) | exact q2 _ r2.1 | exact r2 _ q2.1 | exact q1 _ r1.1 | exact r1 _ q1.1 | exact q3 _ r3.1 | exact r3 _ q3.1 | (obtain ⟨z, hz⟩ := r1; exact q1 z hz) | (obtain ⟨z, hz⟩ := q1; exact r1 z hz) | (have e1 := A_u hw bs bs2 q1.1.1 q1.1.2; have e2 := A_u hw bs bs2 q1.2.1.1 q1.2.1.2; omega))
  · intro q1 σ1 c1 f1
    have hM1 := ModelR_f hM f1
    refine ⟨_, rfl, f1, (ki.1 w i q1.2.1.1 q1.2.1.2 q1.1.1 q1.1.2), ?_⟩
    refine t_X5_setLayer (by omega) hM1 h_i h_w h_v ?_ ?_
    · intro r1
      exfalso
      (first | omega | exact absurd q1 r1 | exact absurd r1 q1 | exact absurd q2 r2 | exact absurd r2 q2 | (obtain ⟨z, hz⟩ := r2; exact q2 z hz) | (obtain ⟨z, hz⟩ := q2; exact r2 z hz) | exact q2 _ r2.1 | exact r2 _ q2.1 | exact q1 _ r1.1 | exact r1 _ q1.1 | exact q3 _ r3.1 | exact r3 _ q3.1 | (obtain ⟨z, hz⟩ := r1; exact q1 z hz) | (obtain ⟨z, hz⟩ := q1; exact r1 z hz) | (have e1 := A_u hw bs bs2 q1.1.1 q1.1.2; have e2 := A_u hw bs bs2 q1.2.1.1 q1.2.1.2; omega))
    · intro r1 σ2 m2 f2
      exact ⟨rfl, ⟨_, _, _, _, _, ClassR_f c1 f2, m2⟩, f2⟩
theorem p_addAsh {d : Nat} (hd : 7 ≤ d) {σ : Sto} {p a u : Int} (hR : RelB σ) (h_p : inR p) (h_a : inR a) (h_u : inR u) : WPd d m_X4_addAsh [.inr (0, 0), .inl p, .inl a, .inl u] σ (PQ d m_X5_addAsh [.inr (26, 0), .inl p, .inl a, .inl u] σ) := by
  obtain ⟨K, h, HK, tl, tx, hC, hM⟩ := hR
  have hw := hC.2.1
  have n1 := hw.1
  have n2 := hw.2.1
  have hh := hC.2.2.1.2.1
  have ht := hC.2.2.2.1.2.1
  have ki := K_in hw
  refine t_X4_addAsh (by omega) hC h_p h_a h_u ?_ ?_ ?_ ?_
  · intro q1
    have hM1 := hM
    have f1 := frC.rf σ
    have c1 := hC
    refine ⟨_, rfl, f1, (by decide), ?_⟩
    refine t_X5_addAsh (by omega) hM1 h_p h_a h_u ?_ ?_ ?_ ?_
    · intro r1
      exact ⟨rfl, ⟨_, _, _, _, _, c1, hM1⟩, frM.rf _⟩
    · intro r1 r2
      exfalso
      (first | omega | exact absurd q1 r1 | exact absurd r1 q1 | exact absurd q2 r2 | exact absurd r2 q2 | (obtain ⟨z, hz⟩ := r2; exact q2 z hz) | (obtain ⟨z, hz⟩ := q2; exact r2 z hz) | exact q2 _ r2.1 | exact r2 _ q2.1 | exact q1 _ r1.1 | exact r1 _ q1.1 | exact q3 _ r3.1 | exact r3 _ q3.1 | (obtain ⟨z, hz⟩ := r1; exact q1 z hz) | (obtain ⟨z, hz⟩ := q1; exact r1 z hz) | (have e1 := A_u hw bs bs2 q1.1.1 q1.1.2; have e2 := A_u hw bs bs2 q1.2.1.1 q1.2.1.2; omega))
    · intro r1 r2 r3
      exfalso
      (first | omega | exact absurd q1 r1 | exact absurd r1 q1 | exact absurd q2 r2 | exact absurd r2 q2 | (obtain ⟨z, hz⟩ := r2; exact q2 z hz) | (obtain ⟨z, hz⟩ := q2; exact r2 z hz) | exact q2 _ r2.1 | exact r2 _ q2.1 | exact q1 _ r1.1 | exact r1 _ q1.1 | exact q3 _ r3.1 | exact r3 _ q3.1 | (obtain ⟨z, hz⟩ := r1; exact q1 z hz) | (obtain ⟨z, hz⟩ := q1; exact r1 z hz) | (have e1 := A_u hw bs bs2 q1.1.1 q1.1.2; have e2 := A_u hw bs bs2 q1.2.1.1 q1.2.1.2; omega))
    · intro r1 r2 r3 σ2 m2 f2
      exfalso
      (first | omega | exact absurd q1 r1 | exact absurd r1 q1 | exact absurd q2 r2 | exact absurd r2 q2 | (obtain ⟨z, hz⟩ := r2; exact q2 z hz) | (obtain ⟨z, hz⟩ := q2; exact r2 z hz) | exact q2 _ r2.1 | exact r2 _ q2.1 | exact q1 _ r1.1 | exact r1 _ q1.1 | exact q3 _ r3.1 | exact r3 _ q3.1 | (obtain ⟨z, hz⟩ := r1; exact q1 z hz) | (obtain ⟨z, hz⟩ := q1; exact r1 z hz) | (have e1 := A_u hw bs bs2 q1.1.1 q1.1.2; have e2 := A_u hw bs bs2 q1.2.1.1 q1.2.1.2; omega))
  · intro q1 q2
    have hM1 := hM
    have f1 := frC.rf σ
    have c1 := hC
    refine ⟨_, rfl, f1, (by decide), ?_⟩
    refine t_X5_addAsh (by omega) hM1 h_p h_a h_u ?_ ?_ ?_ ?_
    · intro r1
      exfalso
      (first | omega | exact absurd q1 r1 | exact absurd r1 q1 | exact absurd q2 r2 | exact absurd r2 q2 | (obtain ⟨z, hz⟩ := r2; exact q2 z hz) | (obtain ⟨z, hz⟩ := q2; exact r2 z hz) | exact q2 _ r2.1 | exact r2 _ q2.1 | exact q1 _ r1.1 | exact r1 _ q1.1 | exact q3 _ r3.1 | exact r3 _ q3.1 | (obtain ⟨z, hz⟩ := r1; exact q1 z hz) | (obtain ⟨z, hz⟩ := q1; exact r1 z hz) | (have e1 := A_u hw bs bs2 q1.1.1 q1.1.2; have e2 := A_u hw bs bs2 q1.2.1.1 q1.2.1.2; omega))
    · intro r1 r2
      exact ⟨rfl, ⟨_, _, _, _, _, c1, hM1⟩, frM.rf _⟩
    · intro r1 r2 r3
      exfalso
      (first | omega | exact absurd q1 r1 | exact absurd r1 q1 | exact absurd q2 r2 | exact absurd r2 q2 | (obtain ⟨z, hz⟩ := r2; exact q2 z hz) | (obtain ⟨z, hz⟩ := q2; exact r2 z hz) | exact q2 _ r2.1 | exact r2 _ q2.1 | exact q1 _ r1.1 | exact r1 _ q1.1 | exact q3 _ r3.1 | exact r3 _ q3.1 | (obtain ⟨z, hz⟩ := r1; exact q1 z hz) | (obtain ⟨z, hz⟩ := q1; exact r1 z hz) | (have e1 := A_u hw bs bs2 q1.1.1 q1.1.2; have e2 := A_u hw bs bs2 q1.2.1.1 q1.2.1.2; omega))
    · intro r1 r2 r3 σ2 m2 f2
      exfalso
      (first | omega | exact absurd q1 r1 | exact absurd r1 q1 | exact absurd q2 r2 | exact absurd r2 q2 | (obtain ⟨z, hz⟩ := r2; exact q2 z hz) | (obtain ⟨z, hz⟩ := q2; exact r2 z hz) | exact q2 _ r2.1 | exact r2 _ q2.1 | exact q1 _ r1.1 | exact r1 _ q1.1 | exact q3 _ r3.1 | exact r3 _ q3.1 | (obtain ⟨z, hz⟩ := r1; exact q1 z hz) | (obtain ⟨z, hz⟩ := q1; exact r1 z hz) | (have e1 := A_u hw bs bs2 q1.1.1 q1.1.2; have e2 := A_u hw bs bs2 q1.2.1.1 q1.2.1.2; omega))
  · intro q1 q2 q3
    have hM1 := hM
    have f1 := frC.rf σ
    have c1 := hC
    refine ⟨_, rfl, f1, (by decide), ?_⟩
    refine t_X5_addAsh (by omega) hM1 h_p h_a h_u ?_ ?_ ?_ ?_
    · intro r1
      exfalso
      (first | omega | exact absurd q1 r1 | exact absurd r1 q1 | exact absurd q2 r2 | exact absurd r2 q2 | (obtain ⟨z, hz⟩ := r2; exact q2 z hz) | (obtain ⟨z, hz⟩ := q2; exact r2 z hz) | exact q2 _ r2.1 | exact r2 _ q2.1 | exact q1 _ r1.1 | exact r1 _ q1.1 | exact q3 _ r3.1 | exact r3 _ q3.1 | (obtain ⟨z, hz⟩ := r1; exact q1 z hz) | (obtain ⟨z, hz⟩ := q1; exact r1 z hz) | (have e1 := A_u hw bs bs2 q1.1.1 q1.1.2; have e2 := A_u hw bs bs2 q1.2.1.1 q1.2.1.2; omega))
    · intro r1 r2
      exfalso
      (first | omega | exact absurd q1 r1 | exact absurd r1 q1 | exact absurd q2 r2 | exact absurd r2 q2 | (obtain ⟨z, hz⟩ := r2; exact q2 z hz) | (obtain ⟨z, hz⟩ := q2; exact r2 z hz) | exact q2 _ r2.1 | exact r2 _ q2.1 | exact q1 _ r1.1 | exact r1 _ q1.1 | exact q3 _ r3.1 | exact r3 _ q3.1 | (obtain ⟨z, hz⟩ := r1; exact q1 z hz) | (obtain ⟨z, hz⟩ := q1; exact r1 z hz) | (have e1 := A_u hw bs bs2 q1.1.1 q1.1.2; have e2 := A_u hw bs bs2 q1.2.1.1 q1.2.1.2; omega))
    · intro r1 r2 r3
      exact ⟨rfl, ⟨_, _, _, _, _, c1, hM1⟩, frM.rf _⟩
    · intro r1 r2 r3 σ2 m2 f2
      exfalso
      (first | omega | exact absurd q1 r1 | exact absurd r1 q1 | exact absurd q2 r2 | exact absurd r2 q2 | (obtain ⟨z, hz⟩ := r2; exact q2 z hz) | (obtain ⟨z, hz⟩ := q2; exact r2 z hz) | exact q2 _ r2.1 | exact r2 _ q2.1 | exact q1 _ r1.1 | exact r1 _ q1.1 | exact q3 _ r3.1 | exact r3 _ q3.1 | (obtain ⟨z, hz⟩ := r1; exact q1 z hz) | (obtain ⟨z, hz⟩ := q1; exact r1 z hz) | (have e1 := A_u hw bs bs2 q1.1.1 q1.1.2; have e2 := A_u hw bs bs2 q1.2.1.1 q1.2.1.2; omega))
  · intro q1 q2 q3 σ1 c1 f1
    have hM1 := ModelR_f hM f1
    refine ⟨_, rfl, f1, (by have := (nxK_cut hw p).1; omega), ?_⟩
    refine t_X5_addAsh (by omega) hM1 h_p h_a h_u ?_ ?_ ?_ ?_
    · intro r1
      exfalso
      (first | omega | exact absurd q1 r1 | exact absurd r1 q1 | exact absurd q2 r2 | exact absurd r2 q2 | (obtain ⟨z, hz⟩ := r2; exact q2 z hz) | (obtain ⟨z, hz⟩ := q2; exact r2 z hz) | exact q2 _ r2.1 | exact r2 _ q2.1 | exact q1 _ r1.1 | exact r1 _ q1.1 | exact q3 _ r3.1 | exact r3 _ q3.1 | (obtain ⟨z, hz⟩ := r1; exact q1 z hz) | (obtain ⟨z, hz⟩ := q1; exact r1 z hz) | (have e1 := A_u hw bs bs2 q1.1.1 q1.1.2; have e2 := A_u hw bs bs2 q1.2.1.1 q1.2.1.2; omega))
    · intro r1 r2
      exfalso
      (first | omega | exact absurd q1 r1 | exact absurd r1 q1 | exact absurd q2 r2 | exact absurd r2 q2 | (obtain ⟨z, hz⟩ := r2; exact q2 z hz) | (obtain ⟨z, hz⟩ := q2; exact r2 z hz) | exact q2 _ r2.1 | exact r2 _ q2.1 | exact q1 _ r1.1 | exact r1 _ q1.1 | exact q3 _ r3.1 | exact r3 _ q3.1 | (obtain ⟨z, hz⟩ := r1; exact q1 z hz) | (obtain ⟨z, hz⟩ := q1; exact r1 z hz) | (have e1 := A_u hw bs bs2 q1.1.1 q1.1.2; have e2 := A_u hw bs bs2 q1.2.1.1 q1.2.1.2; omega))
    · intro r1 r2 r3
      exfalso
      (first | omega | exact absurd q1 r1 | exact absurd r1 q1 | exact absurd q2 r2 | exact absurd r2 q2 | (obtain ⟨z, hz⟩ := r2; exact q2 z hz) | (obtain ⟨z, hz⟩ := q2; exact r2 z hz) | exact q2 _ r2.1 | exact r2 _ q2.1 | exact q1 _ r1.1 | exact r1 _ q1.1 | exact q3 _ r3.1 | exact r3 _ q3.1 | (obtain ⟨z, hz⟩ := r1; exact q1 z hz) | (obtain ⟨z, hz⟩ := q1; exact r1 z hz) | (have e1 := A_u hw bs bs2 q1.1.1 q1.1.2; have e2 := A_u hw bs bs2 q1.2.1.1 q1.2.1.2; omega))
    · intro r1 r2 r3 σ2 m2 f2
      exact ⟨rfl, ⟨_, _, _, _, _, ClassR_f c1 f2, m2⟩, f2⟩
theorem p_removeAsh {d : Nat} (hd : 7 ≤ d) {σ : Sto} {x : Int} (hR : RelB σ) (h_x : inR x) : WPd d m_X4_removeAsh [.inr (0, 0), .inl x] σ (PQ d m_X5_removeAsh [.inr (26, 0), .inl x] σ) := by
  obtain ⟨K, h, HK, tl, tx, hC, hM⟩ := hR
  have hw := hC.2.1
  have n1 := hw.1
  have n2 := hw.2.1
  have hh := hC.2.2.1.2.1
  have ht := hC.2.2.2.1.2.1
  have ki := K_in hw
  refine t_X4_removeAsh (by omega) hC h_x ?_ ?_
  · intro q1
    have hM1 := hM
    have f1 := frC.rf σ
    have c1 := hC
    refine ⟨_, rfl, f1, (by decide), ?_⟩
    refine t_X5_removeAsh (by omega) hM1 h_x ?_ ?_
    · intro r1
      exact ⟨rfl, ⟨_, _, _, _, _, c1, hM1⟩, frM.rf _⟩
    · intro r1 σ2 m2 f2
      exfalso
      (first | omega | exact absurd q1 r1 | exact absurd r1 q1 | exact absurd q2 r2 | exact absurd r2 q2 | (obtain ⟨z, hz⟩ := r2; exact q2 z hz) | (obtain ⟨z, hz⟩ := q2; exact r2 z hz) | exact q2 _ r2.1 | exact r2 _ q2.1 | exact q1 _ r1.1 | exact r1 _ q1.1 | exact q3 _ r3.1 | exact r3 _ q3.1 | (obtain ⟨z, hz⟩ := r1; exact q1 z hz) | (obtain ⟨z, hz⟩ := q1; exact r1 z hz) | (have e1 := A_u hw bs bs2 q1.1.1 q1.1.2; have e2 := A_u hw bs bs2 q1.2.1.1 q1.2.1.2; omega))
  · intro q1 σ1 c1 f1
    have hM1 := ModelR_f hM f1
    refine ⟨_, rfl, f1, (by omega), ?_⟩
    refine t_X5_removeAsh (by omega) hM1 h_x ?_ ?_
    · intro r1
      exfalso
      (first | omega | exact absurd q1 r1 | exact absurd r1 q1 | exact absurd q2 r2 | exact absurd r2 q2 | (obtain ⟨z, hz⟩ := r2; exact q2 z hz) | (obtain ⟨z, hz⟩ := q2; exact r2 z hz) | exact q2 _ r2.1 | exact r2 _ q2.1 | exact q1 _ r1.1 | exact r1 _ q1.1 | exact q3 _ r3.1 | exact r3 _ q3.1 | (obtain ⟨z, hz⟩ := r1; exact q1 z hz) | (obtain ⟨z, hz⟩ := q1; exact r1 z hz) | (have e1 := A_u hw bs bs2 q1.1.1 q1.1.2; have e2 := A_u hw bs bs2 q1.2.1.1 q1.2.1.2; omega))
    · intro r1 σ2 m2 f2
      exact ⟨rfl, ⟨_, _, _, _, _, ClassR_f c1 f2, m2⟩, f2⟩
theorem p_set {d : Nat} (hd : 7 ≤ d) {σ : Sto} {w v : Int} (hR : RelB σ) (h_w : inR w) (h_v : inR v) : WPd d m_X4_set [.inr (0, 0), .inl w, .inl v] σ (PQ d m_X5_set [.inr (26, 0), .inl w, .inl v] σ) := by
  obtain ⟨K, h, HK, tl, tx, hC, hM⟩ := hR
  have hw := hC.2.1
  have n1 := hw.1
  have n2 := hw.2.1
  have hh := hC.2.2.1.2.1
  have ht := hC.2.2.2.1.2.1
  have ki := K_in hw
  refine t_X4_set (by omega) hC h_w h_v ?_ ?_
  · intro q1
    have hM1 := hM
    have f1 := frC.rf σ
    have c1 := hC
    refine ⟨_, rfl, f1, (by decide), ?_⟩
    refine t_X5_set (by omega) hM1 h_w h_v ?_ ?_
    · intro r1
      exact ⟨rfl, ⟨_, _, _, _, _, c1, hM1⟩, frM.rf _⟩
    · intro r1 σ2 m2 f2
      exfalso
      (first | omega | exact absurd q1 r1 | exact absurd r1 q1 | exact absurd q2 r2 | exact absurd r2 q2 | (obtain ⟨z, hz⟩ := r2; exact q2 z hz) | (obtain ⟨z, hz⟩ := q2; exact r2 z hz) | exact q2 _ r2.1 | exact r2 _ q2.1 | exact q1 _ r1.1 | exact r1 _ q1.1 | exact q3 _ r3.1 | exact r3 _ q3.1 | (obtain ⟨z, hz⟩ := r1; exact q1 z hz) | (obtain ⟨z, hz⟩ := q1; exact r1 z hz) | (have e1 := A_u hw bs bs2 q1.1.1 q1.1.2; have e2 := A_u hw bs bs2 q1.2.1.1 q1.2.1.2; omega))
  · intro q1 σ1 c1 f1
    have hM1 := ModelR_f hM f1
    refine ⟨_, rfl, f1, (ki.2.2 w q1.1.1 (by omega)), ?_⟩
    refine t_X5_set (by omega) hM1 h_w h_v ?_ ?_
    · intro r1
      exfalso
      (first | omega | exact absurd q1 r1 | exact absurd r1 q1 | exact absurd q2 r2 | exact absurd r2 q2 | (obtain ⟨z, hz⟩ := r2; exact q2 z hz) | (obtain ⟨z, hz⟩ := q2; exact r2 z hz) | exact q2 _ r2.1 | exact r2 _ q2.1 | exact q1 _ r1.1 | exact r1 _ q1.1 | exact q3 _ r3.1 | exact r3 _ q3.1 | (obtain ⟨z, hz⟩ := r1; exact q1 z hz) | (obtain ⟨z, hz⟩ := q1; exact r1 z hz) | (have e1 := A_u hw bs bs2 q1.1.1 q1.1.2; have e2 := A_u hw bs bs2 q1.2.1.1 q1.2.1.2; omega))
    · intro r1 σ2 m2 f2
      exact ⟨rfl, ⟨_, _, _, _, _, ClassR_f c1 f2, m2⟩, f2⟩
theorem p_lay {d : Nat} (hd : 7 ≤ d) {σ : Sto} (hR : RelB σ)  : WPd d m_X4_lay [.inr (0, 0)] σ (PQ d m_X5_lay [.inr (26, 0)] σ) := by
  obtain ⟨K, h, HK, tl, tx, hC, hM⟩ := hR
  have hw := hC.2.1
  have n1 := hw.1
  have n2 := hw.2.1
  have hh := hC.2.2.1.2.1
  have ht := hC.2.2.2.1.2.1
  have ki := K_in hw
  refine t_X4_lay (by omega) hC  ?_ ?_
  · intro q1 σ1 c1 f1
    have hM1 := ModelR_f hM f1
    refine ⟨_, rfl, f1, (by decide), ?_⟩
    refine t_X5_lay (by omega) hM1  ?_ ?_
    · intro r1 σ2 m2 f2
      exact ⟨rfl, ⟨_, _, _, _, _, ClassR_f c1 f2, m2⟩, f2⟩
    · intro r1 σ2 m2 f2
      exfalso
      (first | omega | exact absurd q1 r1 | exact absurd r1 q1 | exact absurd q2 r2 | exact absurd r2 q2 | (obtain ⟨z, hz⟩ := r2; exact q2 z hz) | (obtain ⟨z, hz⟩ := q2; exact r2 z hz) | exact q2 _ r2.1 | exact r2 _ q2.1 | exact q1 _ r1.1 | exact r1 _ q1.1 | exact q3 _ r3.1 | exact r3 _ q3.1 | (obtain ⟨z, hz⟩ := r1; exact q1 z hz) | (obtain ⟨z, hz⟩ := q1; exact r1 z hz) | (have e1 := A_u hw bs bs2 q1.1.1 q1.1.2; have e2 := A_u hw bs bs2 q1.2.1.1 q1.2.1.2; omega))
  · intro q1 σ1 c1 f1
    have hM1 := ModelR_f hM f1
    refine ⟨_, rfl, f1, (by have := (WFK_of_lay hC q1).1; omega), ?_⟩
    refine t_X5_lay (by omega) hM1  ?_ ?_
    · intro r1 σ2 m2 f2
      exfalso
      (first | omega | exact absurd q1 r1 | exact absurd r1 q1 | exact absurd q2 r2 | exact absurd r2 q2 | (obtain ⟨z, hz⟩ := r2; exact q2 z hz) | (obtain ⟨z, hz⟩ := q2; exact r2 z hz) | exact q2 _ r2.1 | exact r2 _ q2.1 | exact q1 _ r1.1 | exact r1 _ q1.1 | exact q3 _ r3.1 | exact r3 _ q3.1 | (obtain ⟨z, hz⟩ := r1; exact q1 z hz) | (obtain ⟨z, hz⟩ := q1; exact r1 z hz) | (have e1 := A_u hw bs bs2 q1.1.1 q1.1.2; have e2 := A_u hw bs bs2 q1.2.1.1 q1.2.1.2; omega))
    · intro r1 σ2 m2 f2
      exact ⟨rfl, ⟨_, _, _, _, _, ClassR_f c1 f2, m2⟩, f2⟩
theorem p_undo {d : Nat} (hd : 7 ≤ d) {σ : Sto} (hR : RelB σ)  : WPd d m_X4_undo [.inr (0, 0)] σ (PQ d m_X5_undo [.inr (26, 0)] σ) := by
  obtain ⟨K, h, HK, tl, tx, hC, hM⟩ := hR
  have hw := hC.2.1
  have n1 := hw.1
  have n2 := hw.2.1
  have hh := hC.2.2.1.2.1
  have ht := hC.2.2.2.1.2.1
  have ki := K_in hw
  refine t_X4_undo (by omega) hC  ?_ ?_
  · intro q1
    have hM1 := hM
    have f1 := frC.rf σ
    have c1 := hC
    refine ⟨_, rfl, f1, (by decide), ?_⟩
    refine t_X5_undo (by omega) hM1  ?_ ?_
    · intro r1
      exact ⟨rfl, ⟨_, _, _, _, _, c1, hM1⟩, frM.rf _⟩
    · intro r1 σ2 m2 f2
      exfalso
      (first | omega | exact absurd q1 r1 | exact absurd r1 q1 | exact absurd q2 r2 | exact absurd r2 q2 | (obtain ⟨z, hz⟩ := r2; exact q2 z hz) | (obtain ⟨z, hz⟩ := q2; exact r2 z hz) | exact q2 _ r2.1 | exact r2 _ q2.1 | exact q1 _ r1.1 | exact r1 _ q1.1 | exact q3 _ r3.1 | exact r3 _ q3.1 | (obtain ⟨z, hz⟩ := r1; exact q1 z hz) | (obtain ⟨z, hz⟩ := q1; exact r1 z hz) | (have e1 := A_u hw bs bs2 q1.1.1 q1.1.2; have e2 := A_u hw bs bs2 q1.2.1.1 q1.2.1.2; omega))
  · intro q1 σ1 c1 f1
    have hM1 := ModelR_f hM f1
    refine ⟨_, rfl, f1, (by omega), ?_⟩
    refine t_X5_undo (by omega) hM1  ?_ ?_
    · intro r1
      exfalso
      (first | omega | exact absurd q1 r1 | exact absurd r1 q1 | exact absurd q2 r2 | exact absurd r2 q2 | (obtain ⟨z, hz⟩ := r2; exact q2 z hz) | (obtain ⟨z, hz⟩ := q2; exact r2 z hz) | exact q2 _ r2.1 | exact r2 _ q2.1 | exact q1 _ r1.1 | exact r1 _ q1.1 | exact q3 _ r3.1 | exact r3 _ q3.1 | (obtain ⟨z, hz⟩ := r1; exact q1 z hz) | (obtain ⟨z, hz⟩ := q1; exact r1 z hz) | (have e1 := A_u hw bs bs2 q1.1.1 q1.1.2; have e2 := A_u hw bs bs2 q1.2.1.1 q1.2.1.2; omega))
    · intro r1 σ2 m2 f2
      exact ⟨rfl, ⟨_, _, _, _, _, ClassR_f c1 f2, m2⟩, f2⟩
theorem p_count {d : Nat} (hd : 7 ≤ d) {σ : Sto} {w : Int} (hR : RelB σ) (h_w : inR w) : WPd d m_X4_count [.inr (0, 0), .inl w] σ (PQ d m_X5_count [.inr (26, 0), .inl w] σ) := by
  obtain ⟨K, h, HK, tl, tx, hC, hM⟩ := hR
  have hw := hC.2.1
  have n1 := hw.1
  have n2 := hw.2.1
  have hh := hC.2.2.1.2.1
  have ht := hC.2.2.2.1.2.1
  have ki := K_in hw
  refine t_X4_count (by omega) hC h_w ?_
  · skip
    have hM1 := hM
    have f1 := frC.rf σ
    have c1 := hC
    refine ⟨_, rfl, f1, (cnt_in hw hh w), ?_⟩
    refine t_X5_count (by omega) hM1 h_w ?_
    · skip
      exact ⟨rfl, ⟨_, _, _, _, _, c1, hM1⟩, frM.rf _⟩
theorem p_layer {d : Nat} (hd : 7 ≤ d) {σ : Sto} {i w : Int} (hR : RelB σ) (h_i : inR i) (h_w : inR w) : WPd d m_X4_layer [.inr (0, 0), .inl i, .inl w] σ (PQ d m_X5_layer [.inr (26, 0), .inl i, .inl w] σ) := by
  obtain ⟨K, h, HK, tl, tx, hC, hM⟩ := hR
  have hw := hC.2.1
  have n1 := hw.1
  have n2 := hw.2.1
  have hh := hC.2.2.1.2.1
  have ht := hC.2.2.2.1.2.1
  have ki := K_in hw
  refine t_X4_layer (by omega) hC h_i h_w ?_ ?_
  · intro q1
    have hM1 := hM
    have f1 := frC.rf σ
    have c1 := hC
    refine ⟨_, rfl, f1, (by decide), ?_⟩
    refine t_X5_layer (by omega) hM1 h_i h_w ?_ ?_
    · intro r1
      exact ⟨rfl, ⟨_, _, _, _, _, c1, hM1⟩, frM.rf _⟩
    · intro r1
      exfalso
      (first | omega | exact absurd q1 r1 | exact absurd r1 q1 | exact absurd q2 r2 | exact absurd r2 q2 | (obtain ⟨z, hz⟩ := r2; exact q2 z hz) | (obtain ⟨z, hz⟩ := q2; exact r2 z hz) | exact q2 _ r2.1 | exact r2 _ q2.1 | exact q1 _ r1.1 | exact r1 _ q1.1 | exact q3 _ r3.1 | exact r3 _ q3.1 | (obtain ⟨z, hz⟩ := r1; exact q1 z hz) | (obtain ⟨z, hz⟩ := q1; exact r1 z hz) | (have e1 := A_u hw bs bs2 q1.1.1 q1.1.2; have e2 := A_u hw bs bs2 q1.2.1.1 q1.2.1.2; omega))
  · intro q1
    have hM1 := hM
    have f1 := frC.rf σ
    have c1 := hC
    refine ⟨_, rfl, f1, (ki.1 w i q1.2.1 q1.2.2 q1.1.1 q1.1.2), ?_⟩
    refine t_X5_layer (by omega) hM1 h_i h_w ?_ ?_
    · intro r1
      exfalso
      (first | omega | exact absurd q1 r1 | exact absurd r1 q1 | exact absurd q2 r2 | exact absurd r2 q2 | (obtain ⟨z, hz⟩ := r2; exact q2 z hz) | (obtain ⟨z, hz⟩ := q2; exact r2 z hz) | exact q2 _ r2.1 | exact r2 _ q2.1 | exact q1 _ r1.1 | exact r1 _ q1.1 | exact q3 _ r3.1 | exact r3 _ q3.1 | (obtain ⟨z, hz⟩ := r1; exact q1 z hz) | (obtain ⟨z, hz⟩ := q1; exact r1 z hz) | (have e1 := A_u hw bs bs2 q1.1.1 q1.1.2; have e2 := A_u hw bs bs2 q1.2.1.1 q1.2.1.2; omega))
    · intro r1
      exact ⟨rfl, ⟨_, _, _, _, _, c1, hM1⟩, frM.rf _⟩
theorem p_ash {d : Nat} (hd : 7 ≤ d) {σ : Sto} {i w : Int} (hR : RelB σ) (h_i : inR i) (h_w : inR w) : WPd d m_X4_ash [.inr (0, 0), .inl i, .inl w] σ (PQ d m_X5_ash [.inr (26, 0), .inl i, .inl w] σ) := by
  obtain ⟨K, h, HK, tl, tx, hC, hM⟩ := hR
  have hw := hC.2.1
  have n1 := hw.1
  have n2 := hw.2.1
  have hh := hC.2.2.1.2.1
  have ht := hC.2.2.2.1.2.1
  have ki := K_in hw
  refine t_X4_ash (by omega) hC h_i h_w ?_ ?_
  · intro q1
    have hM1 := hM
    have f1 := frC.rf σ
    have c1 := hC
    refine ⟨_, rfl, f1, (by decide), ?_⟩
    refine t_X5_ash (by omega) hM1 h_i h_w ?_ ?_
    · intro r1
      exact ⟨rfl, ⟨_, _, _, _, _, c1, hM1⟩, frM.rf _⟩
    · intro r1
      exfalso
      (first | omega | exact absurd q1 r1 | exact absurd r1 q1 | exact absurd q2 r2 | exact absurd r2 q2 | (obtain ⟨z, hz⟩ := r2; exact q2 z hz) | (obtain ⟨z, hz⟩ := q2; exact r2 z hz) | exact q2 _ r2.1 | exact r2 _ q2.1 | exact q1 _ r1.1 | exact r1 _ q1.1 | exact q3 _ r3.1 | exact r3 _ q3.1 | (obtain ⟨z, hz⟩ := r1; exact q1 z hz) | (obtain ⟨z, hz⟩ := q1; exact r1 z hz) | (have e1 := A_u hw bs bs2 q1.1.1 q1.1.2; have e2 := A_u hw bs bs2 q1.2.1.1 q1.2.1.2; omega))
  · intro q1
    have hM1 := hM
    have f1 := frC.rf σ
    have c1 := hC
    refine ⟨_, rfl, f1, (ki.2.1 w i q1.2.1 q1.2.2 q1.1.1 q1.1.2), ?_⟩
    refine t_X5_ash (by omega) hM1 h_i h_w ?_ ?_
    · intro r1
      exfalso
      (first | omega | exact absurd q1 r1 | exact absurd r1 q1 | exact absurd q2 r2 | exact absurd r2 q2 | (obtain ⟨z, hz⟩ := r2; exact q2 z hz) | (obtain ⟨z, hz⟩ := q2; exact r2 z hz) | exact q2 _ r2.1 | exact r2 _ q2.1 | exact q1 _ r1.1 | exact r1 _ q1.1 | exact q3 _ r3.1 | exact r3 _ q3.1 | (obtain ⟨z, hz⟩ := r1; exact q1 z hz) | (obtain ⟨z, hz⟩ := q1; exact r1 z hz) | (have e1 := A_u hw bs bs2 q1.1.1 q1.1.2; have e2 := A_u hw bs bs2 q1.2.1.1 q1.2.1.2; omega))
    · intro r1
      exact ⟨rfl, ⟨_, _, _, _, _, c1, hM1⟩, frM.rf _⟩
theorem p_cost {d : Nat} (hd : 7 ≤ d) {σ : Sto} (hR : RelB σ)  : WPd d m_X4_cost [.inr (0, 0)] σ (PQ d m_X5_cost [.inr (26, 0)] σ) := by
  obtain ⟨K, h, HK, tl, tx, hC, hM⟩ := hR
  have hw := hC.2.1
  have n1 := hw.1
  have n2 := hw.2.1
  have hh := hC.2.2.1.2.1
  have ht := hC.2.2.2.1.2.1
  have ki := K_in hw
  refine t_X4_cost (by omega) hC  ?_ ?_
  · intro q1 σ1 c1 f1
    have hM1 := ModelR_f hM f1
    refine ⟨_, rfl, f1, (by decide), ?_⟩
    refine t_X5_cost (by omega) hM1  ?_ ?_
    · intro r1 σ2 m2 f2
      exact ⟨rfl, ⟨_, _, _, _, _, ClassR_f c1 f2, m2⟩, f2⟩
    · intro v2 r1 σ2 m2 f2
      exfalso
      (first | omega | exact absurd q1 r1 | exact absurd r1 q1 | exact absurd q2 r2 | exact absurd r2 q2 | (obtain ⟨z, hz⟩ := r2; exact q2 z hz) | (obtain ⟨z, hz⟩ := q2; exact r2 z hz) | exact q2 _ r2.1 | exact r2 _ q2.1 | exact q1 _ r1.1 | exact r1 _ q1.1 | exact q3 _ r3.1 | exact r3 _ q3.1 | (obtain ⟨z, hz⟩ := r1; exact q1 z hz) | (obtain ⟨z, hz⟩ := q1; exact r1 z hz) | (have e1 := A_u hw bs bs2 q1.1.1 q1.1.2; have e2 := A_u hw bs bs2 q1.2.1.1 q1.2.1.2; omega))
  · intro v q1 σ1 c1 f1
    have hM1 := ModelR_f hM f1
    refine ⟨_, rfl, f1, (cost_bd hw (acK_g hw) q1.1), ?_⟩
    refine t_X5_cost (by omega) hM1  ?_ ?_
    · intro r1 σ2 m2 f2
      exfalso
      (first | omega | exact absurd q1 r1 | exact absurd r1 q1 | exact absurd q2 r2 | exact absurd r2 q2 | (obtain ⟨z, hz⟩ := r2; exact q2 z hz) | (obtain ⟨z, hz⟩ := q2; exact r2 z hz) | exact q2 _ r2.1 | exact r2 _ q2.1 | exact q1 _ r1.1 | exact r1 _ q1.1 | exact q3 _ r3.1 | exact r3 _ q3.1 | (obtain ⟨z, hz⟩ := r1; exact q1 z hz) | (obtain ⟨z, hz⟩ := q1; exact r1 z hz) | (have e1 := A_u hw bs bs2 q1.1.1 q1.1.2; have e2 := A_u hw bs bs2 q1.2.1.1 q1.2.1.2; omega))
    · intro v2 r1 σ2 m2 f2
      exact ⟨(by rw [isL_u r1 q1]), ⟨_, _, _, _, _, ClassR_f c1 f2, m2⟩, f2⟩
theorem p_years {d : Nat} (hd : 7 ≤ d) {σ : Sto} {i w : Int} (hR : RelB σ) (h_i : inR i) (h_w : inR w) : WPd d m_X4_years [.inr (0, 0), .inl i, .inl w] σ (PQ d m_X5_years [.inr (26, 0), .inl i, .inl w] σ) := by
  obtain ⟨K, h, HK, tl, tx, hC, hM⟩ := hR
  have hw := hC.2.1
  have n1 := hw.1
  have n2 := hw.2.1
  have hh := hC.2.2.1.2.1
  have ht := hC.2.2.2.1.2.1
  have ki := K_in hw
  refine t_X4_years (by omega) hC h_i h_w ?_ ?_ ?_
  · intro q1
    have hM1 := hM
    have f1 := frC.rf σ
    have c1 := hC
    refine ⟨_, rfl, f1, (by decide), ?_⟩
    refine t_X5_years (by omega) hM1 h_i h_w ?_ ?_ ?_
    · intro r1
      exact ⟨rfl, ⟨_, _, _, _, _, c1, hM1⟩, frM.rf _⟩
    · intro r1 r2 σ2 m2 f2
      exfalso
      (first | omega | exact absurd q1 r1 | exact absurd r1 q1 | exact absurd q2 r2 | exact absurd r2 q2 | (obtain ⟨z, hz⟩ := r2; exact q2 z hz) | (obtain ⟨z, hz⟩ := q2; exact r2 z hz) | exact q2 _ r2.1 | exact r2 _ q2.1 | exact q1 _ r1.1 | exact r1 _ q1.1 | exact q3 _ r3.1 | exact r3 _ q3.1 | (obtain ⟨z, hz⟩ := r1; exact q1 z hz) | (obtain ⟨z, hz⟩ := q1; exact r1 z hz) | (have e1 := A_u hw bs bs2 q1.1.1 q1.1.2; have e2 := A_u hw bs bs2 q1.2.1.1 q1.2.1.2; omega))
    · intro r1 r2 A2 O2 G2 bs2 σ2 m2 f2
      exfalso
      (first | omega | exact absurd q1 r1 | exact absurd r1 q1 | exact absurd q2 r2 | exact absurd r2 q2 | (obtain ⟨z, hz⟩ := r2; exact q2 z hz) | (obtain ⟨z, hz⟩ := q2; exact r2 z hz) | exact q2 _ r2.1 | exact r2 _ q2.1 | exact q1 _ r1.1 | exact r1 _ q1.1 | exact q3 _ r3.1 | exact r3 _ q3.1 | (obtain ⟨z, hz⟩ := r1; exact q1 z hz) | (obtain ⟨z, hz⟩ := q1; exact r1 z hz) | (have e1 := A_u hw bs bs2 q1.1.1 q1.1.2; have e2 := A_u hw bs bs2 q1.2.1.1 q1.2.1.2; omega))
  · intro q1 q2 σ1 c1 f1
    have hM1 := ModelR_f hM f1
    refine ⟨_, rfl, f1, (by decide), ?_⟩
    refine t_X5_years (by omega) hM1 h_i h_w ?_ ?_ ?_
    · intro r1
      exfalso
      (first | omega | exact absurd q1 r1 | exact absurd r1 q1 | exact absurd q2 r2 | exact absurd r2 q2 | (obtain ⟨z, hz⟩ := r2; exact q2 z hz) | (obtain ⟨z, hz⟩ := q2; exact r2 z hz) | exact q2 _ r2.1 | exact r2 _ q2.1 | exact q1 _ r1.1 | exact r1 _ q1.1 | exact q3 _ r3.1 | exact r3 _ q3.1 | (obtain ⟨z, hz⟩ := r1; exact q1 z hz) | (obtain ⟨z, hz⟩ := q1; exact r1 z hz) | (have e1 := A_u hw bs bs2 q1.1.1 q1.1.2; have e2 := A_u hw bs bs2 q1.2.1.1 q1.2.1.2; omega))
    · intro r1 r2 σ2 m2 f2
      exact ⟨rfl, ⟨_, _, _, _, _, ClassR_f c1 f2, m2⟩, f2⟩
    · intro r1 r2 A2 O2 G2 bs2 σ2 m2 f2
      exfalso
      (first | omega | exact absurd q1 r1 | exact absurd r1 q1 | exact absurd q2 r2 | exact absurd r2 q2 | (obtain ⟨z, hz⟩ := r2; exact q2 z hz) | (obtain ⟨z, hz⟩ := q2; exact r2 z hz) | exact q2 _ r2.1 | exact r2 _ q2.1 | exact q1 _ r1.1 | exact r1 _ q1.1 | exact q3 _ r3.1 | exact r3 _ q3.1 | (obtain ⟨z, hz⟩ := r1; exact q1 z hz) | (obtain ⟨z, hz⟩ := q1; exact r1 z hz) | (have e1 := A_u hw bs bs2 q1.1.1 q1.1.2; have e2 := A_u hw bs bs2 q1.2.1.1 q1.2.1.2; omega))
  · intro q1 q2 A O G bs σ1 c1 f1
    have hM1 := ModelR_f hM f1
    refine ⟨_, rfl, f1, (by have a := (Bst_b hw bs q1.1.1).2 q1.1.2; have b := (hw.2.2.1 i q1.1.1 q1.1.2).2.2; have bh := hi_b (K 1 i); have bl := lo_b (K 1 i); split <;> omega), ?_⟩
    refine t_X5_years (by omega) hM1 h_i h_w ?_ ?_ ?_
    · intro r1
      exfalso
      (first | omega | exact absurd q1 r1 | exact absurd r1 q1 | exact absurd q2 r2 | exact absurd r2 q2 | (obtain ⟨z, hz⟩ := r2; exact q2 z hz) | (obtain ⟨z, hz⟩ := q2; exact r2 z hz) | exact q2 _ r2.1 | exact r2 _ q2.1 | exact q1 _ r1.1 | exact r1 _ q1.1 | exact q3 _ r3.1 | exact r3 _ q3.1 | (obtain ⟨z, hz⟩ := r1; exact q1 z hz) | (obtain ⟨z, hz⟩ := q1; exact r1 z hz) | (have e1 := A_u hw bs bs2 q1.1.1 q1.1.2; have e2 := A_u hw bs bs2 q1.2.1.1 q1.2.1.2; omega))
    · intro r1 r2 σ2 m2 f2
      exfalso
      (first | omega | exact absurd q1 r1 | exact absurd r1 q1 | exact absurd q2 r2 | exact absurd r2 q2 | (obtain ⟨z, hz⟩ := r2; exact q2 z hz) | (obtain ⟨z, hz⟩ := q2; exact r2 z hz) | exact q2 _ r2.1 | exact r2 _ q2.1 | exact q1 _ r1.1 | exact r1 _ q1.1 | exact q3 _ r3.1 | exact r3 _ q3.1 | (obtain ⟨z, hz⟩ := r1; exact q1 z hz) | (obtain ⟨z, hz⟩ := q1; exact r1 z hz) | (have e1 := A_u hw bs bs2 q1.1.1 q1.1.2; have e2 := A_u hw bs bs2 q1.2.1.1 q1.2.1.2; omega))
    · intro r1 r2 A2 O2 G2 bs2 σ2 m2 f2
      exact ⟨(by have e := OG_u hw bs bs2 q1.1.1 q1.1.2; rw [e.1, e.2]), ⟨_, _, _, _, _, ClassR_f c1 f2, m2⟩, f2⟩
theorem p_age {d : Nat} (hd : 7 ≤ d) {σ : Sto} {i : Int} (hR : RelB σ) (h_i : inR i) : WPd d m_X4_age [.inr (0, 0), .inl i] σ (PQ d m_X5_age [.inr (26, 0), .inl i] σ) := by
  obtain ⟨K, h, HK, tl, tx, hC, hM⟩ := hR
  have hw := hC.2.1
  have n1 := hw.1
  have n2 := hw.2.1
  have hh := hC.2.2.1.2.1
  have ht := hC.2.2.2.1.2.1
  have ki := K_in hw
  refine t_X4_age (by omega) hC h_i ?_ ?_ ?_
  · intro q1
    have hM1 := hM
    have f1 := frC.rf σ
    have c1 := hC
    refine ⟨_, rfl, f1, (by decide), ?_⟩
    refine t_X5_age (by omega) hM1 h_i ?_ ?_ ?_
    · intro r1
      exact ⟨rfl, ⟨_, _, _, _, _, c1, hM1⟩, frM.rf _⟩
    · intro r1 r2 σ2 m2 f2
      exfalso
      (first | omega | exact absurd q1 r1 | exact absurd r1 q1 | exact absurd q2 r2 | exact absurd r2 q2 | (obtain ⟨z, hz⟩ := r2; exact q2 z hz) | (obtain ⟨z, hz⟩ := q2; exact r2 z hz) | exact q2 _ r2.1 | exact r2 _ q2.1 | exact q1 _ r1.1 | exact r1 _ q1.1 | exact q3 _ r3.1 | exact r3 _ q3.1 | (obtain ⟨z, hz⟩ := r1; exact q1 z hz) | (obtain ⟨z, hz⟩ := q1; exact r1 z hz) | (have e1 := A_u hw bs bs2 q1.1.1 q1.1.2; have e2 := A_u hw bs bs2 q1.2.1.1 q1.2.1.2; omega))
    · intro r1 r2 A2 O2 G2 bs2 σ2 m2 f2
      exfalso
      (first | omega | exact absurd q1 r1 | exact absurd r1 q1 | exact absurd q2 r2 | exact absurd r2 q2 | (obtain ⟨z, hz⟩ := r2; exact q2 z hz) | (obtain ⟨z, hz⟩ := q2; exact r2 z hz) | exact q2 _ r2.1 | exact r2 _ q2.1 | exact q1 _ r1.1 | exact r1 _ q1.1 | exact q3 _ r3.1 | exact r3 _ q3.1 | (obtain ⟨z, hz⟩ := r1; exact q1 z hz) | (obtain ⟨z, hz⟩ := q1; exact r1 z hz) | (have e1 := A_u hw bs bs2 q1.1.1 q1.1.2; have e2 := A_u hw bs bs2 q1.2.1.1 q1.2.1.2; omega))
  · intro q1 q2 σ1 c1 f1
    have hM1 := ModelR_f hM f1
    refine ⟨_, rfl, f1, (by decide), ?_⟩
    refine t_X5_age (by omega) hM1 h_i ?_ ?_ ?_
    · intro r1
      exfalso
      (first | omega | exact absurd q1 r1 | exact absurd r1 q1 | exact absurd q2 r2 | exact absurd r2 q2 | (obtain ⟨z, hz⟩ := r2; exact q2 z hz) | (obtain ⟨z, hz⟩ := q2; exact r2 z hz) | exact q2 _ r2.1 | exact r2 _ q2.1 | exact q1 _ r1.1 | exact r1 _ q1.1 | exact q3 _ r3.1 | exact r3 _ q3.1 | (obtain ⟨z, hz⟩ := r1; exact q1 z hz) | (obtain ⟨z, hz⟩ := q1; exact r1 z hz) | (have e1 := A_u hw bs bs2 q1.1.1 q1.1.2; have e2 := A_u hw bs bs2 q1.2.1.1 q1.2.1.2; omega))
    · intro r1 r2 σ2 m2 f2
      exact ⟨rfl, ⟨_, _, _, _, _, ClassR_f c1 f2, m2⟩, f2⟩
    · intro r1 r2 A2 O2 G2 bs2 σ2 m2 f2
      exfalso
      (first | omega | exact absurd q1 r1 | exact absurd r1 q1 | exact absurd q2 r2 | exact absurd r2 q2 | (obtain ⟨z, hz⟩ := r2; exact q2 z hz) | (obtain ⟨z, hz⟩ := q2; exact r2 z hz) | exact q2 _ r2.1 | exact r2 _ q2.1 | exact q1 _ r1.1 | exact r1 _ q1.1 | exact q3 _ r3.1 | exact r3 _ q3.1 | (obtain ⟨z, hz⟩ := r1; exact q1 z hz) | (obtain ⟨z, hz⟩ := q1; exact r1 z hz) | (have e1 := A_u hw bs bs2 q1.1.1 q1.1.2; have e2 := A_u hw bs bs2 q1.2.1.1 q1.2.1.2; omega))
  · intro q1 q2 A O G bs σ1 c1 f1
    have hM1 := ModelR_f hM f1
    refine ⟨_, rfl, f1, (by have a := (Bst_b hw bs q1.1).1 q1.2; omega), ?_⟩
    refine t_X5_age (by omega) hM1 h_i ?_ ?_ ?_
    · intro r1
      exfalso
      (first | omega | exact absurd q1 r1 | exact absurd r1 q1 | exact absurd q2 r2 | exact absurd r2 q2 | (obtain ⟨z, hz⟩ := r2; exact q2 z hz) | (obtain ⟨z, hz⟩ := q2; exact r2 z hz) | exact q2 _ r2.1 | exact r2 _ q2.1 | exact q1 _ r1.1 | exact r1 _ q1.1 | exact q3 _ r3.1 | exact r3 _ q3.1 | (obtain ⟨z, hz⟩ := r1; exact q1 z hz) | (obtain ⟨z, hz⟩ := q1; exact r1 z hz) | (have e1 := A_u hw bs bs2 q1.1.1 q1.1.2; have e2 := A_u hw bs bs2 q1.2.1.1 q1.2.1.2; omega))
    · intro r1 r2 σ2 m2 f2
      exfalso
      (first | omega | exact absurd q1 r1 | exact absurd r1 q1 | exact absurd q2 r2 | exact absurd r2 q2 | (obtain ⟨z, hz⟩ := r2; exact q2 z hz) | (obtain ⟨z, hz⟩ := q2; exact r2 z hz) | exact q2 _ r2.1 | exact r2 _ q2.1 | exact q1 _ r1.1 | exact r1 _ q1.1 | exact q3 _ r3.1 | exact r3 _ q3.1 | (obtain ⟨z, hz⟩ := r1; exact q1 z hz) | (obtain ⟨z, hz⟩ := q1; exact r1 z hz) | (have e1 := A_u hw bs bs2 q1.1.1 q1.1.2; have e2 := A_u hw bs bs2 q1.2.1.1 q1.2.1.2; omega))
    · intro r1 r2 A2 O2 G2 bs2 σ2 m2 f2
      exact ⟨(by rw [A_u hw bs bs2 q1.1 q1.2]), ⟨_, _, _, _, _, ClassR_f c1 f2, m2⟩, f2⟩
theorem p_offset {d : Nat} (hd : 7 ≤ d) {σ : Sto} {x : Int} (hR : RelB σ) (h_x : inR x) : WPd d m_X4_offset [.inr (0, 0), .inl x] σ (PQ d m_X5_offset [.inr (26, 0), .inl x] σ) := by
  obtain ⟨K, h, HK, tl, tx, hC, hM⟩ := hR
  have hw := hC.2.1
  have n1 := hw.1
  have n2 := hw.2.1
  have hh := hC.2.2.1.2.1
  have ht := hC.2.2.2.1.2.1
  have ki := K_in hw
  refine t_X4_offset (by omega) hC h_x ?_ ?_ ?_
  · intro q1
    have hM1 := hM
    have f1 := frC.rf σ
    have c1 := hC
    refine ⟨_, rfl, f1, (by decide), ?_⟩
    refine t_X5_offset (by omega) hM1 h_x ?_ ?_ ?_
    · intro r1
      exact ⟨rfl, ⟨_, _, _, _, _, c1, hM1⟩, frM.rf _⟩
    · intro r1 r2 σ2 m2 f2
      exfalso
      (first | omega | exact absurd q1 r1 | exact absurd r1 q1 | exact absurd q2 r2 | exact absurd r2 q2 | (obtain ⟨z, hz⟩ := r2; exact q2 z hz) | (obtain ⟨z, hz⟩ := q2; exact r2 z hz) | exact q2 _ r2.1 | exact r2 _ q2.1 | exact q1 _ r1.1 | exact r1 _ q1.1 | exact q3 _ r3.1 | exact r3 _ q3.1 | (obtain ⟨z, hz⟩ := r1; exact q1 z hz) | (obtain ⟨z, hz⟩ := q1; exact r1 z hz) | (have e1 := A_u hw bs bs2 q1.1.1 q1.1.2; have e2 := A_u hw bs bs2 q1.2.1.1 q1.2.1.2; omega))
    · intro r1 r2 A2 O2 G2 bs2 σ2 m2 f2
      exfalso
      (first | omega | exact absurd q1 r1 | exact absurd r1 q1 | exact absurd q2 r2 | exact absurd r2 q2 | (obtain ⟨z, hz⟩ := r2; exact q2 z hz) | (obtain ⟨z, hz⟩ := q2; exact r2 z hz) | exact q2 _ r2.1 | exact r2 _ q2.1 | exact q1 _ r1.1 | exact r1 _ q1.1 | exact q3 _ r3.1 | exact r3 _ q3.1 | (obtain ⟨z, hz⟩ := r1; exact q1 z hz) | (obtain ⟨z, hz⟩ := q1; exact r1 z hz) | (have e1 := A_u hw bs bs2 q1.1.1 q1.1.2; have e2 := A_u hw bs bs2 q1.2.1.1 q1.2.1.2; omega))
  · intro q1 q2 σ1 c1 f1
    have hM1 := ModelR_f hM f1
    refine ⟨_, rfl, f1, (by decide), ?_⟩
    refine t_X5_offset (by omega) hM1 h_x ?_ ?_ ?_
    · intro r1
      exfalso
      (first | omega | exact absurd q1 r1 | exact absurd r1 q1 | exact absurd q2 r2 | exact absurd r2 q2 | (obtain ⟨z, hz⟩ := r2; exact q2 z hz) | (obtain ⟨z, hz⟩ := q2; exact r2 z hz) | exact q2 _ r2.1 | exact r2 _ q2.1 | exact q1 _ r1.1 | exact r1 _ q1.1 | exact q3 _ r3.1 | exact r3 _ q3.1 | (obtain ⟨z, hz⟩ := r1; exact q1 z hz) | (obtain ⟨z, hz⟩ := q1; exact r1 z hz) | (have e1 := A_u hw bs bs2 q1.1.1 q1.1.2; have e2 := A_u hw bs bs2 q1.2.1.1 q1.2.1.2; omega))
    · intro r1 r2 σ2 m2 f2
      exact ⟨rfl, ⟨_, _, _, _, _, ClassR_f c1 f2, m2⟩, f2⟩
    · intro r1 r2 A2 O2 G2 bs2 σ2 m2 f2
      exfalso
      (first | omega | exact absurd q1 r1 | exact absurd r1 q1 | exact absurd q2 r2 | exact absurd r2 q2 | (obtain ⟨z, hz⟩ := r2; exact q2 z hz) | (obtain ⟨z, hz⟩ := q2; exact r2 z hz) | exact q2 _ r2.1 | exact r2 _ q2.1 | exact q1 _ r1.1 | exact r1 _ q1.1 | exact q3 _ r3.1 | exact r3 _ q3.1 | (obtain ⟨z, hz⟩ := r1; exact q1 z hz) | (obtain ⟨z, hz⟩ := q1; exact r1 z hz) | (have e1 := A_u hw bs bs2 q1.1.1 q1.1.2; have e2 := A_u hw bs bs2 q1.2.1.1 q1.2.1.2; omega))
  · intro q1 q2 A O G bs σ1 c1 f1
    have hM1 := ModelR_f hM f1
    refine ⟨_, rfl, f1, (by have u := hw.2.2.2.1 x q1.1 q1.2; have a := (Bst_b hw bs (p := K 3 x) (by omega)).1 (by omega); omega), ?_⟩
    refine t_X5_offset (by omega) hM1 h_x ?_ ?_ ?_
    · intro r1
      exfalso
      (first | omega | exact absurd q1 r1 | exact absurd r1 q1 | exact absurd q2 r2 | exact absurd r2 q2 | (obtain ⟨z, hz⟩ := r2; exact q2 z hz) | (obtain ⟨z, hz⟩ := q2; exact r2 z hz) | exact q2 _ r2.1 | exact r2 _ q2.1 | exact q1 _ r1.1 | exact r1 _ q1.1 | exact q3 _ r3.1 | exact r3 _ q3.1 | (obtain ⟨z, hz⟩ := r1; exact q1 z hz) | (obtain ⟨z, hz⟩ := q1; exact r1 z hz) | (have e1 := A_u hw bs bs2 q1.1.1 q1.1.2; have e2 := A_u hw bs bs2 q1.2.1.1 q1.2.1.2; omega))
    · intro r1 r2 σ2 m2 f2
      exfalso
      (first | omega | exact absurd q1 r1 | exact absurd r1 q1 | exact absurd q2 r2 | exact absurd r2 q2 | (obtain ⟨z, hz⟩ := r2; exact q2 z hz) | (obtain ⟨z, hz⟩ := q2; exact r2 z hz) | exact q2 _ r2.1 | exact r2 _ q2.1 | exact q1 _ r1.1 | exact r1 _ q1.1 | exact q3 _ r3.1 | exact r3 _ q3.1 | (obtain ⟨z, hz⟩ := r1; exact q1 z hz) | (obtain ⟨z, hz⟩ := q1; exact r1 z hz) | (have e1 := A_u hw bs bs2 q1.1.1 q1.1.2; have e2 := A_u hw bs bs2 q1.2.1.1 q1.2.1.2; omega))
    · intro r1 r2 A2 O2 G2 bs2 σ2 m2 f2
      exact ⟨(by have u := hw.2.2.2.1 x q1.1 q1.2; rw [A_u hw bs bs2 (p := K 3 x) (by omega) (by omega)]), ⟨_, _, _, _, _, ClassR_f c1 f2, m2⟩, f2⟩
theorem p_total {d : Nat} (hd : 7 ≤ d) {σ : Sto} {w : Int} (hR : RelB σ) (h_w : inR w) : WPd d m_X4_total [.inr (0, 0), .inl w] σ (PQ d m_X5_total [.inr (26, 0), .inl w] σ) := by
  obtain ⟨K, h, HK, tl, tx, hC, hM⟩ := hR
  have hw := hC.2.1
  have n1 := hw.1
  have n2 := hw.2.1
  have hh := hC.2.2.1.2.1
  have ht := hC.2.2.2.1.2.1
  have ki := K_in hw
  refine t_X4_total (by omega) hC h_w ?_ ?_ ?_
  · intro q1
    have hM1 := hM
    have f1 := frC.rf σ
    have c1 := hC
    refine ⟨_, rfl, f1, (by decide), ?_⟩
    refine t_X5_total (by omega) hM1 h_w ?_ ?_ ?_
    · intro r1
      exact ⟨rfl, ⟨_, _, _, _, _, c1, hM1⟩, frM.rf _⟩
    · intro r1 r2 σ2 m2 f2
      exfalso
      (first | omega | exact absurd q1 r1 | exact absurd r1 q1 | exact absurd q2 r2 | exact absurd r2 q2 | (obtain ⟨z, hz⟩ := r2; exact q2 z hz) | (obtain ⟨z, hz⟩ := q2; exact r2 z hz) | exact q2 _ r2.1 | exact r2 _ q2.1 | exact q1 _ r1.1 | exact r1 _ q1.1 | exact q3 _ r3.1 | exact r3 _ q3.1 | (obtain ⟨z, hz⟩ := r1; exact q1 z hz) | (obtain ⟨z, hz⟩ := q1; exact r1 z hz) | (have e1 := A_u hw bs bs2 q1.1.1 q1.1.2; have e2 := A_u hw bs bs2 q1.2.1.1 q1.2.1.2; omega))
    · intro r1 r2 A2 O2 G2 bs2 σ2 m2 f2
      exfalso
      (first | omega | exact absurd q1 r1 | exact absurd r1 q1 | exact absurd q2 r2 | exact absurd r2 q2 | (obtain ⟨z, hz⟩ := r2; exact q2 z hz) | (obtain ⟨z, hz⟩ := q2; exact r2 z hz) | exact q2 _ r2.1 | exact r2 _ q2.1 | exact q1 _ r1.1 | exact r1 _ q1.1 | exact q3 _ r3.1 | exact r3 _ q3.1 | (obtain ⟨z, hz⟩ := r1; exact q1 z hz) | (obtain ⟨z, hz⟩ := q1; exact r1 z hz) | (have e1 := A_u hw bs bs2 q1.1.1 q1.1.2; have e2 := A_u hw bs bs2 q1.2.1.1 q1.2.1.2; omega))
  · intro q1 q2 σ1 c1 f1
    have hM1 := ModelR_f hM f1
    refine ⟨_, rfl, f1, (by decide), ?_⟩
    refine t_X5_total (by omega) hM1 h_w ?_ ?_ ?_
    · intro r1
      exfalso
      (first | omega | exact absurd q1 r1 | exact absurd r1 q1 | exact absurd q2 r2 | exact absurd r2 q2 | (obtain ⟨z, hz⟩ := r2; exact q2 z hz) | (obtain ⟨z, hz⟩ := q2; exact r2 z hz) | exact q2 _ r2.1 | exact r2 _ q2.1 | exact q1 _ r1.1 | exact r1 _ q1.1 | exact q3 _ r3.1 | exact r3 _ q3.1 | (obtain ⟨z, hz⟩ := r1; exact q1 z hz) | (obtain ⟨z, hz⟩ := q1; exact r1 z hz) | (have e1 := A_u hw bs bs2 q1.1.1 q1.1.2; have e2 := A_u hw bs bs2 q1.2.1.1 q1.2.1.2; omega))
    · intro r1 r2 σ2 m2 f2
      exact ⟨rfl, ⟨_, _, _, _, _, ClassR_f c1 f2, m2⟩, f2⟩
    · intro r1 r2 A2 O2 G2 bs2 σ2 m2 f2
      exfalso
      (first | omega | exact absurd q1 r1 | exact absurd r1 q1 | exact absurd q2 r2 | exact absurd r2 q2 | (obtain ⟨z, hz⟩ := r2; exact q2 z hz) | (obtain ⟨z, hz⟩ := q2; exact r2 z hz) | exact q2 _ r2.1 | exact r2 _ q2.1 | exact q1 _ r1.1 | exact r1 _ q1.1 | exact q3 _ r3.1 | exact r3 _ q3.1 | (obtain ⟨z, hz⟩ := r1; exact q1 z hz) | (obtain ⟨z, hz⟩ := q1; exact r1 z hz) | (have e1 := A_u hw bs bs2 q1.1.1 q1.1.2; have e2 := A_u hw bs bs2 q1.2.1.1 q1.2.1.2; omega))
  · intro q1 q2 A O G bs σ1 c1 f1
    have hM1 := ModelR_f hM f1
    refine ⟨_, rfl, f1, (tot_bd hw bs w), ?_⟩
    refine t_X5_total (by omega) hM1 h_w ?_ ?_ ?_
    · intro r1
      exfalso
      (first | omega | exact absurd q1 r1 | exact absurd r1 q1 | exact absurd q2 r2 | exact absurd r2 q2 | (obtain ⟨z, hz⟩ := r2; exact q2 z hz) | (obtain ⟨z, hz⟩ := q2; exact r2 z hz) | exact q2 _ r2.1 | exact r2 _ q2.1 | exact q1 _ r1.1 | exact r1 _ q1.1 | exact q3 _ r3.1 | exact r3 _ q3.1 | (obtain ⟨z, hz⟩ := r1; exact q1 z hz) | (obtain ⟨z, hz⟩ := q1; exact r1 z hz) | (have e1 := A_u hw bs bs2 q1.1.1 q1.1.2; have e2 := A_u hw bs bs2 q1.2.1.1 q1.2.1.2; omega))
    · intro r1 r2 σ2 m2 f2
      exfalso
      (first | omega | exact absurd q1 r1 | exact absurd r1 q1 | exact absurd q2 r2 | exact absurd r2 q2 | (obtain ⟨z, hz⟩ := r2; exact q2 z hz) | (obtain ⟨z, hz⟩ := q2; exact r2 z hz) | exact q2 _ r2.1 | exact r2 _ q2.1 | exact q1 _ r1.1 | exact r1 _ q1.1 | exact q3 _ r3.1 | exact r3 _ q3.1 | (obtain ⟨z, hz⟩ := r1; exact q1 z hz) | (obtain ⟨z, hz⟩ := q1; exact r1 z hz) | (have e1 := A_u hw bs bs2 q1.1.1 q1.1.2; have e2 := A_u hw bs bs2 q1.2.1.1 q1.2.1.2; omega))
    · intro r1 r2 A2 O2 G2 bs2 σ2 m2 f2
      exact ⟨(by rw [tot_u hw bs bs2 w]), ⟨_, _, _, _, _, ClassR_f c1 f2, m2⟩, f2⟩
theorem p_ways {d : Nat} (hd : 7 ≤ d) {σ : Sto} (hR : RelB σ)  : WPd d m_X4_ways [.inr (0, 0)] σ (PQ d m_X5_ways [.inr (26, 0)] σ) := by
  obtain ⟨K, h, HK, tl, tx, hC, hM⟩ := hR
  have hw := hC.2.1
  have n1 := hw.1
  have n2 := hw.2.1
  have hh := hC.2.2.1.2.1
  have ht := hC.2.2.2.1.2.1
  have ki := K_in hw
  refine t_X4_ways (by omega) hC  ?_ ?_
  · intro q1 σ1 c1 f1
    have hM1 := ModelR_f hM f1
    refine ⟨_, rfl, f1, (by decide), ?_⟩
    refine t_X5_ways (by omega) hM1  ?_ ?_
    · intro r1 σ2 m2 f2
      exact ⟨rfl, ⟨_, _, _, _, _, ClassR_f c1 f2, m2⟩, f2⟩
    · intro r1 σ2 m2 f2
      exfalso
      (first | omega | exact absurd q1 r1 | exact absurd r1 q1 | exact absurd q2 r2 | exact absurd r2 q2 | (obtain ⟨z, hz⟩ := r2; exact q2 z hz) | (obtain ⟨z, hz⟩ := q2; exact r2 z hz) | exact q2 _ r2.1 | exact r2 _ q2.1 | exact q1 _ r1.1 | exact r1 _ q1.1 | exact q3 _ r3.1 | exact r3 _ q3.1 | (obtain ⟨z, hz⟩ := r1; exact q1 z hz) | (obtain ⟨z, hz⟩ := q1; exact r1 z hz) | (have e1 := A_u hw bs bs2 q1.1.1 q1.1.2; have e2 := A_u hw bs bs2 q1.2.1.1 q1.2.1.2; omega))
  · intro q1 σ1 c1 f1
    have hM1 := ModelR_f hM f1
    refine ⟨_, rfl, f1, (by omega), ?_⟩
    refine t_X5_ways (by omega) hM1  ?_ ?_
    · intro r1 σ2 m2 f2
      exfalso
      (first | omega | exact absurd q1 r1 | exact absurd r1 q1 | exact absurd q2 r2 | exact absurd r2 q2 | (obtain ⟨z, hz⟩ := r2; exact q2 z hz) | (obtain ⟨z, hz⟩ := q2; exact r2 z hz) | exact q2 _ r2.1 | exact r2 _ q2.1 | exact q1 _ r1.1 | exact r1 _ q1.1 | exact q3 _ r3.1 | exact r3 _ q3.1 | (obtain ⟨z, hz⟩ := r1; exact q1 z hz) | (obtain ⟨z, hz⟩ := q1; exact r1 z hz) | (have e1 := A_u hw bs bs2 q1.1.1 q1.1.2; have e2 := A_u hw bs bs2 q1.2.1.1 q1.2.1.2; omega))
    · intro r1 σ2 m2 f2
      exact ⟨rfl, ⟨_, _, _, _, _, ClassR_f c1 f2, m2⟩, f2⟩
theorem p_rate {d : Nat} (hd : 7 ≤ d) {σ : Sto} {u l w : Int} (hR : RelB σ) (h_u : inR u) (h_l : inR l) (h_w : inR w) : WPd d m_X4_rate [.inr (0, 0), .inl u, .inl l, .inl w] σ (PQ d m_X5_rate [.inr (26, 0), .inl u, .inl l, .inl w] σ) := by
  obtain ⟨K, h, HK, tl, tx, hC, hM⟩ := hR
  have hw := hC.2.1
  have n1 := hw.1
  have n2 := hw.2.1
  have hh := hC.2.2.1.2.1
  have ht := hC.2.2.2.1.2.1
  have ki := K_in hw
  refine t_X4_rate (by omega) hC h_u h_l h_w ?_ ?_ ?_ ?_
  · intro q1
    have hM1 := hM
    have f1 := frC.rf σ
    have c1 := hC
    refine ⟨_, rfl, f1, (by decide), ?_⟩
    refine t_X5_rate (by omega) hM1 h_u h_l h_w ?_ ?_ ?_ ?_
    · intro r1
      exact ⟨rfl, ⟨_, _, _, _, _, c1, hM1⟩, frM.rf _⟩
    · intro r1 r2 σ2 m2 f2
      exfalso
      (first | omega | exact absurd q1 r1 | exact absurd r1 q1 | exact absurd q2 r2 | exact absurd r2 q2 | (obtain ⟨z, hz⟩ := r2; exact q2 z hz) | (obtain ⟨z, hz⟩ := q2; exact r2 z hz) | exact q2 _ r2.1 | exact r2 _ q2.1 | exact q1 _ r1.1 | exact r1 _ q1.1 | exact q3 _ r3.1 | exact r3 _ q3.1 | (obtain ⟨z, hz⟩ := r1; exact q1 z hz) | (obtain ⟨z, hz⟩ := q1; exact r1 z hz) | (have e1 := A_u hw bs bs2 q1.1.1 q1.1.2; have e2 := A_u hw bs bs2 q1.2.1.1 q1.2.1.2; omega))
    · intro r1 r2 A2 O2 G2 bs2 r3 σ2 m2 f2
      exfalso
      (first | omega | exact absurd q1 r1 | exact absurd r1 q1 | exact absurd q2 r2 | exact absurd r2 q2 | (obtain ⟨z, hz⟩ := r2; exact q2 z hz) | (obtain ⟨z, hz⟩ := q2; exact r2 z hz) | exact q2 _ r2.1 | exact r2 _ q2.1 | exact q1 _ r1.1 | exact r1 _ q1.1 | exact q3 _ r3.1 | exact r3 _ q3.1 | (obtain ⟨z, hz⟩ := r1; exact q1 z hz) | (obtain ⟨z, hz⟩ := q1; exact r1 z hz) | (have e1 := A_u hw bs bs2 q1.1.1 q1.1.2; have e2 := A_u hw bs bs2 q1.2.1.1 q1.2.1.2; omega))
    · intro r1 r2 A2 O2 G2 bs2 r3 v2 gg2 σ2 m2 f2
      exfalso
      (first | omega | exact absurd q1 r1 | exact absurd r1 q1 | exact absurd q2 r2 | exact absurd r2 q2 | (obtain ⟨z, hz⟩ := r2; exact q2 z hz) | (obtain ⟨z, hz⟩ := q2; exact r2 z hz) | exact q2 _ r2.1 | exact r2 _ q2.1 | exact q1 _ r1.1 | exact r1 _ q1.1 | exact q3 _ r3.1 | exact r3 _ q3.1 | (obtain ⟨z, hz⟩ := r1; exact q1 z hz) | (obtain ⟨z, hz⟩ := q1; exact r1 z hz) | (have e1 := A_u hw bs bs2 q1.1.1 q1.1.2; have e2 := A_u hw bs bs2 q1.2.1.1 q1.2.1.2; omega))
  · intro q1 q2 σ1 c1 f1
    have hM1 := ModelR_f hM f1
    refine ⟨_, rfl, f1, (by decide), ?_⟩
    refine t_X5_rate (by omega) hM1 h_u h_l h_w ?_ ?_ ?_ ?_
    · intro r1
      exfalso
      (first | omega | exact absurd q1 r1 | exact absurd r1 q1 | exact absurd q2 r2 | exact absurd r2 q2 | (obtain ⟨z, hz⟩ := r2; exact q2 z hz) | (obtain ⟨z, hz⟩ := q2; exact r2 z hz) | exact q2 _ r2.1 | exact r2 _ q2.1 | exact q1 _ r1.1 | exact r1 _ q1.1 | exact q3 _ r3.1 | exact r3 _ q3.1 | (obtain ⟨z, hz⟩ := r1; exact q1 z hz) | (obtain ⟨z, hz⟩ := q1; exact r1 z hz) | (have e1 := A_u hw bs bs2 q1.1.1 q1.1.2; have e2 := A_u hw bs bs2 q1.2.1.1 q1.2.1.2; omega))
    · intro r1 r2 σ2 m2 f2
      exact ⟨rfl, ⟨_, _, _, _, _, ClassR_f c1 f2, m2⟩, f2⟩
    · intro r1 r2 A2 O2 G2 bs2 r3 σ2 m2 f2
      exfalso
      (first | omega | exact absurd q1 r1 | exact absurd r1 q1 | exact absurd q2 r2 | exact absurd r2 q2 | (obtain ⟨z, hz⟩ := r2; exact q2 z hz) | (obtain ⟨z, hz⟩ := q2; exact r2 z hz) | exact q2 _ r2.1 | exact r2 _ q2.1 | exact q1 _ r1.1 | exact r1 _ q1.1 | exact q3 _ r3.1 | exact r3 _ q3.1 | (obtain ⟨z, hz⟩ := r1; exact q1 z hz) | (obtain ⟨z, hz⟩ := q1; exact r1 z hz) | (have e1 := A_u hw bs bs2 q1.1.1 q1.1.2; have e2 := A_u hw bs bs2 q1.2.1.1 q1.2.1.2; omega))
    · intro r1 r2 A2 O2 G2 bs2 r3 v2 gg2 σ2 m2 f2
      exfalso
      (first | omega | exact absurd q1 r1 | exact absurd r1 q1 | exact absurd q2 r2 | exact absurd r2 q2 | (obtain ⟨z, hz⟩ := r2; exact q2 z hz) | (obtain ⟨z, hz⟩ := q2; exact r2 z hz) | exact q2 _ r2.1 | exact r2 _ q2.1 | exact q1 _ r1.1 | exact r1 _ q1.1 | exact q3 _ r3.1 | exact r3 _ q3.1 | (obtain ⟨z, hz⟩ := r1; exact q1 z hz) | (obtain ⟨z, hz⟩ := q1; exact r1 z hz) | (have e1 := A_u hw bs bs2 q1.1.1 q1.1.2; have e2 := A_u hw bs bs2 q1.2.1.1 q1.2.1.2; omega))
  · intro q1 q2 A O G bs q3 σ1 c1 f1
    have hM1 := ModelR_f hM f1
    refine ⟨_, rfl, f1, (by decide), ?_⟩
    refine t_X5_rate (by omega) hM1 h_u h_l h_w ?_ ?_ ?_ ?_
    · intro r1
      exfalso
      (first | omega | exact absurd q1 r1 | exact absurd r1 q1 | exact absurd q2 r2 | exact absurd r2 q2 | (obtain ⟨z, hz⟩ := r2; exact q2 z hz) | (obtain ⟨z, hz⟩ := q2; exact r2 z hz) | exact q2 _ r2.1 | exact r2 _ q2.1 | exact q1 _ r1.1 | exact r1 _ q1.1 | exact q3 _ r3.1 | exact r3 _ q3.1 | (obtain ⟨z, hz⟩ := r1; exact q1 z hz) | (obtain ⟨z, hz⟩ := q1; exact r1 z hz) | (have e1 := A_u hw bs bs2 q1.1.1 q1.1.2; have e2 := A_u hw bs bs2 q1.2.1.1 q1.2.1.2; omega))
    · intro r1 r2 σ2 m2 f2
      exfalso
      (first | omega | exact absurd q1 r1 | exact absurd r1 q1 | exact absurd q2 r2 | exact absurd r2 q2 | (obtain ⟨z, hz⟩ := r2; exact q2 z hz) | (obtain ⟨z, hz⟩ := q2; exact r2 z hz) | exact q2 _ r2.1 | exact r2 _ q2.1 | exact q1 _ r1.1 | exact r1 _ q1.1 | exact q3 _ r3.1 | exact r3 _ q3.1 | (obtain ⟨z, hz⟩ := r1; exact q1 z hz) | (obtain ⟨z, hz⟩ := q1; exact r1 z hz) | (have e1 := A_u hw bs bs2 q1.1.1 q1.1.2; have e2 := A_u hw bs bs2 q1.2.1.1 q1.2.1.2; omega))
    · intro r1 r2 A2 O2 G2 bs2 r3 σ2 m2 f2
      exact ⟨rfl, ⟨_, _, _, _, _, ClassR_f c1 f2, m2⟩, f2⟩
    · intro r1 r2 A2 O2 G2 bs2 r3 v2 gg2 σ2 m2 f2
      exfalso
      (first | omega | exact absurd q1 r1 | exact absurd r1 q1 | exact absurd q2 r2 | exact absurd r2 q2 | (obtain ⟨z, hz⟩ := r2; exact q2 z hz) | (obtain ⟨z, hz⟩ := q2; exact r2 z hz) | exact q2 _ r2.1 | exact r2 _ q2.1 | exact q1 _ r1.1 | exact r1 _ q1.1 | exact q3 _ r3.1 | exact r3 _ q3.1 | (obtain ⟨z, hz⟩ := r1; exact q1 z hz) | (obtain ⟨z, hz⟩ := q1; exact r1 z hz) | (have e1 := A_u hw bs bs2 q1.1.1 q1.1.2; have e2 := A_u hw bs bs2 q1.2.1.1 q1.2.1.2; omega))
  · intro q1 q2 A O G bs q3 v gg σ1 c1 f1
    have hM1 := ModelR_f hM f1
    refine ⟨_, rfl, f1, (rate_bd hw q1 bs q3 gg), ?_⟩
    refine t_X5_rate (by omega) hM1 h_u h_l h_w ?_ ?_ ?_ ?_
    · intro r1
      exfalso
      (first | omega | exact absurd q1 r1 | exact absurd r1 q1 | exact absurd q2 r2 | exact absurd r2 q2 | (obtain ⟨z, hz⟩ := r2; exact q2 z hz) | (obtain ⟨z, hz⟩ := q2; exact r2 z hz) | exact q2 _ r2.1 | exact r2 _ q2.1 | exact q1 _ r1.1 | exact r1 _ q1.1 | exact q3 _ r3.1 | exact r3 _ q3.1 | (obtain ⟨z, hz⟩ := r1; exact q1 z hz) | (obtain ⟨z, hz⟩ := q1; exact r1 z hz) | (have e1 := A_u hw bs bs2 q1.1.1 q1.1.2; have e2 := A_u hw bs bs2 q1.2.1.1 q1.2.1.2; omega))
    · intro r1 r2 σ2 m2 f2
      exfalso
      (first | omega | exact absurd q1 r1 | exact absurd r1 q1 | exact absurd q2 r2 | exact absurd r2 q2 | (obtain ⟨z, hz⟩ := r2; exact q2 z hz) | (obtain ⟨z, hz⟩ := q2; exact r2 z hz) | exact q2 _ r2.1 | exact r2 _ q2.1 | exact q1 _ r1.1 | exact r1 _ q1.1 | exact q3 _ r3.1 | exact r3 _ q3.1 | (obtain ⟨z, hz⟩ := r1; exact q1 z hz) | (obtain ⟨z, hz⟩ := q1; exact r1 z hz) | (have e1 := A_u hw bs bs2 q1.1.1 q1.1.2; have e2 := A_u hw bs bs2 q1.2.1.1 q1.2.1.2; omega))
    · intro r1 r2 A2 O2 G2 bs2 r3 σ2 m2 f2
      exfalso
      (first | omega | exact absurd q1 r1 | exact absurd r1 q1 | exact absurd q2 r2 | exact absurd r2 q2 | (obtain ⟨z, hz⟩ := r2; exact q2 z hz) | (obtain ⟨z, hz⟩ := q2; exact r2 z hz) | exact q2 _ r2.1 | exact r2 _ q2.1 | exact q1 _ r1.1 | exact r1 _ q1.1 | exact q3 _ r3.1 | exact r3 _ q3.1 | (obtain ⟨z, hz⟩ := r1; exact q1 z hz) | (obtain ⟨z, hz⟩ := q1; exact r1 z hz) | (have e1 := A_u hw bs bs2 q1.1.1 q1.1.2; have e2 := A_u hw bs bs2 q1.2.1.1 q1.2.1.2; omega))
    · intro r1 r2 A2 O2 G2 bs2 r3 v2 gg2 σ2 m2 f2
      exact ⟨(by have e1 := A_u hw bs bs2 q1.1.1 q1.1.2; have e2 := A_u hw bs bs2 q1.2.1.1 q1.2.1.2; rw [← e1, ← e2] at gg2; rw [isG_u gg gg2, e1, e2]), ⟨_, _, _, _, _, ClassR_f c1 f2, m2⟩, f2⟩
theorem p_bound {d : Nat} (hd : 7 ≤ d) {σ : Sto} {p s w : Int} (hR : RelB σ) (h_p : inR p) (h_s : inR s) (h_w : inR w) : WPd d m_X4_bound [.inr (0, 0), .inl p, .inl s, .inl w] σ (PQ d m_X5_bound [.inr (26, 0), .inl p, .inl s, .inl w] σ) := by
  obtain ⟨K, h, HK, tl, tx, hC, hM⟩ := hR
  have hw := hC.2.1
  have n1 := hw.1
  have n2 := hw.2.1
  have hh := hC.2.2.1.2.1
  have ht := hC.2.2.2.1.2.1
  have ki := K_in hw
  refine t_X4_bound (by omega) hC h_p h_s h_w ?_ ?_ ?_
  · intro q1
    have hM1 := hM
    have f1 := frC.rf σ
    have c1 := hC
    refine ⟨_, rfl, f1, (by decide), ?_⟩
    refine t_X5_bound (by omega) hM1 h_p h_s h_w ?_ ?_ ?_
    · intro r1
      exact ⟨rfl, ⟨_, _, _, _, _, c1, hM1⟩, frM.rf _⟩
    · intro r1 r2 σ2 m2 f2
      exfalso
      (first | omega | exact absurd q1 r1 | exact absurd r1 q1 | exact absurd q2 r2 | exact absurd r2 q2 | (obtain ⟨z, hz⟩ := r2; exact q2 z hz) | (obtain ⟨z, hz⟩ := q2; exact r2 z hz) | exact q2 _ r2.1 | exact r2 _ q2.1 | exact q1 _ r1.1 | exact r1 _ q1.1 | exact q3 _ r3.1 | exact r3 _ q3.1 | (obtain ⟨z, hz⟩ := r1; exact q1 z hz) | (obtain ⟨z, hz⟩ := q1; exact r1 z hz) | (have e1 := A_u hw bs bs2 q1.1.1 q1.1.2; have e2 := A_u hw bs bs2 q1.2.1.1 q1.2.1.2; omega))
    · intro r1 c02 r2 a2 rb rw0 rw1 σ2 m2 f2
      exfalso
      (first | omega | exact absurd q1 r1 | exact absurd r1 q1 | exact absurd q2 r2 | exact absurd r2 q2 | (obtain ⟨z, hz⟩ := r2; exact q2 z hz) | (obtain ⟨z, hz⟩ := q2; exact r2 z hz) | exact q2 _ r2.1 | exact r2 _ q2.1 | exact q1 _ r1.1 | exact r1 _ q1.1 | exact q3 _ r3.1 | exact r3 _ q3.1 | (obtain ⟨z, hz⟩ := r1; exact q1 z hz) | (obtain ⟨z, hz⟩ := q1; exact r1 z hz) | (have e1 := A_u hw bs bs2 q1.1.1 q1.1.2; have e2 := A_u hw bs bs2 q1.2.1.1 q1.2.1.2; omega))
  · intro q1 q2 σ1 c1 f1
    have hM1 := ModelR_f hM f1
    refine ⟨_, rfl, f1, (by decide), ?_⟩
    refine t_X5_bound (by omega) hM1 h_p h_s h_w ?_ ?_ ?_
    · intro r1
      exfalso
      (first | omega | exact absurd q1 r1 | exact absurd r1 q1 | exact absurd q2 r2 | exact absurd r2 q2 | (obtain ⟨z, hz⟩ := r2; exact q2 z hz) | (obtain ⟨z, hz⟩ := q2; exact r2 z hz) | exact q2 _ r2.1 | exact r2 _ q2.1 | exact q1 _ r1.1 | exact r1 _ q1.1 | exact q3 _ r3.1 | exact r3 _ q3.1 | (obtain ⟨z, hz⟩ := r1; exact q1 z hz) | (obtain ⟨z, hz⟩ := q1; exact r1 z hz) | (have e1 := A_u hw bs bs2 q1.1.1 q1.1.2; have e2 := A_u hw bs bs2 q1.2.1.1 q1.2.1.2; omega))
    · intro r1 r2 σ2 m2 f2
      exact ⟨rfl, ⟨_, _, _, _, _, ClassR_f c1 f2, m2⟩, f2⟩
    · intro r1 c02 r2 a2 rb rw0 rw1 σ2 m2 f2
      exfalso
      (first | omega | exact absurd q1 r1 | exact absurd r1 q1 | exact absurd q2 r2 | exact absurd r2 q2 | (obtain ⟨z, hz⟩ := r2; exact q2 z hz) | (obtain ⟨z, hz⟩ := q2; exact r2 z hz) | exact q2 _ r2.1 | exact r2 _ q2.1 | exact q1 _ r1.1 | exact r1 _ q1.1 | exact q3 _ r3.1 | exact r3 _ q3.1 | (obtain ⟨z, hz⟩ := r1; exact q1 z hz) | (obtain ⟨z, hz⟩ := q1; exact r1 z hz) | (have e1 := A_u hw bs bs2 q1.1.1 q1.1.2; have e2 := A_u hw bs bs2 q1.2.1.1 q1.2.1.2; omega))
  · intro q1 c0 q2 a qb qw0 qw1 σ1 c1 f1
    have hM1 := ModelR_f hM f1
    refine ⟨_, rfl, f1, (BS_in hw (by omega) qb), ?_⟩
    refine t_X5_bound (by omega) hM1 h_p h_s h_w ?_ ?_ ?_
    · intro r1
      exfalso
      (first | omega | exact absurd q1 r1 | exact absurd r1 q1 | exact absurd q2 r2 | exact absurd r2 q2 | (obtain ⟨z, hz⟩ := r2; exact q2 z hz) | (obtain ⟨z, hz⟩ := q2; exact r2 z hz) | exact q2 _ r2.1 | exact r2 _ q2.1 | exact q1 _ r1.1 | exact r1 _ q1.1 | exact q3 _ r3.1 | exact r3 _ q3.1 | (obtain ⟨z, hz⟩ := r1; exact q1 z hz) | (obtain ⟨z, hz⟩ := q1; exact r1 z hz) | (have e1 := A_u hw bs bs2 q1.1.1 q1.1.2; have e2 := A_u hw bs bs2 q1.2.1.1 q1.2.1.2; omega))
    · intro r1 r2 σ2 m2 f2
      exfalso
      (first | omega | exact absurd q1 r1 | exact absurd r1 q1 | exact absurd q2 r2 | exact absurd r2 q2 | (obtain ⟨z, hz⟩ := r2; exact q2 z hz) | (obtain ⟨z, hz⟩ := q2; exact r2 z hz) | exact q2 _ r2.1 | exact r2 _ q2.1 | exact q1 _ r1.1 | exact r1 _ q1.1 | exact q3 _ r3.1 | exact r3 _ q3.1 | (obtain ⟨z, hz⟩ := r1; exact q1 z hz) | (obtain ⟨z, hz⟩ := q1; exact r1 z hz) | (have e1 := A_u hw bs bs2 q1.1.1 q1.1.2; have e2 := A_u hw bs bs2 q1.2.1.1 q1.2.1.2; omega))
    · intro r1 c02 r2 a2 rb rw0 rw1 σ2 m2 f2
      exact ⟨(by have e := isL_u q2 r2; subst e; rw [bound_u q1.2.2 qb qw0 qw1 rb rw0 rw1]), ⟨_, _, _, _, _, ClassR_f c1 f2, m2⟩, f2⟩
theorem p_without {d : Nat} (hd : 7 ≤ d) {σ : Sto} {x : Int} (hR : RelB σ) (h_x : inR x) : WPd d m_X4_without [.inr (0, 0), .inl x] σ (PQ d m_X5_without [.inr (26, 0), .inl x] σ) := by
  obtain ⟨K, h, HK, tl, tx, hC, hM⟩ := hR
  have hw := hC.2.1
  have n1 := hw.1
  have n2 := hw.2.1
  have hh := hC.2.2.1.2.1
  have ht := hC.2.2.2.1.2.1
  have ki := K_in hw
  refine t_X4_without (by omega) hC h_x ?_ ?_ ?_
  · intro q1
    have hM1 := hM
    have f1 := frC.rf σ
    have c1 := hC
    refine ⟨_, rfl, f1, (by decide), ?_⟩
    refine t_X5_without (by omega) hM1 h_x ?_ ?_ ?_
    · intro r1
      exact ⟨rfl, ⟨_, _, _, _, _, c1, hM1⟩, frM.rf _⟩
    · intro r1 r2 σ2 m2 f2
      exfalso
      (first | omega | exact absurd q1 r1 | exact absurd r1 q1 | exact absurd q2 r2 | exact absurd r2 q2 | (obtain ⟨z, hz⟩ := r2; exact q2 z hz) | (obtain ⟨z, hz⟩ := q2; exact r2 z hz) | exact q2 _ r2.1 | exact r2 _ q2.1 | exact q1 _ r1.1 | exact r1 _ q1.1 | exact q3 _ r3.1 | exact r3 _ q3.1 | (obtain ⟨z, hz⟩ := r1; exact q1 z hz) | (obtain ⟨z, hz⟩ := q1; exact r1 z hz) | (have e1 := A_u hw bs bs2 q1.1.1 q1.1.2; have e2 := A_u hw bs bs2 q1.2.1.1 q1.2.1.2; omega))
    · intro r1 v2 r2 σ2 m2 f2
      exfalso
      (first | omega | exact absurd q1 r1 | exact absurd r1 q1 | exact absurd q2 r2 | exact absurd r2 q2 | (obtain ⟨z, hz⟩ := r2; exact q2 z hz) | (obtain ⟨z, hz⟩ := q2; exact r2 z hz) | exact q2 _ r2.1 | exact r2 _ q2.1 | exact q1 _ r1.1 | exact r1 _ q1.1 | exact q3 _ r3.1 | exact r3 _ q3.1 | (obtain ⟨z, hz⟩ := r1; exact q1 z hz) | (obtain ⟨z, hz⟩ := q1; exact r1 z hz) | (have e1 := A_u hw bs bs2 q1.1.1 q1.1.2; have e2 := A_u hw bs bs2 q1.2.1.1 q1.2.1.2; omega))
  · intro q1 q2 σ1 c1 f1
    have hM1 := ModelR_f hM f1
    refine ⟨_, rfl, f1, (by decide), ?_⟩
    refine t_X5_without (by omega) hM1 h_x ?_ ?_ ?_
    · intro r1
      exfalso
      (first | omega | exact absurd q1 r1 | exact absurd r1 q1 | exact absurd q2 r2 | exact absurd r2 q2 | (obtain ⟨z, hz⟩ := r2; exact q2 z hz) | (obtain ⟨z, hz⟩ := q2; exact r2 z hz) | exact q2 _ r2.1 | exact r2 _ q2.1 | exact q1 _ r1.1 | exact r1 _ q1.1 | exact q3 _ r3.1 | exact r3 _ q3.1 | (obtain ⟨z, hz⟩ := r1; exact q1 z hz) | (obtain ⟨z, hz⟩ := q1; exact r1 z hz) | (have e1 := A_u hw bs bs2 q1.1.1 q1.1.2; have e2 := A_u hw bs bs2 q1.2.1.1 q1.2.1.2; omega))
    · intro r1 r2 σ2 m2 f2
      exact ⟨rfl, ⟨_, _, _, _, _, ClassR_f c1 f2, m2⟩, f2⟩
    · intro r1 v2 r2 σ2 m2 f2
      exfalso
      (first | omega | exact absurd q1 r1 | exact absurd r1 q1 | exact absurd q2 r2 | exact absurd r2 q2 | (obtain ⟨z, hz⟩ := r2; exact q2 z hz) | (obtain ⟨z, hz⟩ := q2; exact r2 z hz) | exact q2 _ r2.1 | exact r2 _ q2.1 | exact q1 _ r1.1 | exact r1 _ q1.1 | exact q3 _ r3.1 | exact r3 _ q3.1 | (obtain ⟨z, hz⟩ := r1; exact q1 z hz) | (obtain ⟨z, hz⟩ := q1; exact r1 z hz) | (have e1 := A_u hw bs bs2 q1.1.1 q1.1.2; have e2 := A_u hw bs bs2 q1.2.1.1 q1.2.1.2; omega))
  · intro q1 v q2 σ1 c1 f1
    have hM1 := ModelR_f hM f1
    refine ⟨_, rfl, f1, (cost_bd hw (acB0_6 hw (by decide)) q2.1), ?_⟩
    refine t_X5_without (by omega) hM1 h_x ?_ ?_ ?_
    · intro r1
      exfalso
      (first | omega | exact absurd q1 r1 | exact absurd r1 q1 | exact absurd q2 r2 | exact absurd r2 q2 | (obtain ⟨z, hz⟩ := r2; exact q2 z hz) | (obtain ⟨z, hz⟩ := q2; exact r2 z hz) | exact q2 _ r2.1 | exact r2 _ q2.1 | exact q1 _ r1.1 | exact r1 _ q1.1 | exact q3 _ r3.1 | exact r3 _ q3.1 | (obtain ⟨z, hz⟩ := r1; exact q1 z hz) | (obtain ⟨z, hz⟩ := q1; exact r1 z hz) | (have e1 := A_u hw bs bs2 q1.1.1 q1.1.2; have e2 := A_u hw bs bs2 q1.2.1.1 q1.2.1.2; omega))
    · intro r1 r2 σ2 m2 f2
      exfalso
      (first | omega | exact absurd q1 r1 | exact absurd r1 q1 | exact absurd q2 r2 | exact absurd r2 q2 | (obtain ⟨z, hz⟩ := r2; exact q2 z hz) | (obtain ⟨z, hz⟩ := q2; exact r2 z hz) | exact q2 _ r2.1 | exact r2 _ q2.1 | exact q1 _ r1.1 | exact r1 _ q1.1 | exact q3 _ r3.1 | exact r3 _ q3.1 | (obtain ⟨z, hz⟩ := r1; exact q1 z hz) | (obtain ⟨z, hz⟩ := q1; exact r1 z hz) | (have e1 := A_u hw bs bs2 q1.1.1 q1.1.2; have e2 := A_u hw bs bs2 q1.2.1.1 q1.2.1.2; omega))
    · intro r1 v2 r2 σ2 m2 f2
      exact ⟨(by rw [isL_u r2 q2]), ⟨_, _, _, _, _, ClassR_f c1 f2, m2⟩, f2⟩
theorem p_widen {d : Nat} (hd : 7 ≤ d) {σ : Sto} (hR : RelB σ)  : WPd d m_X4_widen [.inr (0, 0)] σ (PQ d m_X5_widen [.inr (26, 0)] σ) := by
  obtain ⟨K, h, HK, tl, tx, hC, hM⟩ := hR
  have hw := hC.2.1
  have n1 := hw.1
  have n2 := hw.2.1
  have hh := hC.2.2.1.2.1
  have ht := hC.2.2.2.1.2.1
  have ki := K_in hw
  refine t_X4_widen (by omega) hC  ?_
  · intro v q1
    have hM1 := hM
    have f1 := frC.rf σ
    have c1 := hC
    refine ⟨_, rfl, f1, (W_bd hw q1), ?_⟩
    refine t_X5_widen (by omega) hM1  ?_
    · intro v2 r1 σ2 m2 f2
      exact ⟨(by rw [isW_u r1 q1]), ⟨_, _, _, _, _, ClassR_f c1 f2, m2⟩, f2⟩
theorem p_costWith {d : Nat} (hd : 7 ≤ d) {σ : Sto} {p a u : Int} (hR : RelB σ) (h_p : inR p) (h_a : inR a) (h_u : inR u) : WPd d m_X4_costWith [.inr (0, 0), .inl p, .inl a, .inl u] σ (PQ d m_X5_costWith [.inr (26, 0), .inl p, .inl a, .inl u] σ) := by
  obtain ⟨K, h, HK, tl, tx, hC, hM⟩ := hR
  have hw := hC.2.1
  have n1 := hw.1
  have n2 := hw.2.1
  have hh := hC.2.2.1.2.1
  have ht := hC.2.2.2.1.2.1
  have ki := K_in hw
  refine t_X4_costWith (by omega) hC h_p h_a h_u ?_ ?_ ?_ ?_
  · intro q1
    have hM1 := hM
    have f1 := frC.rf σ
    have c1 := hC
    refine ⟨_, rfl, f1, (by decide), ?_⟩
    refine t_X5_costWith (by omega) hM1 h_p h_a h_u ?_ ?_ ?_ ?_
    · intro r1
      exact ⟨rfl, ⟨_, _, _, _, _, c1, hM1⟩, frM.rf _⟩
    · intro r1 r2
      exfalso
      (first | omega | exact absurd q1 r1 | exact absurd r1 q1 | exact absurd q2 r2 | exact absurd r2 q2 | (obtain ⟨z, hz⟩ := r2; exact q2 z hz) | (obtain ⟨z, hz⟩ := q2; exact r2 z hz) | exact q2 _ r2.1 | exact r2 _ q2.1 | exact q1 _ r1.1 | exact r1 _ q1.1 | exact q3 _ r3.1 | exact r3 _ q3.1 | (obtain ⟨z, hz⟩ := r1; exact q1 z hz) | (obtain ⟨z, hz⟩ := q1; exact r1 z hz) | (have e1 := A_u hw bs bs2 q1.1.1 q1.1.2; have e2 := A_u hw bs bs2 q1.2.1.1 q1.2.1.2; omega))
    · intro r1 r2 r3 σ2 m2 f2
      exfalso
      (first | omega | exact absurd q1 r1 | exact absurd r1 q1 | exact absurd q2 r2 | exact absurd r2 q2 | (obtain ⟨z, hz⟩ := r2; exact q2 z hz) | (obtain ⟨z, hz⟩ := q2; exact r2 z hz) | exact q2 _ r2.1 | exact r2 _ q2.1 | exact q1 _ r1.1 | exact r1 _ q1.1 | exact q3 _ r3.1 | exact r3 _ q3.1 | (obtain ⟨z, hz⟩ := r1; exact q1 z hz) | (obtain ⟨z, hz⟩ := q1; exact r1 z hz) | (have e1 := A_u hw bs bs2 q1.1.1 q1.1.2; have e2 := A_u hw bs bs2 q1.2.1.1 q1.2.1.2; omega))
    · intro r1 r2 v2 r3 σ2 m2 f2
      exfalso
      (first | omega | exact absurd q1 r1 | exact absurd r1 q1 | exact absurd q2 r2 | exact absurd r2 q2 | (obtain ⟨z, hz⟩ := r2; exact q2 z hz) | (obtain ⟨z, hz⟩ := q2; exact r2 z hz) | exact q2 _ r2.1 | exact r2 _ q2.1 | exact q1 _ r1.1 | exact r1 _ q1.1 | exact q3 _ r3.1 | exact r3 _ q3.1 | (obtain ⟨z, hz⟩ := r1; exact q1 z hz) | (obtain ⟨z, hz⟩ := q1; exact r1 z hz) | (have e1 := A_u hw bs bs2 q1.1.1 q1.1.2; have e2 := A_u hw bs bs2 q1.2.1.1 q1.2.1.2; omega))
  · intro q1 q2
    have hM1 := hM
    have f1 := frC.rf σ
    have c1 := hC
    refine ⟨_, rfl, f1, (by decide), ?_⟩
    refine t_X5_costWith (by omega) hM1 h_p h_a h_u ?_ ?_ ?_ ?_
    · intro r1
      exfalso
      (first | omega | exact absurd q1 r1 | exact absurd r1 q1 | exact absurd q2 r2 | exact absurd r2 q2 | (obtain ⟨z, hz⟩ := r2; exact q2 z hz) | (obtain ⟨z, hz⟩ := q2; exact r2 z hz) | exact q2 _ r2.1 | exact r2 _ q2.1 | exact q1 _ r1.1 | exact r1 _ q1.1 | exact q3 _ r3.1 | exact r3 _ q3.1 | (obtain ⟨z, hz⟩ := r1; exact q1 z hz) | (obtain ⟨z, hz⟩ := q1; exact r1 z hz) | (have e1 := A_u hw bs bs2 q1.1.1 q1.1.2; have e2 := A_u hw bs bs2 q1.2.1.1 q1.2.1.2; omega))
    · intro r1 r2
      exact ⟨rfl, ⟨_, _, _, _, _, c1, hM1⟩, frM.rf _⟩
    · intro r1 r2 r3 σ2 m2 f2
      exfalso
      (first | omega | exact absurd q1 r1 | exact absurd r1 q1 | exact absurd q2 r2 | exact absurd r2 q2 | (obtain ⟨z, hz⟩ := r2; exact q2 z hz) | (obtain ⟨z, hz⟩ := q2; exact r2 z hz) | exact q2 _ r2.1 | exact r2 _ q2.1 | exact q1 _ r1.1 | exact r1 _ q1.1 | exact q3 _ r3.1 | exact r3 _ q3.1 | (obtain ⟨z, hz⟩ := r1; exact q1 z hz) | (obtain ⟨z, hz⟩ := q1; exact r1 z hz) | (have e1 := A_u hw bs bs2 q1.1.1 q1.1.2; have e2 := A_u hw bs bs2 q1.2.1.1 q1.2.1.2; omega))
    · intro r1 r2 v2 r3 σ2 m2 f2
      exfalso
      (first | omega | exact absurd q1 r1 | exact absurd r1 q1 | exact absurd q2 r2 | exact absurd r2 q2 | (obtain ⟨z, hz⟩ := r2; exact q2 z hz) | (obtain ⟨z, hz⟩ := q2; exact r2 z hz) | exact q2 _ r2.1 | exact r2 _ q2.1 | exact q1 _ r1.1 | exact r1 _ q1.1 | exact q3 _ r3.1 | exact r3 _ q3.1 | (obtain ⟨z, hz⟩ := r1; exact q1 z hz) | (obtain ⟨z, hz⟩ := q1; exact r1 z hz) | (have e1 := A_u hw bs bs2 q1.1.1 q1.1.2; have e2 := A_u hw bs bs2 q1.2.1.1 q1.2.1.2; omega))
  · intro q1 q2 q3 σ1 c1 f1
    have hM1 := ModelR_f hM f1
    refine ⟨_, rfl, f1, (by decide), ?_⟩
    refine t_X5_costWith (by omega) hM1 h_p h_a h_u ?_ ?_ ?_ ?_
    · intro r1
      exfalso
      (first | omega | exact absurd q1 r1 | exact absurd r1 q1 | exact absurd q2 r2 | exact absurd r2 q2 | (obtain ⟨z, hz⟩ := r2; exact q2 z hz) | (obtain ⟨z, hz⟩ := q2; exact r2 z hz) | exact q2 _ r2.1 | exact r2 _ q2.1 | exact q1 _ r1.1 | exact r1 _ q1.1 | exact q3 _ r3.1 | exact r3 _ q3.1 | (obtain ⟨z, hz⟩ := r1; exact q1 z hz) | (obtain ⟨z, hz⟩ := q1; exact r1 z hz) | (have e1 := A_u hw bs bs2 q1.1.1 q1.1.2; have e2 := A_u hw bs bs2 q1.2.1.1 q1.2.1.2; omega))
    · intro r1 r2
      exfalso
      (first | omega | exact absurd q1 r1 | exact absurd r1 q1 | exact absurd q2 r2 | exact absurd r2 q2 | (obtain ⟨z, hz⟩ := r2; exact q2 z hz) | (obtain ⟨z, hz⟩ := q2; exact r2 z hz) | exact q2 _ r2.1 | exact r2 _ q2.1 | exact q1 _ r1.1 | exact r1 _ q1.1 | exact q3 _ r3.1 | exact r3 _ q3.1 | (obtain ⟨z, hz⟩ := r1; exact q1 z hz) | (obtain ⟨z, hz⟩ := q1; exact r1 z hz) | (have e1 := A_u hw bs bs2 q1.1.1 q1.1.2; have e2 := A_u hw bs bs2 q1.2.1.1 q1.2.1.2; omega))
    · intro r1 r2 r3 σ2 m2 f2
      exact ⟨rfl, ⟨_, _, _, _, _, ClassR_f c1 f2, m2⟩, f2⟩
    · intro r1 r2 v2 r3 σ2 m2 f2
      exfalso
      (first | omega | exact absurd q1 r1 | exact absurd r1 q1 | exact absurd q2 r2 | exact absurd r2 q2 | (obtain ⟨z, hz⟩ := r2; exact q2 z hz) | (obtain ⟨z, hz⟩ := q2; exact r2 z hz) | exact q2 _ r2.1 | exact r2 _ q2.1 | exact q1 _ r1.1 | exact r1 _ q1.1 | exact q3 _ r3.1 | exact r3 _ q3.1 | (obtain ⟨z, hz⟩ := r1; exact q1 z hz) | (obtain ⟨z, hz⟩ := q1; exact r1 z hz) | (have e1 := A_u hw bs bs2 q1.1.1 q1.1.2; have e2 := A_u hw bs bs2 q1.2.1.1 q1.2.1.2; omega))
  · intro q1 q2 v q3 σ1 c1 f1
    have hM1 := ModelR_f hM f1
    refine ⟨_, rfl, f1, (cost_bd hw (acG_g hw (by decide) (by omega)) q3.1), ?_⟩
    refine t_X5_costWith (by omega) hM1 h_p h_a h_u ?_ ?_ ?_ ?_
    · intro r1
      exfalso
      (first | omega | exact absurd q1 r1 | exact absurd r1 q1 | exact absurd q2 r2 | exact absurd r2 q2 | (obtain ⟨z, hz⟩ := r2; exact q2 z hz) | (obtain ⟨z, hz⟩ := q2; exact r2 z hz) | exact q2 _ r2.1 | exact r2 _ q2.1 | exact q1 _ r1.1 | exact r1 _ q1.1 | exact q3 _ r3.1 | exact r3 _ q3.1 | (obtain ⟨z, hz⟩ := r1; exact q1 z hz) | (obtain ⟨z, hz⟩ := q1; exact r1 z hz) | (have e1 := A_u hw bs bs2 q1.1.1 q1.1.2; have e2 := A_u hw bs bs2 q1.2.1.1 q1.2.1.2; omega))
    · intro r1 r2
      exfalso
      (first | omega | exact absurd q1 r1 | exact absurd r1 q1 | exact absurd q2 r2 | exact absurd r2 q2 | (obtain ⟨z, hz⟩ := r2; exact q2 z hz) | (obtain ⟨z, hz⟩ := q2; exact r2 z hz) | exact q2 _ r2.1 | exact r2 _ q2.1 | exact q1 _ r1.1 | exact r1 _ q1.1 | exact q3 _ r3.1 | exact r3 _ q3.1 | (obtain ⟨z, hz⟩ := r1; exact q1 z hz) | (obtain ⟨z, hz⟩ := q1; exact r1 z hz) | (have e1 := A_u hw bs bs2 q1.1.1 q1.1.2; have e2 := A_u hw bs bs2 q1.2.1.1 q1.2.1.2; omega))
    · intro r1 r2 r3 σ2 m2 f2
      exfalso
      (first | omega | exact absurd q1 r1 | exact absurd r1 q1 | exact absurd q2 r2 | exact absurd r2 q2 | (obtain ⟨z, hz⟩ := r2; exact q2 z hz) | (obtain ⟨z, hz⟩ := q2; exact r2 z hz) | exact q2 _ r2.1 | exact r2 _ q2.1 | exact q1 _ r1.1 | exact r1 _ q1.1 | exact q3 _ r3.1 | exact r3 _ q3.1 | (obtain ⟨z, hz⟩ := r1; exact q1 z hz) | (obtain ⟨z, hz⟩ := q1; exact r1 z hz) | (have e1 := A_u hw bs bs2 q1.1.1 q1.1.2; have e2 := A_u hw bs bs2 q1.2.1.1 q1.2.1.2; omega))
    · intro r1 r2 v2 r3 σ2 m2 f2
      exact ⟨(by rw [isL_u r3 q3]), ⟨_, _, _, _, _, ClassR_f c1 f2, m2⟩, f2⟩
theorem p_type {d : Nat} (hd : 7 ≤ d) {σ : Sto} {x : Int} (hR : RelB σ) (h_x : inR x) : WPd d m_X4_type [.inr (0, 0), .inl x] σ (PQ d m_X5_type [.inr (26, 0), .inl x] σ) := by
  obtain ⟨K, h, HK, tl, tx, hC, hM⟩ := hR
  have hw := hC.2.1
  have n1 := hw.1
  have n2 := hw.2.1
  have hh := hC.2.2.1.2.1
  have ht := hC.2.2.2.1.2.1
  have ki := K_in hw
  refine t_X4_type (by omega) hC h_x ?_ ?_ ?_
  · intro q1
    have hM1 := hM
    have f1 := frC.rf σ
    have c1 := hC
    refine ⟨_, rfl, f1, (by decide), ?_⟩
    refine t_X5_type (by omega) hM1 h_x ?_ ?_ ?_
    · intro r1
      exact ⟨rfl, ⟨_, _, _, _, _, c1, hM1⟩, frM.rf _⟩
    · intro r1 r2
      exfalso
      (first | omega | exact absurd q1 r1 | exact absurd r1 q1 | exact absurd q2 r2 | exact absurd r2 q2 | (obtain ⟨z, hz⟩ := r2; exact q2 z hz) | (obtain ⟨z, hz⟩ := q2; exact r2 z hz) | exact q2 _ r2.1 | exact r2 _ q2.1 | exact q1 _ r1.1 | exact r1 _ q1.1 | exact q3 _ r3.1 | exact r3 _ q3.1 | (obtain ⟨z, hz⟩ := r1; exact q1 z hz) | (obtain ⟨z, hz⟩ := q1; exact r1 z hz) | (have e1 := A_u hw bs bs2 q1.1.1 q1.1.2; have e2 := A_u hw bs bs2 q1.2.1.1 q1.2.1.2; omega))
    · intro r1 r2 σ2 m2 f2
      exfalso
      (first | omega | exact absurd q1 r1 | exact absurd r1 q1 | exact absurd q2 r2 | exact absurd r2 q2 | (obtain ⟨z, hz⟩ := r2; exact q2 z hz) | (obtain ⟨z, hz⟩ := q2; exact r2 z hz) | exact q2 _ r2.1 | exact r2 _ q2.1 | exact q1 _ r1.1 | exact r1 _ q1.1 | exact q3 _ r3.1 | exact r3 _ q3.1 | (obtain ⟨z, hz⟩ := r1; exact q1 z hz) | (obtain ⟨z, hz⟩ := q1; exact r1 z hz) | (have e1 := A_u hw bs bs2 q1.1.1 q1.1.2; have e2 := A_u hw bs bs2 q1.2.1.1 q1.2.1.2; omega))
  · intro q1 q2
    have hM1 := hM
    have f1 := frC.rf σ
    have c1 := hC
    refine ⟨_, rfl, f1, (by decide), ?_⟩
    refine t_X5_type (by omega) hM1 h_x ?_ ?_ ?_
    · intro r1
      exfalso
      (first | omega | exact absurd q1 r1 | exact absurd r1 q1 | exact absurd q2 r2 | exact absurd r2 q2 | (obtain ⟨z, hz⟩ := r2; exact q2 z hz) | (obtain ⟨z, hz⟩ := q2; exact r2 z hz) | exact q2 _ r2.1 | exact r2 _ q2.1 | exact q1 _ r1.1 | exact r1 _ q1.1 | exact q3 _ r3.1 | exact r3 _ q3.1 | (obtain ⟨z, hz⟩ := r1; exact q1 z hz) | (obtain ⟨z, hz⟩ := q1; exact r1 z hz) | (have e1 := A_u hw bs bs2 q1.1.1 q1.1.2; have e2 := A_u hw bs bs2 q1.2.1.1 q1.2.1.2; omega))
    · intro r1 r2
      exact ⟨rfl, ⟨_, _, _, _, _, c1, hM1⟩, frM.rf _⟩
    · intro r1 r2 σ2 m2 f2
      exfalso
      (first | omega | exact absurd q1 r1 | exact absurd r1 q1 | exact absurd q2 r2 | exact absurd r2 q2 | (obtain ⟨z, hz⟩ := r2; exact q2 z hz) | (obtain ⟨z, hz⟩ := q2; exact r2 z hz) | exact q2 _ r2.1 | exact r2 _ q2.1 | exact q1 _ r1.1 | exact r1 _ q1.1 | exact q3 _ r3.1 | exact r3 _ q3.1 | (obtain ⟨z, hz⟩ := r1; exact q1 z hz) | (obtain ⟨z, hz⟩ := q1; exact r1 z hz) | (have e1 := A_u hw bs bs2 q1.1.1 q1.1.2; have e2 := A_u hw bs bs2 q1.2.1.1 q1.2.1.2; omega))
  · intro q1 q2 σ1 c1 f1
    have hM1 := ModelR_f hM f1
    refine ⟨_, rfl, f1, (by omega), ?_⟩
    refine t_X5_type (by omega) hM1 h_x ?_ ?_ ?_
    · intro r1
      exfalso
      (first | omega | exact absurd q1 r1 | exact absurd r1 q1 | exact absurd q2 r2 | exact absurd r2 q2 | (obtain ⟨z, hz⟩ := r2; exact q2 z hz) | (obtain ⟨z, hz⟩ := q2; exact r2 z hz) | exact q2 _ r2.1 | exact r2 _ q2.1 | exact q1 _ r1.1 | exact r1 _ q1.1 | exact q3 _ r3.1 | exact r3 _ q3.1 | (obtain ⟨z, hz⟩ := r1; exact q1 z hz) | (obtain ⟨z, hz⟩ := q1; exact r1 z hz) | (have e1 := A_u hw bs bs2 q1.1.1 q1.1.2; have e2 := A_u hw bs bs2 q1.2.1.1 q1.2.1.2; omega))
    · intro r1 r2
      exfalso
      (first | omega | exact absurd q1 r1 | exact absurd r1 q1 | exact absurd q2 r2 | exact absurd r2 q2 | (obtain ⟨z, hz⟩ := r2; exact q2 z hz) | (obtain ⟨z, hz⟩ := q2; exact r2 z hz) | exact q2 _ r2.1 | exact r2 _ q2.1 | exact q1 _ r1.1 | exact r1 _ q1.1 | exact q3 _ r3.1 | exact r3 _ q3.1 | (obtain ⟨z, hz⟩ := r1; exact q1 z hz) | (obtain ⟨z, hz⟩ := q1; exact r1 z hz) | (have e1 := A_u hw bs bs2 q1.1.1 q1.1.2; have e2 := A_u hw bs bs2 q1.2.1.1 q1.2.1.2; omega))
    · intro r1 r2 σ2 m2 f2
      exact ⟨rfl, ⟨_, _, _, _, _, ClassR_f c1 f2, m2⟩, f2⟩
theorem p_clearText {d : Nat} (hd : 7 ≤ d) {σ : Sto} (hR : RelB σ)  : WPd d m_X4_clearText [.inr (0, 0)] σ (PQ d m_X5_clearText [.inr (26, 0)] σ) := by
  obtain ⟨K, h, HK, tl, tx, hC, hM⟩ := hR
  have hw := hC.2.1
  have n1 := hw.1
  have n2 := hw.2.1
  have hh := hC.2.2.1.2.1
  have ht := hC.2.2.2.1.2.1
  have ki := K_in hw
  refine t_X4_clearText (by omega) hC  ?_
  · intro σ1 c1 f1
    have hM1 := ModelR_f hM f1
    refine ⟨_, rfl, f1, (by omega), ?_⟩
    refine t_X5_clearText (by omega) hM1  ?_
    · intro σ2 m2 f2
      exact ⟨rfl, ⟨_, _, _, _, _, ClassR_f c1 f2, m2⟩, f2⟩
theorem p_fault {d : Nat} (hd : 7 ≤ d) {σ : Sto} (hR : RelB σ)  : WPd d m_X4_fault [.inr (0, 0)] σ (PQ d m_X5_fault [.inr (26, 0)] σ) := by
  obtain ⟨K, h, HK, tl, tx, hC, hM⟩ := hR
  have hw := hC.2.1
  have n1 := hw.1
  have n2 := hw.2.1
  have hh := hC.2.2.1.2.1
  have ht := hC.2.2.2.1.2.1
  have ki := K_in hw
  refine t_X4_fault (by omega) hC  ?_
  · intro σ1 c1 f1
    have hM1 := ModelR_f hM f1
    refine ⟨_, rfl, f1, (by have := parF_b (tl := tl) (tx := tx) 90 0 emK (by omega) (by omega) emK_wf; omega), ?_⟩
    refine t_X5_faultA (by omega) hM1  ?_
    · intro σ2 m2 f2
      exact ⟨rfl, ⟨_, _, _, _, _, ClassR_f c1 f2, m2⟩, f2⟩
