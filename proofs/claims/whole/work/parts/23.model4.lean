/-! THE MODEL: its other changes -/
theorem t_X5_setLayer {d : Nat} (hd : 3 ≤ d) {σ : Sto} {Q : Post} {K : KV} {h : Int} {HK : Int → KV} {tl : Int} {tx : Int → Int} {i w v : Int} (hC : ModelR σ K h HK tl tx) (hi : inR i) (hw0 : inR w) (hv : inR v) (hbad : ¬ ((0 ≤ i ∧ i < K 7 0) ∧ (0 ≤ w ∧ w ≤ 2) ∧ (lowP w ≤ v ∧ v ≤ topP w)) → Q (some (.inl (-1))) σ) (hok : (0 ≤ i ∧ i < K 7 0) ∧ (0 ≤ w ∧ w ≤ 2) ∧ (lowP w ≤ v ∧ v ≤ topP w) → ∀ σ', ModelR σ' (setLK K i w v) (min 6 (h + 1)) (pushH h HK K) tl tx → frM σ σ' → Q (some (.inl (K w.toNat i))) σ') : WPd d m_X5_setLayer [.inr (26, 0), .inl i, .inl w, .inl v] σ Q := by
  obtain ⟨d, rfl⟩ : ∃ k, d = k + 1 := ⟨d - 1, by omega⟩
  intro P hP
  obtain ⟨rfl, hw, hh, htx⟩ := hC
  have hn := hw.1
  rw [vm_n] at hn hbad hok
  (refine go (t := tb_X5_setLayer) (WPd_mono d) hP 80 [] ?_; (conv => whnf); (repeat' (first | (refine ⟨fun _ => ?_, fun _ => ?_⟩ <;> first | (exfalso; omega) | (conv => whnf)) | (refine ⟨by omega, ?_⟩; conv => whnf) | (intro _; conv => whnf))))
  refine t_X5_isLayer (by omega) hi hn (fun q1 => ?_) (fun q => ?_)
  · ((conv => whnf); (repeat' (first | (refine ⟨fun _ => ?_, fun _ => ?_⟩ <;> first | (exfalso; omega) | (conv => whnf)) | (refine ⟨by omega, ?_⟩; conv => whnf) | (intro _; conv => whnf))))
    refine t_X5_in (by omega) hw0 (by omega) (by omega) (fun q2 => ?_) (fun q => ?_)
    · obtain ⟨v0, v1, v2⟩ := vm_in.1 q1.1 q1.2
      have fin : ∀ (r : Int), r = vwM (σ 27 0) w.toNat i → (lowP w ≤ v ∧ v ≤ topP w) → (w = 0 ∧ 1 ≤ v ∧ v ≤ 99) ∨ (w = 1 ∧ 0 ≤ v ∧ v ≤ 2) ∨ (w = 2 ∧ 0 ≤ v ∧ v ≤ 20) → ∀ σ1 : Sto, HistM σ1 (min 6 (h + 1)) (pushH h HK (vwM (σ 27 0))) → (∀ k i, k ≠ 26 → k ≠ 28 → σ1 k i = σ k i) → (∀ j, j ≠ 2 → σ1 26 0 j = σ 26 0 j) → ∀ x, x = 1 + 50 * w + i → Q (some (.inl r)) (upS σ1 27 0 x v) := by
        intro r hr0 q3 q4 σ1 g1 o1 o3 x hx
        subst hx
        have e1 : σ1 27 0 = σ 27 0 := o1 27 0 (by omega) (by omega)
        have e2 : vwM (upS σ1 27 0 (1 + 50 * w + i) v 27 0) = setLK (vwM (σ 27 0)) i w v := by
          rw [upS_setR, setR_same, e1]
          exact set_vm q2 q1 hn.2
        obtain ⟨r1, r2⟩ := ModelR_chg g1 o1 o3 (fun k i hk => by rw [up_k hk]) htx e2 (WFK_setL hw (by rw [vm_n]; exact q1) q4)
        rw [hr0]
        exact hok ⟨q1, q2, q3⟩ _ r1 r2
      have hb2 : ∀ (a b : Int), lowP w = a → topP w = b → ¬ (a ≤ v ∧ v ≤ b) → Q (some (.inl (-1))) σ := fun a b h1 h2 h3 => hbad (fun e => h3 (by rw [← h1, ← h2]; exact e.2.2))
      ((conv => whnf); (repeat' (first | (refine ⟨fun _ => ?_, fun _ => ?_⟩ <;> first | (exfalso; omega) | (conv => whnf)) | (refine ⟨by omega, ?_⟩; conv => whnf) | (intro _; conv => whnf))))
      · have ew : w = 2 := by omega
        subst ew
        refine t_X5_in (by omega) hv (by omega) (by omega) (fun q3 => ?_) (fun q => ?_)
        · ((conv => whnf); (repeat' (first | (refine ⟨fun _ => ?_, fun _ => ?_⟩ <;> first | (exfalso; omega) | (conv => whnf)) | (refine ⟨by omega, ?_⟩; conv => whnf) | (intro _; conv => whnf))))
          refine t_X5_records (by omega) hh hw (fun σ1 g1 o1 o3 => ?_)
          ((conv => whnf); (repeat' (first | (refine ⟨fun _ => ?_, fun _ => ?_⟩ <;> first | (exfalso; omega) | (conv => whnf)) | (refine ⟨by omega, ?_⟩; conv => whnf) | (intro _; conv => whnf))))
          refine fin _ ?_ q3 (by omega) σ1 g1 o1 o3 _ (by omega)
          show _ = vwM (σ 27 0) 2 i
          rw [o1 27 0 (by omega) (by omega), v2]
          congr 1
          all_goals omega
        · ((conv => whnf); (repeat' (first | (refine ⟨fun _ => ?_, fun _ => ?_⟩ <;> first | (exfalso; omega) | (conv => whnf)) | (refine ⟨by omega, ?_⟩; conv => whnf) | (intro _; conv => whnf))))
          exact hb2 _ _ rfl rfl q
      · have ew : w = 1 := by omega
        subst ew
        refine t_X5_in (by omega) hv (by omega) (by omega) (fun q3 => ?_) (fun q => ?_)
        · ((conv => whnf); (repeat' (first | (refine ⟨fun _ => ?_, fun _ => ?_⟩ <;> first | (exfalso; omega) | (conv => whnf)) | (refine ⟨by omega, ?_⟩; conv => whnf) | (intro _; conv => whnf))))
          refine t_X5_records (by omega) hh hw (fun σ1 g1 o1 o3 => ?_)
          ((conv => whnf); (repeat' (first | (refine ⟨fun _ => ?_, fun _ => ?_⟩ <;> first | (exfalso; omega) | (conv => whnf)) | (refine ⟨by omega, ?_⟩; conv => whnf) | (intro _; conv => whnf))))
          refine fin _ ?_ q3 (by omega) σ1 g1 o1 o3 _ (by omega)
          show _ = vwM (σ 27 0) 1 i
          rw [o1 27 0 (by omega) (by omega), v1]
          congr 1
          all_goals omega
        · ((conv => whnf); (repeat' (first | (refine ⟨fun _ => ?_, fun _ => ?_⟩ <;> first | (exfalso; omega) | (conv => whnf)) | (refine ⟨by omega, ?_⟩; conv => whnf) | (intro _; conv => whnf))))
          exact hb2 _ _ rfl rfl q
      · have ew : w = 0 := by omega
        subst ew
        refine t_X5_in (by omega) hv (by omega) (by omega) (fun q3 => ?_) (fun q => ?_)
        · ((conv => whnf); (repeat' (first | (refine ⟨fun _ => ?_, fun _ => ?_⟩ <;> first | (exfalso; omega) | (conv => whnf)) | (refine ⟨by omega, ?_⟩; conv => whnf) | (intro _; conv => whnf))))
          refine t_X5_records (by omega) hh hw (fun σ1 g1 o1 o3 => ?_)
          ((conv => whnf); (repeat' (first | (refine ⟨fun _ => ?_, fun _ => ?_⟩ <;> first | (exfalso; omega) | (conv => whnf)) | (refine ⟨by omega, ?_⟩; conv => whnf) | (intro _; conv => whnf))))
          refine fin _ ?_ q3 (by omega) σ1 g1 o1 o3 _ (by omega)
          show _ = vwM (σ 27 0) 0 i
          rw [o1 27 0 (by omega) (by omega), v0]
          congr 1
          all_goals omega
        · ((conv => whnf); (repeat' (first | (refine ⟨fun _ => ?_, fun _ => ?_⟩ <;> first | (exfalso; omega) | (conv => whnf)) | (refine ⟨by omega, ?_⟩; conv => whnf) | (intro _; conv => whnf))))
          exact hb2 _ _ rfl rfl q
    · ((conv => whnf); (repeat' (first | (refine ⟨fun _ => ?_, fun _ => ?_⟩ <;> first | (exfalso; omega) | (conv => whnf)) | (refine ⟨by omega, ?_⟩; conv => whnf) | (intro _; conv => whnf))))
      exact hbad (fun e => q e.2.1)
  · ((conv => whnf); (repeat' (first | (refine ⟨fun _ => ?_, fun _ => ?_⟩ <;> first | (exfalso; omega) | (conv => whnf)) | (refine ⟨by omega, ?_⟩; conv => whnf) | (intro _; conv => whnf))))
    exact hbad (fun e => q e.1)
theorem t_X5_addAsh {d : Nat} (hd : 4 ≤ d) {σ : Sto} {Q : Post} {K : KV} {h : Int} {HK : Int → KV} {tl : Int} {tx : Int → Int} {p a u : Int} (hC : ModelR σ K h HK tl tx) (hp : inR p) (ha : inR a) (hu : inR u) (hbad : ¬ ((1 ≤ p ∧ p ≤ K 7 0) ∧ (0 ≤ a ∧ a ≤ 500) ∧ (0 ≤ u ∧ u ≤ 9)) → Q (some (.inl (-1))) σ) (htwo : (1 ≤ p ∧ p ≤ K 7 0) ∧ (0 ≤ a ∧ a ≤ 500) ∧ (0 ≤ u ∧ u ≤ 9) → axK K p ≠ -1 → Q (some (.inl (-2))) σ) (hful : (1 ≤ p ∧ p ≤ K 7 0) ∧ (0 ≤ a ∧ a ≤ 500) ∧ (0 ≤ u ∧ u ≤ 9) → axK K p = -1 → K 7 1 = 6 → Q (some (.inl (-3))) σ) (hok : (1 ≤ p ∧ p ≤ K 7 0) ∧ (0 ≤ a ∧ a ≤ 500) ∧ (0 ≤ u ∧ u ≤ 9) → axK K p = -1 → K 7 1 < 6 → ∀ σ', ModelR σ' (insAK K (nxK K p) p a u) (min 6 (h + 1)) (pushH h HK K) tl tx → frM σ σ' → Q (some (.inl (nxK K p))) σ') : WPd d m_X5_addAsh [.inr (26, 0), .inl p, .inl a, .inl u] σ Q := by
  obtain ⟨d, rfl⟩ : ∃ k, d = k + 1 := ⟨d - 1, by omega⟩
  intro P hP
  obtain ⟨rfl, hw, hh, htx⟩ := hC
  have hn := hw.1
  have hm := hw.2.1
  have hcut := nxK_cut hw p
  have hinc := hw.2.2.2.2.1
  rw [vm_n] at hn hbad htwo hful hok
  rw [vm_a] at hm hful hok hcut hinc
  have bx := axK_of (vwM (σ 27 0)) p hw.2.1.1
  rw [vm_a] at bx
  (refine go (t := tb_X5_addAsh) (WPd_mono d) hP 80 [53, 153] ?_; (conv => whnf); (repeat' (first | (refine ⟨fun _ => ?_, fun _ => ?_⟩ <;> first | (exfalso; omega) | (conv => whnf)) | (refine ⟨by omega, ?_⟩; conv => whnf) | (intro _; conv => whnf))))
  refine t_X5_isNewAsh (by omega) hp ha hu hn (fun q1 => ?_) (fun q => ?_)
  · ((conv => whnf); (repeat' (first | (refine ⟨fun _ => ?_, fun _ => ?_⟩ <;> first | (exfalso; omega) | (conv => whnf)) | (refine ⟨by omega, ?_⟩; conv => whnf) | (intro _; conv => whnf))))
    refine t_X5_ashAt (by omega) hp hm ?_
    ((conv => whnf); (repeat' (first | (refine ⟨fun _ => ?_, fun _ => ?_⟩ <;> first | (exfalso; omega) | (conv => whnf)) | (refine ⟨by omega, ?_⟩; conv => whnf) | (intro _; conv => whnf))))
    · refine t_X5_records (by omega) hh hw (fun σ1 g1 o1 o3 => ?_)
      have hax : axK (vwM (σ 27 0)) p = -1 := by omega
      have e1 : σ1 27 0 = σ 27 0 := o1 27 0 (by omega) (by omega)
      have F : ∀ (x : Int) (τ : Sto), 0 ≤ x → x ≤ σ 27 0 151 → (∀ k i, k ≠ 27 → τ k i = σ1 k i) → (∀ j, τ 27 0 j = if (152 + x < j ∧ j ≤ 152 + σ 27 0 151) ∨ (158 + x < j ∧ j ≤ 158 + σ 27 0 151) ∨ (164 + x < j ∧ j ≤ 164 + σ 27 0 151) then σ 27 0 (j - 1) else σ 27 0 j) → (∀ j, x ≤ j → j < σ 27 0 151 → p < σ 27 0 (152 + j)) → (x ≠ 0 → σ 27 0 (152 + x - 1) ≤ p) → P 153 [.inr (26, 0), .inl p, .inl a, .inl u, .inl x] [] τ := by
        intro x τ x0 x1 ho f0 f1 f2
        have ex : x = nxK (vwM (σ 27 0)) p := by
          have g2 : x ≠ 0 → x - 1 < nxK (vwM (σ 27 0)) p := fun h0 => by
            have c := f2 h0
            rcases bx with b | b
            · have c2 := b.2 (x - 1) (by omega) (by omega)
              by_cases q : x - 1 < nxK (vwM (σ 27 0)) p
              · exact q
              · have c3 := hcut.2.2 (x - 1) (by omega) (by omega)
                rw [(vm_in.2.1 (show 0 ≤ x - 1 by omega) (by omega)).1, show 152 + (x - 1) = 152 + x - 1 by omega] at c2 c3
                omega
            · omega
          have g3 : nxK (vwM (σ 27 0)) p ≤ x := by
            by_cases q : nxK (vwM (σ 27 0)) p ≤ x
            · exact q
            · have c := hcut.2.1 x x0 (by omega)
              rw [(vm_in.2.1 x0 (by omega)).1] at c
              have := f1 x (by omega) (by omega)
              omega
          omega
        have c := f0 151
        rw [if_neg (by omega)] at c
        (refine go (t := tb_X5_addAsh) (WPd_mono d) hP 80 [53, 153] ?_; (conv => whnf); (repeat' (first | (refine ⟨fun _ => ?_, fun _ => ?_⟩ <;> first | (exfalso; omega) | (conv => whnf)) | (refine ⟨by omega, ?_⟩; conv => whnf) | (intro _; conv => whnf))))
        ((repeat ((try simp only [setR_same, setR_nk, upS_setR, cpS_setR, setR_setR, ne_eq, Nat.reduceEqDiff, not_false_eq_true, Int.reduceEq, ↓reduceIte]); refine ⟨by omega, ?_⟩; ((conv => whnf); (repeat' (first | (refine ⟨fun _ => ?_, fun _ => ?_⟩ <;> first | (exfalso; omega) | (conv => whnf)) | (refine ⟨by omega, ?_⟩; conv => whnf) | (intro _; conv => whnf)))))); (try simp only [setR_same, setR_nk, upS_setR, cpS_setR, setR_setR, ne_eq, Nat.reduceEqDiff, not_false_eq_true, Int.reduceEq, ↓reduceIte]))
        rw [if_neg (by omega), if_neg (by omega), if_neg (by omega)] at *
        have e2 : vwM (setR τ 27 0 (fun j' => if j' = 151 then τ 27 0 151 + 1 else if j' = 164 + x then u else if j' = 158 + x then a else if j' = 152 + x then p else τ 27 0 j') 27 0) = insAK (vwM (σ 27 0)) (nxK (vwM (σ 27 0)) p) p a u := by
          (try simp only [setR_same, setR_nk, upS_setR, cpS_setR, setR_setR, ne_eq, Nat.reduceEqDiff, not_false_eq_true, Int.reduceEq, ↓reduceIte])
          rw [← ex, vm_mk (n := σ 27 0 0) (a := σ 27 0 151 + 1) (f0 := fun j => σ 27 0 (1 + j)) (f1 := fun j => σ 27 0 (51 + j)) (f2 := fun j => σ 27 0 (101 + j)) (f3 := insF (fun j => σ 27 0 (152 + j)) x (σ 27 0 151) p) (f4 := insF (fun j => σ 27 0 (158 + j)) x (σ 27 0 151) a) (f5 := insF (fun j => σ 27 0 (164 + j)) x (σ 27 0 151) u) (f6 := fun j => σ 27 0 (170 + j)) ?_ ?_ (fun j j0 j1 => ?_) (fun j j0 j1 => ?_) (fun j j0 j1 => ?_)]
          · exact insAK_mk x0 x1
          · (try simp only [setR_same, setR_nk, upS_setR, cpS_setR, setR_setR, ne_eq, Nat.reduceEqDiff, not_false_eq_true, Int.reduceEq, ↓reduceIte])
            simp only [f0]
            ((repeat' split) <;> first | rfl | (exfalso; omega) | (congr 1; omega) | omega)
          · (try simp only [setR_same, setR_nk, upS_setR, cpS_setR, setR_setR, ne_eq, Nat.reduceEqDiff, not_false_eq_true, Int.reduceEq, ↓reduceIte])
            omega
          · (try simp only [setR_same, setR_nk, upS_setR, cpS_setR, setR_setR, ne_eq, Nat.reduceEqDiff, not_false_eq_true, Int.reduceEq, ↓reduceIte])
            simp only [f0]
            refine ⟨?_, ?_, ?_⟩ <;> ((repeat' split) <;> first | rfl | (exfalso; omega) | (congr 1; omega) | omega)
          · simp only [insF, f0]
            refine ⟨?_, ?_, ?_⟩ <;> ((repeat' split) <;> first | rfl | (exfalso; omega) | (congr 1; omega) | omega)
          · (try simp only [setR_same, setR_nk, upS_setR, cpS_setR, setR_setR, ne_eq, Nat.reduceEqDiff, not_false_eq_true, Int.reduceEq, ↓reduceIte])
            simp only [f0]
            ((repeat' split) <;> first | rfl | (exfalso; omega) | (congr 1; omega) | omega)
        obtain ⟨r1, r2⟩ := ModelR_chg g1 o1 o3 (fun k i hk => by rw [setR_nk hk]; exact ho k i hk) htx e2 (WFK_insA hw (by rw [vm_a]; omega) (by rw [vm_n]; exact q1.1) q1.2.1 q1.2.2 hax)
        have r3 := hok q1 hax (by omega) _ r1 r2
        rwa [← ex] at r3
      have L : ∀ (n : Nat) (x : Int) (τ : Sto), n = x.toNat → 0 ≤ x → x ≤ σ 27 0 151 → (∀ k i, k ≠ 27 → τ k i = σ1 k i) → (∀ j, τ 27 0 j = if (152 + x < j ∧ j ≤ 152 + σ 27 0 151) ∨ (158 + x < j ∧ j ≤ 158 + σ 27 0 151) ∨ (164 + x < j ∧ j ≤ 164 + σ 27 0 151) then σ 27 0 (j - 1) else σ 27 0 j) → (∀ j, x ≤ j → j < σ 27 0 151 → p < σ 27 0 (152 + j)) → P 53 [.inr (26, 0), .inl p, .inl a, .inl u, .inl x] [] τ := by
        intro n
        induction n with
        | zero =>
          intro x τ hn0 a0 a1 ho f0 f1
          (refine go (t := tb_X5_addAsh) (WPd_mono d) hP 80 [53, 153] ?_; (conv => whnf); (repeat' (first | (refine ⟨fun _ => ?_, fun _ => ?_⟩ <;> first | (exfalso; omega) | (conv => whnf)) | (refine ⟨by omega, ?_⟩; conv => whnf) | (intro _; conv => whnf))))
          exact F x τ a0 a1 ho f0 f1 (fun h0 => by omega)
        | succ n ih =>
          intro x τ hn0 a0 a1 ho f0 f1
          have c := f0 (152 + x - 1)
          rw [if_neg (by omega)] at c
          (refine go (t := tb_X5_addAsh) (WPd_mono d) hP 80 [53, 153] ?_; (conv => whnf); (repeat' (first | (refine ⟨fun _ => ?_, fun _ => ?_⟩ <;> first | (exfalso; omega) | (conv => whnf)) | (refine ⟨by omega, ?_⟩; conv => whnf) | (intro _; conv => whnf))))
          · exact F x τ a0 a1 ho f0 f1 (fun h0 => by omega)
          · refine ih (x + (-1)) _ (by omega) (by omega) (by omega) (fun k i hk => by rw [up_k hk, up_k hk, up_k hk]; exact ho k i hk) (fun j => ?_) (fun j j0 j1 => ?_)
            · simp only [upS_setR, setR_setR, setR_same]
              simp only [f0]
              ((repeat' split) <;> first | rfl | (exfalso; omega) | (congr 1; omega) | omega)
            · by_cases e : x ≤ j
              · exact f1 j e j1
              · have : j = x - 1 := by omega
                rw [show 152 + j = 152 + x - 1 by omega]
                omega
      ((conv => whnf); (repeat' (first | (refine ⟨fun _ => ?_, fun _ => ?_⟩ <;> first | (exfalso; omega) | (conv => whnf)) | (refine ⟨by omega, ?_⟩; conv => whnf) | (intro _; conv => whnf))))
      rw [e1]
      refine L _ _ σ1 rfl (by omega) (by omega) (fun k i hk => rfl) (fun j => ?_) (fun j j0 j1 => by omega)
      rw [if_neg (by omega), e1]
    · exact hful q1 (by omega) (by omega)
    · exact htwo q1 (by omega)
  · ((conv => whnf); (repeat' (first | (refine ⟨fun _ => ?_, fun _ => ?_⟩ <;> first | (exfalso; omega) | (conv => whnf)) | (refine ⟨by omega, ?_⟩; conv => whnf) | (intro _; conv => whnf))))
    exact hbad q
theorem t_X5_removeAsh {d : Nat} (hd : 3 ≤ d) {σ : Sto} {Q : Post} {K : KV} {h : Int} {HK : Int → KV} {tl : Int} {tx : Int → Int} {x : Int} (hC : ModelR σ K h HK tl tx) (hx : inR x) (hbad : ¬ (0 ≤ x ∧ x < K 7 1) → Q (some (.inl (-1))) σ) (hok : 0 ≤ x ∧ x < K 7 1 → ∀ σ', ModelR σ' (delAK K x) (min 6 (h + 1)) (pushH h HK K) tl tx → frM σ σ' → Q (some (.inl (K 7 1 - 1))) σ') : WPd d m_X5_removeAsh [.inr (26, 0), .inl x] σ Q := by
  obtain ⟨d, rfl⟩ : ∃ k, d = k + 1 := ⟨d - 1, by omega⟩
  intro P hP
  obtain ⟨rfl, hw, hh, htx⟩ := hC
  have hn := hw.1
  have hm := hw.2.1
  rw [vm_n] at hn
  rw [vm_a] at hm hbad hok
  (refine go (t := tb_X5_removeAsh) (WPd_mono d) hP 60 [] ?_; (conv => whnf); (repeat' (first | (refine ⟨fun _ => ?_, fun _ => ?_⟩ <;> first | (exfalso; omega) | (conv => whnf)) | (refine ⟨by omega, ?_⟩; conv => whnf) | (intro _; conv => whnf))))
  refine t_X5_isAsh (by omega) hx hm (fun q1 => ?_) (fun q => ?_)
  · ((conv => whnf); (repeat' (first | (refine ⟨fun _ => ?_, fun _ => ?_⟩ <;> first | (exfalso; omega) | (conv => whnf)) | (refine ⟨by omega, ?_⟩; conv => whnf) | (intro _; conv => whnf))))
    refine t_X5_records (by omega) hh hw (fun σ1 g1 o1 o3 => ?_)
    have e1 : σ1 27 0 = σ 27 0 := o1 27 0 (by omega) (by omega)
    ((conv => whnf); (repeat' (first | (refine ⟨fun _ => ?_, fun _ => ?_⟩ <;> first | (exfalso; omega) | (conv => whnf)) | (refine ⟨by omega, ?_⟩; conv => whnf) | (intro _; conv => whnf))))
    refine t_X5_drops (by omega) (by rw [e1]; omega) (by rw [e1]; exact hm) (by rw [e1]; exact q1) (fun σ2 d1 d2 => ?_)
    rw [e1] at d1
    have e7 : σ2 27 0 151 = σ 27 0 151 - 1 := by
      rw [← vm_a (σ2 27 0), d1]
      rfl
    obtain ⟨r1, r2⟩ := ModelR_chg g1 o1 o3 d2 htx d1 (WFK_delA hw (by rw [vm_a]; exact q1))
    ((conv => whnf); (repeat' (first | (refine ⟨fun _ => ?_, fun _ => ?_⟩ <;> first | (exfalso; omega) | (conv => whnf)) | (refine ⟨by omega, ?_⟩; conv => whnf) | (intro _; conv => whnf))))
    rw [e7]
    exact hok q1 σ2 r1 r2
  · ((conv => whnf); (repeat' (first | (refine ⟨fun _ => ?_, fun _ => ?_⟩ <;> first | (exfalso; omega) | (conv => whnf)) | (refine ⟨by omega, ?_⟩; conv => whnf) | (intro _; conv => whnf))))
    exact hbad q
theorem t_X5_set {d : Nat} (hd : 3 ≤ d) {σ : Sto} {Q : Post} {K : KV} {h : Int} {HK : Int → KV} {tl : Int} {tx : Int → Int} {w v : Int} (hC : ModelR σ K h HK tl tx) (hw0 : inR w) (hv : inR v) (hbad : ¬ ((0 ≤ w ∧ w ≤ 3) ∧ (0 ≤ v ∧ v ≤ 50)) → Q (some (.inl (-1))) σ) (hok : (0 ≤ w ∧ w ≤ 3) ∧ (0 ≤ v ∧ v ≤ 50) → ∀ σ', ModelR σ' (setSK K w v) (min 6 (h + 1)) (pushH h HK K) tl tx → frM σ σ' → Q (some (.inl (K 6 w))) σ') : WPd d m_X5_set [.inr (26, 0), .inl w, .inl v] σ Q := by
  obtain ⟨d, rfl⟩ : ∃ k, d = k + 1 := ⟨d - 1, by omega⟩
  intro P hP
  obtain ⟨rfl, hw, hh, htx⟩ := hC
  have hn := hw.1
  have hm := hw.2.1
  rw [vm_n] at hn
  rw [vm_a] at hm
  (refine go (t := tb_X5_set) (WPd_mono d) hP 60 [] ?_; (conv => whnf); (repeat' (first | (refine ⟨fun _ => ?_, fun _ => ?_⟩ <;> first | (exfalso; omega) | (conv => whnf)) | (refine ⟨by omega, ?_⟩; conv => whnf) | (intro _; conv => whnf))))
  refine t_X5_in (by omega) hw0 (by omega) (by omega) (fun q1 => ?_) (fun q => ?_)
  · ((conv => whnf); (repeat' (first | (refine ⟨fun _ => ?_, fun _ => ?_⟩ <;> first | (exfalso; omega) | (conv => whnf)) | (refine ⟨by omega, ?_⟩; conv => whnf) | (intro _; conv => whnf))))
    refine t_X5_in (by omega) hv (by omega) (by omega) (fun q2 => ?_) (fun q => ?_)
    · ((conv => whnf); (repeat' (first | (refine ⟨fun _ => ?_, fun _ => ?_⟩ <;> first | (exfalso; omega) | (conv => whnf)) | (refine ⟨by omega, ?_⟩; conv => whnf) | (intro _; conv => whnf))))
      refine t_X5_records (by omega) hh hw (fun σ1 g1 o1 o3 => ?_)
      have e1 : σ1 27 0 = σ 27 0 := o1 27 0 (by omega) (by omega)
      have e2 : vwM (upS σ1 27 0 (170 + w) v 27 0) = setSK (vwM (σ 27 0)) w v := by
        rw [upS_setR, setR_same, e1]
        exact setS_vm (by omega) hn.2 hm.2
      obtain ⟨r1, r2⟩ := ModelR_chg g1 o1 o3 (fun k i hk => by rw [up_k hk]) htx e2 (WFK_setS hw q2)
      ((conv => whnf); (repeat' (first | (refine ⟨fun _ => ?_, fun _ => ?_⟩ <;> first | (exfalso; omega) | (conv => whnf)) | (refine ⟨by omega, ?_⟩; conv => whnf) | (intro _; conv => whnf))))
      rw [e1, ← (vm_in (f := σ 27 0)).2.2 q1.1 (by omega)]
      exact hok ⟨q1, q2⟩ _ r1 r2
    · ((conv => whnf); (repeat' (first | (refine ⟨fun _ => ?_, fun _ => ?_⟩ <;> first | (exfalso; omega) | (conv => whnf)) | (refine ⟨by omega, ?_⟩; conv => whnf) | (intro _; conv => whnf))))
      exact hbad (fun e => q e.2)
  · ((conv => whnf); (repeat' (first | (refine ⟨fun _ => ?_, fun _ => ?_⟩ <;> first | (exfalso; omega) | (conv => whnf)) | (refine ⟨by omega, ?_⟩; conv => whnf) | (intro _; conv => whnf))))
    exact hbad (fun e => q e.1)
theorem t_X5_undo {d : Nat} (hd : 3 ≤ d) {σ : Sto} {Q : Post} {K : KV} {h : Int} {HK : Int → KV} {tl : Int} {tx : Int → Int} (hC : ModelR σ K h HK tl tx) (hbad : h = 0 → Q (some (.inl (-2))) σ) (hok : 0 < h → ∀ σ', ModelR σ' (HK (h - 1)) (h - 1) HK tl tx → frM σ σ' → Q (some (.inl (h - 1))) σ') : WPd d m_X5_undo [.inr (26, 0)] σ Q := by
  obtain ⟨d, rfl⟩ : ∃ k, d = k + 1 := ⟨d - 1, by omega⟩
  intro P hP
  obtain ⟨rfl, hw, hh, htx⟩ := hC
  obtain ⟨h1, h2, h3⟩ := id hh
  have L : ∀ (n : Nat) (k : Int) (τ : Sto), 0 < h → n = (174 - k).toNat → 0 ≤ k → k ≤ 174 → τ 26 0 2 = h - 1 → (∀ j, j ≠ 2 → τ 26 0 j = σ 26 0 j) → (∀ k i, k ≠ 26 → k ≠ 27 → τ k i = σ k i) → (∀ j, τ 27 0 j = if 0 ≤ j ∧ j < k then σ 28 0 (174 * (h - 1) + j) else σ 27 0 j) → P 22 [.inr (26, 0), .inl k] [] τ := by
    intro n
    induction n with
    | zero =>
      intro k τ hp hn0 k0 k1 e1 e2 e3 e4
      have ek : k = 174 := by omega
      subst ek
      obtain ⟨g1, g2⟩ := h3 (h - 1) (by omega) (by omega)
      have e5 : vwM (τ 27 0) = HK (h - 1) := by
        rw [← g1] at g2 ⊢
        have wn := g2.1
        have wa := g2.2.1
        rw [vm_n] at wn
        rw [vm_a] at wa
        refine (vm_cg (fun j j0 j1 => ?_) wn.2 wa.2).symm
        rw [e4, if_pos (by omega)]
      (refine go (t := tb_X5_undo) (WPd_mono d) hP 60 [22] ?_; (conv => whnf); (repeat' (first | (refine ⟨fun _ => ?_, fun _ => ?_⟩ <;> first | (exfalso; omega) | (conv => whnf)) | (refine ⟨by omega, ?_⟩; conv => whnf) | (intro _; conv => whnf))))
      rw [e1]
      refine hok hp τ ⟨e5, g2, ⟨e1, by omega, fun s s0 s1 => ?_⟩, TxtM_off htx (e2 4 (by omega)) (e3 29 0 (by omega) (by omega))⟩ (fun k i hk => e3 k i (by omega) (by omega))
      rw [e3 28 0 (by omega) (by omega)]
      exact h3 s s0 (by omega)
    | succ n ih =>
      intro k τ hp hn0 k0 k1 e1 e2 e3 e4
      have hk : k < 174 := by omega
      (refine go (t := tb_X5_undo) (WPd_mono d) hP 60 [22] ?_; (conv => whnf); (repeat' (first | (refine ⟨fun _ => ?_, fun _ => ?_⟩ <;> first | (exfalso; omega) | (conv => whnf)) | (refine ⟨by omega, ?_⟩; conv => whnf) | (intro _; conv => whnf))))
      rw [e1]
      ((conv => whnf); (repeat' (first | (refine ⟨fun _ => ?_, fun _ => ?_⟩ <;> first | (exfalso; omega) | (conv => whnf)) | (refine ⟨by omega, ?_⟩; conv => whnf) | (intro _; conv => whnf))))
      refine ih (k + 1) _ hp (by omega) (by omega) (by omega) (by rw [up_k (by decide)]; exact e1) (fun j hj => by rw [up_k (by decide)]; exact e2 j hj) (fun k i a b => by rw [up_k b]; exact e3 k i a b) (fun j => ?_)
      by_cases a : j = k
      · rw [a, up_hit, if_pos (by omega), e3 28 0 (by omega) (by omega)]
      · rw [up_j a, e4]
        ((repeat' split) <;> first | rfl | (exfalso; omega) | (congr 1; omega) | omega)
  (refine go (t := tb_X5_undo) (WPd_mono d) hP 60 [22] ?_; (conv => whnf); (repeat' (first | (refine ⟨fun _ => ?_, fun _ => ?_⟩ <;> first | (exfalso; omega) | (conv => whnf)) | (refine ⟨by omega, ?_⟩; conv => whnf) | (intro _; conv => whnf))))
  · refine L _ 0 _ (by omega) rfl (by omega) (by omega) (by rw [up_hit, h1]) (fun j hj => by rw [up_j hj]) (fun k i a b => by rw [up_k a]) (fun j => ?_)
    rw [up_k (by decide), if_neg (by omega)]
  · exact hbad (by omega)
theorem t_X5_thickness {d : Nat} (hd : 1 ≤ d) {σ : Sto} {Q : Post} {u v : Int} (hu : 0 ≤ u ∧ u ≤ v ∧ v ≤ 50) (h : Q (some (.inl (sumF (fun j => σ 27 0 (1 + j)) (v - u).toNat u))) σ) : WPd d m_X5_thickness [.inr (26, 0), .inl u, .inl v] σ Q := by
  obtain ⟨d, rfl⟩ : ∃ k, d = k + 1 := ⟨d - 1, by omega⟩
  intro P hP
  have L : ∀ (n : Nat) (s i : Int), n = (v - i).toNat → 0 ≤ i → i ≤ v → Q (some (.inl (s + sumF (fun j => σ 27 0 (1 + j)) n i))) σ → P 5 [.inr (26, 0), .inl u, .inl v, .inl s, .inl i] [] σ := by
    intro n
    induction n with
    | zero =>
      intro s i hn0 h0 h1 hq
      (refine go (t := tb_X5_thickness) (WPd_mono d) hP 30 [5] ?_; (conv => whnf); (repeat' (first | (refine ⟨fun _ => ?_, fun _ => ?_⟩ <;> first | (exfalso; omega) | (conv => whnf)) | (refine ⟨by omega, ?_⟩; conv => whnf) | (intro _; conv => whnf))))
      rwa [sumF, Int.add_zero] at hq
    | succ n ih =>
      intro s i hn0 h0 h1 hq
      (refine go (t := tb_X5_thickness) (WPd_mono d) hP 30 [5] ?_; (conv => whnf); (repeat' (first | (refine ⟨fun _ => ?_, fun _ => ?_⟩ <;> first | (exfalso; omega) | (conv => whnf)) | (refine ⟨by omega, ?_⟩; conv => whnf) | (intro _; conv => whnf))))
      exact ih _ (i + 1) (by omega) (by omega) (by omega) (by rwa [sumF, ← Int.add_assoc] at hq)
  (refine go (t := tb_X5_thickness) (WPd_mono d) hP 30 [5] ?_; (conv => whnf); (repeat' (first | (refine ⟨fun _ => ?_, fun _ => ?_⟩ <;> first | (exfalso; omega) | (conv => whnf)) | (refine ⟨by omega, ?_⟩; conv => whnf) | (intro _; conv => whnf))))
  exact L _ 0 u rfl (by omega) (by omega) (by rwa [Int.zero_add])
theorem t_X5_ofKind {d : Nat} (hd : 1 ≤ d) {σ : Sto} {Q : Post} {w : Int} (hw : inR w) (hn : 0 ≤ σ 27 0 0 ∧ σ 27 0 0 ≤ 50) (h : Q (some (.inl (cntF (fun j => σ 27 0 (51 + j)) w (σ 27 0 0).toNat 0))) σ) : WPd d m_X5_ofKind [.inr (26, 0), .inl w] σ Q := by
  obtain ⟨d, rfl⟩ : ∃ k, d = k + 1 := ⟨d - 1, by omega⟩
  intro P hP
  have L : ∀ (n : Nat) (s i : Int), n = (σ 27 0 0 - i).toNat → 0 ≤ i → i ≤ σ 27 0 0 → Q (some (.inl (s + cntF (fun j => σ 27 0 (51 + j)) w n i))) σ → P 4 [.inr (26, 0), .inl w, .inl s, .inl i] [] σ := by
    intro n
    induction n with
    | zero =>
      intro s i hn0 h0 h1 hq
      (refine go (t := tb_X5_ofKind) (WPd_mono d) hP 30 [4] ?_; (conv => whnf); (repeat' (first | (refine ⟨fun _ => ?_, fun _ => ?_⟩ <;> first | (exfalso; omega) | (conv => whnf)) | (refine ⟨by omega, ?_⟩; conv => whnf) | (intro _; conv => whnf))))
      rwa [cntF, Int.add_zero] at hq
    | succ n ih =>
      intro s i hn0 h0 h1 hq
      (refine go (t := tb_X5_ofKind) (WPd_mono d) hP 30 [4] ?_; (conv => whnf); (repeat' (first | (refine ⟨fun _ => ?_, fun _ => ?_⟩ <;> first | (exfalso; omega) | (conv => whnf)) | (refine ⟨by omega, ?_⟩; conv => whnf) | (intro _; conv => whnf))))
      · exact ih _ (i + 1) (by omega) (by omega) (by omega) (by rw [Int.add_zero]; rwa [cntF, if_neg (by assumption), Int.zero_add] at hq)
      · exact ih _ (i + 1) (by omega) (by omega) (by omega) (by rwa [cntF, if_pos (by assumption), ← Int.add_assoc] at hq)
  (refine go (t := tb_X5_ofKind) (WPd_mono d) hP 30 [4] ?_; (conv => whnf); (repeat' (first | (refine ⟨fun _ => ?_, fun _ => ?_⟩ <;> first | (exfalso; omega) | (conv => whnf)) | (refine ⟨by omega, ?_⟩; conv => whnf) | (intro _; conv => whnf))))
  exact L (σ 27 0 0).toNat 0 0 (by omega) (by omega) (by omega) (by rwa [Int.zero_add])
theorem t_X5_count {d : Nat} (hd : 2 ≤ d) {σ : Sto} {Q : Post} {K : KV} {h : Int} {HK : Int → KV} {tl : Int} {tx : Int → Int} {w : Int} (hC : ModelR σ K h HK tl tx) (hw0 : inR w) (hq : Q (some (.inl (if w = 0 then K 7 0 else if w = 1 then K 7 1 else if w = 2 then sumF (K 0) (K 7 0).toNat 0 else if w = 3 then cntF (K 1) 1 (K 7 0).toNat 0 else if w = 4 then cntF (K 1) 2 (K 7 0).toNat 0 else if w = 5 then K 6 0 else if w = 6 then K 6 1 else if w = 7 then K 6 2 else if w = 8 then K 6 3 else if w = 9 then h else -1))) σ) : WPd d m_X5_count [.inr (26, 0), .inl w] σ Q := by
  obtain ⟨d, rfl⟩ : ∃ k, d = k + 1 := ⟨d - 1, by omega⟩
  intro P hP
  obtain ⟨rfl, hw, hh, htx⟩ := hC
  have hn := hw.1
  rw [vm_n] at hn
  have hm := hw.2.1
  rw [vm_a] at hm
  have es : sumF (vwM (σ 27 0) 0) (σ 27 0 0).toNat 0 = sumF (fun j => σ 27 0 (1 + j)) (σ 27 0 0).toNat 0 := sumF_cg _ _ fun j j0 j1 => (vm_in.1 j0 (by omega)).1
  have ec : ∀ w, cntF (vwM (σ 27 0) 1) w (σ 27 0 0).toNat 0 = cntF (fun j => σ 27 0 (51 + j)) w (σ 27 0 0).toNat 0 := fun w => cntF_cg _ _ fun j j0 j1 => (vm_in.1 j0 (by omega)).2.1
  rw [vm_n, vm_a, es, ec 1, ec 2, vm_in.2.2 (by omega) (by omega), vm_in.2.2 (by omega) (by omega), vm_in.2.2 (by omega) (by omega), vm_in.2.2 (by omega) (by omega)] at hq
  (refine go (t := tb_X5_count) (WPd_mono d) hP 60 [] ?_; (conv => whnf); (repeat' (first | (refine ⟨fun _ => ?_, fun _ => ?_⟩ <;> first | (exfalso; omega) | (conv => whnf)) | (refine ⟨by omega, ?_⟩; conv => whnf) | (intro _; conv => whnf))))
  refine ⟨fun q => ?_, ?_⟩
  · have q : w < 0 ∨ 10 ≤ w := q
    ((conv => whnf); (repeat' (first | (refine ⟨fun _ => ?_, fun _ => ?_⟩ <;> first | (exfalso; omega) | (conv => whnf)) | (refine ⟨by omega, ?_⟩; conv => whnf) | (intro _; conv => whnf))))
    rwa [if_neg (by omega), if_neg (by omega), if_neg (by omega), if_neg (by omega), if_neg (by omega), if_neg (by omega), if_neg (by omega), if_neg (by omega), if_neg (by omega), if_neg (by omega)] at hq
  · (conv => whnf)
    refine ⟨fun q => ?_, ?_⟩
    · subst q
      ((conv => whnf); (repeat' (first | (refine ⟨fun _ => ?_, fun _ => ?_⟩ <;> first | (exfalso; omega) | (conv => whnf)) | (refine ⟨by omega, ?_⟩; conv => whnf) | (intro _; conv => whnf))))
      exact hq
    (conv => whnf)
    refine ⟨fun q => ?_, ?_⟩
    · have q : w = 1 := q
      subst q
      ((conv => whnf); (repeat' (first | (refine ⟨fun _ => ?_, fun _ => ?_⟩ <;> first | (exfalso; omega) | (conv => whnf)) | (refine ⟨by omega, ?_⟩; conv => whnf) | (intro _; conv => whnf))))
      exact hq
    (conv => whnf)
    refine ⟨fun q => ?_, ?_⟩
    · have q : w = 2 := q
      subst q
      ((conv => whnf); (repeat' (first | (refine ⟨fun _ => ?_, fun _ => ?_⟩ <;> first | (exfalso; omega) | (conv => whnf)) | (refine ⟨by omega, ?_⟩; conv => whnf) | (intro _; conv => whnf))))
      refine t_X5_thickness (by omega) (by omega) ?_
      ((conv => whnf); (repeat' (first | (refine ⟨fun _ => ?_, fun _ => ?_⟩ <;> first | (exfalso; omega) | (conv => whnf)) | (refine ⟨by omega, ?_⟩; conv => whnf) | (intro _; conv => whnf))))
      rw [show σ 27 0 0 - 0 = σ 27 0 0 by omega]
      exact hq
    (conv => whnf)
    refine ⟨fun q => ?_, ?_⟩
    · have q : w = 3 := q
      subst q
      ((conv => whnf); (repeat' (first | (refine ⟨fun _ => ?_, fun _ => ?_⟩ <;> first | (exfalso; omega) | (conv => whnf)) | (refine ⟨by omega, ?_⟩; conv => whnf) | (intro _; conv => whnf))))
      refine t_X5_ofKind (by omega) (by omega) hn ?_
      ((conv => whnf); (repeat' (first | (refine ⟨fun _ => ?_, fun _ => ?_⟩ <;> first | (exfalso; omega) | (conv => whnf)) | (refine ⟨by omega, ?_⟩; conv => whnf) | (intro _; conv => whnf))))
      exact hq
    (conv => whnf)
    refine ⟨fun q => ?_, ?_⟩
    · have q : w = 4 := q
      subst q
      ((conv => whnf); (repeat' (first | (refine ⟨fun _ => ?_, fun _ => ?_⟩ <;> first | (exfalso; omega) | (conv => whnf)) | (refine ⟨by omega, ?_⟩; conv => whnf) | (intro _; conv => whnf))))
      refine t_X5_ofKind (by omega) (by omega) hn ?_
      ((conv => whnf); (repeat' (first | (refine ⟨fun _ => ?_, fun _ => ?_⟩ <;> first | (exfalso; omega) | (conv => whnf)) | (refine ⟨by omega, ?_⟩; conv => whnf) | (intro _; conv => whnf))))
      exact hq
    (conv => whnf)
    refine ⟨fun q => ?_, ?_⟩
    · have q : w = 5 := q
      subst q
      ((conv => whnf); (repeat' (first | (refine ⟨fun _ => ?_, fun _ => ?_⟩ <;> first | (exfalso; omega) | (conv => whnf)) | (refine ⟨by omega, ?_⟩; conv => whnf) | (intro _; conv => whnf))))
      exact hq
    (conv => whnf)
    refine ⟨fun q => ?_, ?_⟩
    · have q : w = 6 := q
      subst q
      ((conv => whnf); (repeat' (first | (refine ⟨fun _ => ?_, fun _ => ?_⟩ <;> first | (exfalso; omega) | (conv => whnf)) | (refine ⟨by omega, ?_⟩; conv => whnf) | (intro _; conv => whnf))))
      exact hq
    (conv => whnf)
    refine ⟨fun q => ?_, ?_⟩
    · have q : w = 7 := q
      subst q
      ((conv => whnf); (repeat' (first | (refine ⟨fun _ => ?_, fun _ => ?_⟩ <;> first | (exfalso; omega) | (conv => whnf)) | (refine ⟨by omega, ?_⟩; conv => whnf) | (intro _; conv => whnf))))
      exact hq
    (conv => whnf)
    refine ⟨fun q => ?_, ?_⟩
    · have q : w = 8 := q
      subst q
      ((conv => whnf); (repeat' (first | (refine ⟨fun _ => ?_, fun _ => ?_⟩ <;> first | (exfalso; omega) | (conv => whnf)) | (refine ⟨by omega, ?_⟩; conv => whnf) | (intro _; conv => whnf))))
      exact hq
    (conv => whnf)
    refine ⟨fun q => ?_, trivial⟩
    have q : w = 9 := q
    subst q
    ((conv => whnf); (repeat' (first | (refine ⟨fun _ => ?_, fun _ => ?_⟩ <;> first | (exfalso; omega) | (conv => whnf)) | (refine ⟨by omega, ?_⟩; conv => whnf) | (intro _; conv => whnf))))
    rw [hh.1]
    exact hq
theorem t_X5_layer {d : Nat} (hd : 3 ≤ d) {σ : Sto} {Q : Post} {K : KV} {h : Int} {HK : Int → KV} {tl : Int} {tx : Int → Int} {i w : Int} (hC : ModelR σ K h HK tl tx) (hi : inR i) (hw0 : inR w) (hbad : ¬ ((0 ≤ i ∧ i < K 7 0) ∧ (0 ≤ w ∧ w ≤ 2)) → Q (some (.inl (-1))) σ) (hok : (0 ≤ i ∧ i < K 7 0) ∧ (0 ≤ w ∧ w ≤ 2) → Q (some (.inl (K w.toNat i))) σ) : WPd d m_X5_layer [.inr (26, 0), .inl i, .inl w] σ Q := by
  obtain ⟨d, rfl⟩ : ∃ k, d = k + 1 := ⟨d - 1, by omega⟩
  intro P hP
  obtain ⟨rfl, hw, hh, htx⟩ := hC
  have hn := hw.1
  rw [vm_n] at hn hbad hok
  (refine go (t := tb_X5_layer) (WPd_mono d) hP 60 [] ?_; (conv => whnf); (repeat' (first | (refine ⟨fun _ => ?_, fun _ => ?_⟩ <;> first | (exfalso; omega) | (conv => whnf)) | (refine ⟨by omega, ?_⟩; conv => whnf) | (intro _; conv => whnf))))
  refine t_X5_isLayer (by omega) hi hn (fun q1 => ?_) (fun q => ?_)
  · ((conv => whnf); (repeat' (first | (refine ⟨fun _ => ?_, fun _ => ?_⟩ <;> first | (exfalso; omega) | (conv => whnf)) | (refine ⟨by omega, ?_⟩; conv => whnf) | (intro _; conv => whnf))))
    refine t_X5_in (by omega) hw0 (by omega) (by omega) (fun q2 => ?_) (fun q => ?_)
    · obtain ⟨v0, v1, v2⟩ := vm_in.1 q1.1 q1.2
      have hok := hok ⟨q1, q2⟩
      have e : vwM (σ 27 0) w.toNat i = σ 27 0 (1 + 50 * w + i) := by
        rcases (show w = 0 ∨ w = 1 ∨ w = 2 by omega) with e | e | e <;> subst e
        · show vwM (σ 27 0) 0 i = _
          rw [v0]
          congr 1
        · show vwM (σ 27 0) 1 i = _
          rw [v1]
          congr 1
        · show vwM (σ 27 0) 2 i = _
          rw [v2]
          congr 1
      rw [e] at hok
      ((conv => whnf); (repeat' (first | (refine ⟨fun _ => ?_, fun _ => ?_⟩ <;> first | (exfalso; omega) | (conv => whnf)) | (refine ⟨by omega, ?_⟩; conv => whnf) | (intro _; conv => whnf))))
      exact hok
    · ((conv => whnf); (repeat' (first | (refine ⟨fun _ => ?_, fun _ => ?_⟩ <;> first | (exfalso; omega) | (conv => whnf)) | (refine ⟨by omega, ?_⟩; conv => whnf) | (intro _; conv => whnf))))
      exact hbad (fun e => q e.2)
  · ((conv => whnf); (repeat' (first | (refine ⟨fun _ => ?_, fun _ => ?_⟩ <;> first | (exfalso; omega) | (conv => whnf)) | (refine ⟨by omega, ?_⟩; conv => whnf) | (intro _; conv => whnf))))
    exact hbad (fun e => q e.1)
theorem t_X5_ash {d : Nat} (hd : 3 ≤ d) {σ : Sto} {Q : Post} {K : KV} {h : Int} {HK : Int → KV} {tl : Int} {tx : Int → Int} {i w : Int} (hC : ModelR σ K h HK tl tx) (hi : inR i) (hw0 : inR w) (hbad : ¬ ((0 ≤ i ∧ i < K 7 1) ∧ (0 ≤ w ∧ w ≤ 2)) → Q (some (.inl (-1))) σ) (hok : (0 ≤ i ∧ i < K 7 1) ∧ (0 ≤ w ∧ w ≤ 2) → Q (some (.inl (K (3 + w.toNat) i))) σ) : WPd d m_X5_ash [.inr (26, 0), .inl i, .inl w] σ Q := by
  obtain ⟨d, rfl⟩ : ∃ k, d = k + 1 := ⟨d - 1, by omega⟩
  intro P hP
  obtain ⟨rfl, hw, hh, htx⟩ := hC
  have hn := hw.2.1
  rw [vm_a] at hn hbad hok
  (refine go (t := tb_X5_ash) (WPd_mono d) hP 60 [] ?_; (conv => whnf); (repeat' (first | (refine ⟨fun _ => ?_, fun _ => ?_⟩ <;> first | (exfalso; omega) | (conv => whnf)) | (refine ⟨by omega, ?_⟩; conv => whnf) | (intro _; conv => whnf))))
  refine t_X5_isAsh (by omega) hi hn (fun q1 => ?_) (fun q => ?_)
  · ((conv => whnf); (repeat' (first | (refine ⟨fun _ => ?_, fun _ => ?_⟩ <;> first | (exfalso; omega) | (conv => whnf)) | (refine ⟨by omega, ?_⟩; conv => whnf) | (intro _; conv => whnf))))
    refine t_X5_in (by omega) hw0 (by omega) (by omega) (fun q2 => ?_) (fun q => ?_)
    · obtain ⟨v0, v1, v2⟩ := vm_in.2.1 q1.1 q1.2
      have hok := hok ⟨q1, q2⟩
      have e : vwM (σ 27 0) (3 + w.toNat) i = σ 27 0 (152 + 6 * w + i) := by
        rcases (show w = 0 ∨ w = 1 ∨ w = 2 by omega) with e | e | e <;> subst e
        · show vwM (σ 27 0) 3 i = _
          rw [v0]
          congr 1
        · show vwM (σ 27 0) 4 i = _
          rw [v1]
          congr 1
        · show vwM (σ 27 0) 5 i = _
          rw [v2]
          congr 1
      rw [e] at hok
      ((conv => whnf); (repeat' (first | (refine ⟨fun _ => ?_, fun _ => ?_⟩ <;> first | (exfalso; omega) | (conv => whnf)) | (refine ⟨by omega, ?_⟩; conv => whnf) | (intro _; conv => whnf))))
      exact hok
    · ((conv => whnf); (repeat' (first | (refine ⟨fun _ => ?_, fun _ => ?_⟩ <;> first | (exfalso; omega) | (conv => whnf)) | (refine ⟨by omega, ?_⟩; conv => whnf) | (intro _; conv => whnf))))
      exact hbad (fun e => q e.2)
  · ((conv => whnf); (repeat' (first | (refine ⟨fun _ => ?_, fun _ => ?_⟩ <;> first | (exfalso; omega) | (conv => whnf)) | (refine ⟨by omega, ?_⟩; conv => whnf) | (intro _; conv => whnf))))
    exact hbad (fun e => q e.1)
theorem t_X5_type {d : Nat} (hd : 2 ≤ d) {σ : Sto} {Q : Post} {K : KV} {h : Int} {HK : Int → KV} {tl : Int} {tx : Int → Int} {x : Int} (hC : ModelR σ K h HK tl tx) (hx : inR x) (hbad : ¬ (32 ≤ x ∧ x ≤ 126) → Q (some (.inl (-1))) σ) (hful : (32 ≤ x ∧ x ≤ 126) → tl = 90 → Q (some (.inl (-3))) σ) (hok : (32 ≤ x ∧ x ≤ 126) → tl < 90 → ∀ σ', ModelR σ' K h HK (tl + 1) (fun j => if j = tl then x else tx j) → frM σ σ' → Q (some (.inl (tl + 1))) σ') : WPd d m_X5_type [.inr (26, 0), .inl x] σ Q := by
  obtain ⟨d, rfl⟩ : ∃ k, d = k + 1 := ⟨d - 1, by omega⟩
  intro P hP
  obtain ⟨rfl, hw, hh, ⟨t1, t2, t3⟩⟩ := hC
  (refine go (t := tb_X5_type) (WPd_mono d) hP 60 [] ?_; (conv => whnf); (repeat' (first | (refine ⟨fun _ => ?_, fun _ => ?_⟩ <;> first | (exfalso; omega) | (conv => whnf)) | (refine ⟨by omega, ?_⟩; conv => whnf) | (intro _; conv => whnf))))
  refine t_X5_in (by omega) hx (by omega) (by omega) (fun q1 => ?_) (fun q => ?_)
  · ((conv => whnf); (repeat' (first | (refine ⟨fun _ => ?_, fun _ => ?_⟩ <;> first | (exfalso; omega) | (conv => whnf)) | (refine ⟨by omega, ?_⟩; conv => whnf) | (intro _; conv => whnf))))
    · rw [up_k (by decide)]
      ((repeat ((try simp only [setR_same, setR_nk, upS_setR, cpS_setR, setR_setR, ne_eq, Nat.reduceEqDiff, not_false_eq_true, Int.reduceEq, ↓reduceIte]); refine ⟨by omega, ?_⟩; ((conv => whnf); (repeat' (first | (refine ⟨fun _ => ?_, fun _ => ?_⟩ <;> first | (exfalso; omega) | (conv => whnf)) | (refine ⟨by omega, ?_⟩; conv => whnf) | (intro _; conv => whnf)))))); (try simp only [setR_same, setR_nk, upS_setR, cpS_setR, setR_setR, ne_eq, Nat.reduceEqDiff, not_false_eq_true, Int.reduceEq, ↓reduceIte]))
      rw [t1]
      refine hok q1 (by omega) _ ⟨by (try simp only [setR_same, setR_nk, upS_setR, cpS_setR, setR_setR, ne_eq, Nat.reduceEqDiff, not_false_eq_true, Int.reduceEq, ↓reduceIte]), hw, HistM_off hh (by (try simp only [setR_same, setR_nk, upS_setR, cpS_setR, setR_setR, ne_eq, Nat.reduceEqDiff, not_false_eq_true, Int.reduceEq, ↓reduceIte])) (by (try simp only [setR_same, setR_nk, upS_setR, cpS_setR, setR_setR, ne_eq, Nat.reduceEqDiff, not_false_eq_true, Int.reduceEq, ↓reduceIte])), ⟨by (try simp only [setR_same, setR_nk, upS_setR, cpS_setR, setR_setR, ne_eq, Nat.reduceEqDiff, not_false_eq_true, Int.reduceEq, ↓reduceIte]), by omega, fun j j0 j1 => ?_⟩⟩ (fun k i hk => by rw [setR_nk (by omega), setR_nk (by omega)])
      (try simp only [setR_same, setR_nk, upS_setR, cpS_setR, setR_setR, ne_eq, Nat.reduceEqDiff, not_false_eq_true, Int.reduceEq, ↓reduceIte])
      by_cases e : j = tl
      · rw [if_pos e, if_pos e]
        exact ⟨rfl, q1⟩
      · rw [if_neg e, if_neg e]
        exact t3 j j0 (by omega)
    · exact hful q1 (by omega)
  · ((conv => whnf); (repeat' (first | (refine ⟨fun _ => ?_, fun _ => ?_⟩ <;> first | (exfalso; omega) | (conv => whnf)) | (refine ⟨by omega, ?_⟩; conv => whnf) | (intro _; conv => whnf))))
    exact hbad q
theorem t_X5_clearText {d : Nat} (hd : 1 ≤ d) {σ : Sto} {Q : Post} {K : KV} {h : Int} {HK : Int → KV} {tl : Int} {tx : Int → Int} (hC : ModelR σ K h HK tl tx) (hok : ∀ σ', ModelR σ' K h HK 0 tx → frM σ σ' → Q (some (.inl tl)) σ') : WPd d m_X5_clearText [.inr (26, 0)] σ Q := by
  obtain ⟨d, rfl⟩ : ∃ k, d = k + 1 := ⟨d - 1, by omega⟩
  intro P hP
  obtain ⟨rfl, hw, hh, ⟨t1, t2, t3⟩⟩ := hC
  (refine go (t := tb_X5_clearText) (WPd_mono d) hP 60 [] ?_; (conv => whnf); (repeat' (first | (refine ⟨fun _ => ?_, fun _ => ?_⟩ <;> first | (exfalso; omega) | (conv => whnf)) | (refine ⟨by omega, ?_⟩; conv => whnf) | (intro _; conv => whnf))))
  rw [t1]
  refine hok _ ⟨by rw [up_k (by decide)], hw, HistM_off hh (by rw [up_j (by decide)]) (by rw [up_k (by decide)]), ⟨by rw [up_hit], by omega, fun j j0 j1 => by omega⟩⟩ (fun k i hk => by rw [up_k (by omega)])
