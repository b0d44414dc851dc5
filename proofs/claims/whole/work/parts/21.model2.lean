/-! THE MODEL: what its changes do -/
theorem vm_mk {f : Int → Int} {n a : Int} {f0 f1 f2 f3 f4 f5 f6 : Int → Int} (hn : f 0 = n) (ha : f 151 = a) (hl : ∀ j, 0 ≤ j → j < n → f (1 + j) = f0 j ∧ f (51 + j) = f1 j ∧ f (101 + j) = f2 j) (hx : ∀ j, 0 ≤ j → j < a → f (152 + j) = f3 j ∧ f (158 + j) = f4 j ∧ f (164 + j) = f5 j) (hs : ∀ j, 0 ≤ j → j < 4 → f (170 + j) = f6 j) : vwM f = mkV n a f0 f1 f2 f3 f4 f5 f6 := by
  unfold vwM
  rw [hn, ha]
  funext q
  rcases q with _ | _ | _ | _ | _ | _ | _ | _ | q
  · exact mask_cg fun j j0 j1 => (hl j j0 j1).1
  · exact mask_cg fun j j0 j1 => (hl j j0 j1).2.1
  · exact mask_cg fun j j0 j1 => (hl j j0 j1).2.2
  · exact mask_cg fun j j0 j1 => (hx j j0 j1).1
  · exact mask_cg fun j j0 j1 => (hx j j0 j1).2.1
  · exact mask_cg fun j j0 j1 => (hx j j0 j1).2.2
  · exact mask_cg fun j j0 j1 => hs j j0 j1
  · rfl
  · rfl
def frM (σ σ' : Sto) : Prop := ∀ k i, (k < 26 ∨ 36 ≤ k) → σ' k i = σ k i
theorem ModelR_chg {σ σ1 σ2 : Sto} {h' : Int} {HK' : Int → KV} {tl : Int} {tx : Int → Int} {K' : KV} (g1 : HistM σ1 h' HK') (o1 : ∀ k i, k ≠ 26 → k ≠ 28 → σ1 k i = σ k i) (o3 : ∀ j, j ≠ 2 → σ1 26 0 j = σ 26 0 j) (o2 : ∀ k i, k ≠ 27 → σ2 k i = σ1 k i) (htx : TxtM σ tl tx) (e2 : vwM (σ2 27 0) = K') (hw : WFK K') : ModelR σ2 K' h' HK' tl tx ∧ frM σ σ2 :=
  ⟨⟨e2, hw, HistM_off g1 (by rw [o2 26 0 (by omega)]) (o2 28 0 (by omega)), TxtM_off htx (by rw [o2 26 0 (by omega), o3 4 (by omega)]) (by rw [o2 29 0 (by omega), o1 29 0 (by omega) (by omega)])⟩, fun k i hk => by rw [o2 k i (by omega), o1 k i (by omega) (by omega)]⟩
theorem t_X5_copies {d : Nat} (hd : 1 ≤ d) {σ : Sto} {Q : Post} {a b : Int} (ha : 0 ≤ a ∧ a < 50) (hb : 0 ≤ b ∧ b < 50) (h : Q none (setR σ 27 0 (fun j => if j = 101 + b then σ 27 0 (101 + a) else if j = 51 + b then σ 27 0 (51 + a) else if j = 1 + b then σ 27 0 (1 + a) else σ 27 0 j))) : WPd d m_X5_copies [.inr (26, 0), .inl a, .inl b] σ Q := by
  obtain ⟨d, rfl⟩ : ∃ k, d = k + 1 := ⟨d - 1, by omega⟩
  intro P hP
  (refine go (t := tb_X5_copies) (WPd_mono d) hP 60 [] ?_; (conv => whnf); (repeat' (first | (refine ⟨fun _ => ?_, fun _ => ?_⟩ <;> first | (exfalso; omega) | (conv => whnf)) | (refine ⟨by omega, ?_⟩; conv => whnf) | (intro _; conv => whnf))))
  rw [upS_setR, upS_setR, upS_setR, setR_setR, setR_setR, setR_same, setR_same, setR_cg (fun j => ?_)]
  · exact h
  · try dsimp only
    rw [if_neg (show ¬ 101 + a = 51 + b by omega), if_neg (show ¬ 101 + a = 1 + b by omega), if_neg (show ¬ 51 + a = 1 + b by omega)]
theorem vm_l {f : Int → Int} {j : Int} (hw : WFK (vwM f)) (h0 : 0 ≤ j) (h1 : j < f 0) : (1 ≤ f (1 + j) ∧ f (1 + j) ≤ 99) ∧ (0 ≤ f (51 + j) ∧ f (51 + j) ≤ 2) ∧ (0 ≤ f (101 + j) ∧ f (101 + j) ≤ 20) := by
  have a := hw.2.2.1 j h0 (by rw [vm_n]; exact h1)
  obtain ⟨b0, b1, b2⟩ := vm_in.1 h0 h1
  rw [b0, b1, b2] at a
  exact a
theorem vm_x {f : Int → Int} {j : Int} (hw : WFK (vwM f)) (h0 : 0 ≤ j) (h1 : j < f 151) : (1 ≤ f (152 + j) ∧ f (152 + j) ≤ f 0) ∧ (0 ≤ f (158 + j) ∧ f (158 + j) ≤ 500) ∧ (0 ≤ f (164 + j) ∧ f (164 + j) ≤ 9) := by
  have a := hw.2.2.2.1 j h0 (by rw [vm_a]; exact h1)
  obtain ⟨b0, b1, b2⟩ := vm_in.2.1 h0 h1
  rw [b0, b1, b2, vm_n] at a
  exact a
theorem vm_s {f : Int → Int} {j : Int} (hw : WFK (vwM f)) (h0 : 0 ≤ j) (h1 : j < 4) : 0 ≤ f (170 + j) ∧ f (170 + j) ≤ 50 := by
  have a := hw.2.2.2.2.2 j h0 h1
  rw [vm_in.2.2 h0 h1] at a
  exact a
theorem t_X5_addLayer {d : Nat} (hd : 3 ≤ d) {σ : Sto} {Q : Post} {K : KV} {h : Int} {HK : Int → KV} {tl : Int} {tx : Int → Int} {i t k m : Int} (hC : ModelR σ K h HK tl tx) (hi : inR i) (ht : inR t) (hk : inR k) (hm : inR m) (hbad : ¬ ((0 ≤ i ∧ i ≤ K 7 0) ∧ (1 ≤ t ∧ t ≤ 99) ∧ (0 ≤ k ∧ k ≤ 2) ∧ (0 ≤ m ∧ m ≤ 20)) → Q (some (.inl (-1))) σ) (hful : (0 ≤ i ∧ i ≤ K 7 0) ∧ (1 ≤ t ∧ t ≤ 99) ∧ (0 ≤ k ∧ k ≤ 2) ∧ (0 ≤ m ∧ m ≤ 20) → K 7 0 = 50 → Q (some (.inl (-3))) σ) (hok : (0 ≤ i ∧ i ≤ K 7 0) ∧ (1 ≤ t ∧ t ≤ 99) ∧ (0 ≤ k ∧ k ≤ 2) ∧ (0 ≤ m ∧ m ≤ 20) → K 7 0 < 50 → ∀ σ', ModelR σ' (insK K i t k m) (min 6 (h + 1)) (pushH h HK K) tl tx → frM σ σ' → Q (some (.inl (K 7 0 + 1))) σ') : WPd d m_X5_addLayer [.inr (26, 0), .inl i, .inl t, .inl k, .inl m] σ Q := by
  obtain ⟨d, rfl⟩ : ∃ k, d = k + 1 := ⟨d - 1, by omega⟩
  intro P hP
  obtain ⟨rfl, hw, hh, htx⟩ := hC
  have hn := hw.1
  have ha := hw.2.1
  rw [vm_n] at hn hbad hful hok
  rw [vm_a] at ha
  (refine go (t := tb_X5_addLayer) (WPd_mono d) hP 80 [66, 131] ?_; (conv => whnf); (repeat' (first | (refine ⟨fun _ => ?_, fun _ => ?_⟩ <;> first | (exfalso; omega) | (conv => whnf)) | (refine ⟨by omega, ?_⟩; conv => whnf) | (intro _; conv => whnf))))
  refine t_X5_isPlace (by omega) hi hn (fun q1 => ?_) (fun q => ?_)
  · ((conv => whnf); (repeat' (first | (refine ⟨fun _ => ?_, fun _ => ?_⟩ <;> first | (exfalso; omega) | (conv => whnf)) | (refine ⟨by omega, ?_⟩; conv => whnf) | (intro _; conv => whnf))))
    refine t_X5_in (by omega) ht (by omega) (by omega) (fun q2 => ?_) (fun q => ?_)
    · ((conv => whnf); (repeat' (first | (refine ⟨fun _ => ?_, fun _ => ?_⟩ <;> first | (exfalso; omega) | (conv => whnf)) | (refine ⟨by omega, ?_⟩; conv => whnf) | (intro _; conv => whnf))))
      refine t_X5_in (by omega) hk (by omega) (by omega) (fun q3 => ?_) (fun q => ?_)
      · ((conv => whnf); (repeat' (first | (refine ⟨fun _ => ?_, fun _ => ?_⟩ <;> first | (exfalso; omega) | (conv => whnf)) | (refine ⟨by omega, ?_⟩; conv => whnf) | (intro _; conv => whnf))))
        refine t_X5_in (by omega) hm (by omega) (by omega) (fun q4 => ?_) (fun q => ?_)
        · ((conv => whnf); (repeat' (first | (refine ⟨fun _ => ?_, fun _ => ?_⟩ <;> first | (exfalso; omega) | (conv => whnf)) | (refine ⟨by omega, ?_⟩; conv => whnf) | (intro _; conv => whnf))))
          · refine t_X5_records (by omega) hh hw (fun σ1 g1 o1 o3 => ?_)
            have e1 : σ1 27 0 = σ 27 0 := o1 27 0 (by omega) (by omega)
            have L2 : ∀ (n : Nat) (a : Int) (τ : Sto), n = (σ 27 0 151 - a).toNat → 0 ≤ a → a ≤ σ 27 0 151 → (∀ k i, k ≠ 27 → τ k i = σ1 k i) → τ 27 0 0 = σ 27 0 0 + 1 → τ 27 0 151 = σ 27 0 151 → (∀ j, 0 ≤ j → j < σ 27 0 0 + 1 → τ 27 0 (1 + j) = insF (fun j => σ 27 0 (1 + j)) i (σ 27 0 0) t j ∧ τ 27 0 (51 + j) = insF (fun j => σ 27 0 (51 + j)) i (σ 27 0 0) k j ∧ τ 27 0 (101 + j) = insF (fun j => σ 27 0 (101 + j)) i (σ 27 0 0) m j) → (∀ j, 158 ≤ j → τ 27 0 j = σ 27 0 j) → (∀ j, 0 ≤ j → j < σ 27 0 151 → τ 27 0 (152 + j) = if j < a ∧ i < σ 27 0 (152 + j) then σ 27 0 (152 + j) + 1 else σ 27 0 (152 + j)) → P 131 [.inr (26, 0), .inl i, .inl t, .inl k, .inl m, .inl a] [] τ := by
              intro n
              induction n with
              | zero =>
                intro a τ hn0 a0 a1 ho f0 f1 f2 f3 f4
                have ea : a = σ 27 0 151 := by omega
                subst ea
                (refine go (t := tb_X5_addLayer) (WPd_mono d) hP 80 [66, 131] ?_; (conv => whnf); (repeat' (first | (refine ⟨fun _ => ?_, fun _ => ?_⟩ <;> first | (exfalso; omega) | (conv => whnf)) | (refine ⟨by omega, ?_⟩; conv => whnf) | (intro _; conv => whnf))))
                rw [f0]
                have e2 : vwM (τ 27 0) = insK (vwM (σ 27 0)) i t k m := by
                  rw [vm_mk f0 f1 f2 (f3 := fun j => if 0 ≤ j ∧ j < σ 27 0 151 ∧ i < σ 27 0 (152 + j) then σ 27 0 (152 + j) + 1 else σ 27 0 (152 + j)) (f4 := fun j => σ 27 0 (158 + j)) (f5 := fun j => σ 27 0 (164 + j)) (fun j j0 j1 => ⟨?_, f3 _ (by omega), f3 _ (by omega)⟩) (f6 := fun j => σ 27 0 (170 + j)) (fun j j0 j1 => f3 _ (by omega))]
                  · exact insK_mk (f3 := fun j => σ 27 0 (152 + j)) q1.1 q1.2
                  · rw [f4 j j0 j1]
                    ((repeat' split) <;> first | rfl | (exfalso; omega) | (congr 1; omega) | omega)
                obtain ⟨r1, r2⟩ := ModelR_chg g1 o1 o3 ho htx e2 (WFK_ins hw (by rw [vm_n]; omega) (by rw [vm_n]; exact q1) q2 q3 q4)
                exact hok ⟨q1, q2, q3, q4⟩ (by omega) τ r1 r2
              | succ n ih =>
                intro a τ hn0 a0 a1 ho f0 f1 f2 f3 f4
                have b := (vm_x hw a0 (show a < σ 27 0 151 by omega)).1
                have c := f4 a a0 (by omega)
                rw [if_neg (by omega)] at c
                (refine go (t := tb_X5_addLayer) (WPd_mono d) hP 80 [66, 131] ?_; (conv => whnf); (repeat' (first | (refine ⟨fun _ => ?_, fun _ => ?_⟩ <;> first | (exfalso; omega) | (conv => whnf)) | (refine ⟨by omega, ?_⟩; conv => whnf) | (intro _; conv => whnf))))
                · rw [c] at *
                  ((repeat ((try simp only [setR_same, setR_nk, upS_setR, cpS_setR, setR_setR, ne_eq, Nat.reduceEqDiff, not_false_eq_true, Int.reduceEq, ↓reduceIte]); refine ⟨by omega, ?_⟩; ((conv => whnf); (repeat' (first | (refine ⟨fun _ => ?_, fun _ => ?_⟩ <;> first | (exfalso; omega) | (conv => whnf)) | (refine ⟨by omega, ?_⟩; conv => whnf) | (intro _; conv => whnf)))))); (try simp only [setR_same, setR_nk, upS_setR, cpS_setR, setR_setR, ne_eq, Nat.reduceEqDiff, not_false_eq_true, Int.reduceEq, ↓reduceIte]))
                  refine ih (a + 1) _ (by omega) (by omega) (by omega) (fun k i hk => by rw [setR_nk hk]; exact ho k i hk) (by (try simp only [setR_same, setR_nk, upS_setR, cpS_setR, setR_setR, ne_eq, Nat.reduceEqDiff, not_false_eq_true, Int.reduceEq, ↓reduceIte]); rw [if_neg (by omega)]; exact f0) (by (try simp only [setR_same, setR_nk, upS_setR, cpS_setR, setR_setR, ne_eq, Nat.reduceEqDiff, not_false_eq_true, Int.reduceEq, ↓reduceIte]); rw [if_neg (by omega)]; exact f1) (fun j j0 j1 => by (try simp only [setR_same, setR_nk, upS_setR, cpS_setR, setR_setR, ne_eq, Nat.reduceEqDiff, not_false_eq_true, Int.reduceEq, ↓reduceIte]); rw [if_neg (by omega), if_neg (by omega), if_neg (by omega)]; exact f2 j j0 j1) (fun j j0 => by (try simp only [setR_same, setR_nk, upS_setR, cpS_setR, setR_setR, ne_eq, Nat.reduceEqDiff, not_false_eq_true, Int.reduceEq, ↓reduceIte]); rw [if_neg (by omega)]; exact f3 j j0) (fun j j0 j1 => ?_)
                  (try simp only [setR_same, setR_nk, upS_setR, cpS_setR, setR_setR, ne_eq, Nat.reduceEqDiff, not_false_eq_true, Int.reduceEq, ↓reduceIte])
                  by_cases e : j = a
                  · subst e
                    rw [if_pos rfl]
                    ((repeat' split) <;> first | rfl | (exfalso; omega) | (congr 1; omega) | omega)
                  · rw [if_neg (by omega), f4 j j0 j1]
                    ((repeat' split) <;> first | rfl | (exfalso; omega) | (congr 1; omega) | omega)
                · rw [c] at *
                  ((repeat ((try simp only [setR_same, setR_nk, upS_setR, cpS_setR, setR_setR, ne_eq, Nat.reduceEqDiff, not_false_eq_true, Int.reduceEq, ↓reduceIte]); refine ⟨by omega, ?_⟩; ((conv => whnf); (repeat' (first | (refine ⟨fun _ => ?_, fun _ => ?_⟩ <;> first | (exfalso; omega) | (conv => whnf)) | (refine ⟨by omega, ?_⟩; conv => whnf) | (intro _; conv => whnf)))))); (try simp only [setR_same, setR_nk, upS_setR, cpS_setR, setR_setR, ne_eq, Nat.reduceEqDiff, not_false_eq_true, Int.reduceEq, ↓reduceIte]))
                  refine ih (a + 1) _ (by omega) (by omega) (by omega) (fun k i hk => by rw [setR_nk hk]; exact ho k i hk) (by (try simp only [setR_same, setR_nk, upS_setR, cpS_setR, setR_setR, ne_eq, Nat.reduceEqDiff, not_false_eq_true, Int.reduceEq, ↓reduceIte]); rw [if_neg (by omega)]; exact f0) (by (try simp only [setR_same, setR_nk, upS_setR, cpS_setR, setR_setR, ne_eq, Nat.reduceEqDiff, not_false_eq_true, Int.reduceEq, ↓reduceIte]); rw [if_neg (by omega)]; exact f1) (fun j j0 j1 => by (try simp only [setR_same, setR_nk, upS_setR, cpS_setR, setR_setR, ne_eq, Nat.reduceEqDiff, not_false_eq_true, Int.reduceEq, ↓reduceIte]); rw [if_neg (by omega), if_neg (by omega), if_neg (by omega)]; exact f2 j j0 j1) (fun j j0 => by (try simp only [setR_same, setR_nk, upS_setR, cpS_setR, setR_setR, ne_eq, Nat.reduceEqDiff, not_false_eq_true, Int.reduceEq, ↓reduceIte]); rw [if_neg (by omega)]; exact f3 j j0) (fun j j0 j1 => ?_)
                  (try simp only [setR_same, setR_nk, upS_setR, cpS_setR, setR_setR, ne_eq, Nat.reduceEqDiff, not_false_eq_true, Int.reduceEq, ↓reduceIte])
                  by_cases e : j = a
                  · subst e
                    rw [if_pos rfl]
                    ((repeat' split) <;> first | rfl | (exfalso; omega) | (congr 1; omega) | omega)
                  · rw [if_neg (by omega), f4 j j0 j1]
                    ((repeat' split) <;> first | rfl | (exfalso; omega) | (congr 1; omega) | omega)
            have L1 : ∀ (n : Nat) (x : Int) (τ : Sto), n = (x - i).toNat → i ≤ x → x ≤ σ 27 0 0 → (∀ k i, k ≠ 27 → τ k i = σ1 k i) → (∀ j, τ 27 0 j = if (1 + x < j ∧ j ≤ 1 + σ 27 0 0) ∨ (51 + x < j ∧ j ≤ 51 + σ 27 0 0) ∨ (101 + x < j ∧ j ≤ 101 + σ 27 0 0) then σ 27 0 (j - 1) else σ 27 0 j) → P 66 [.inr (26, 0), .inl i, .inl t, .inl k, .inl m, .inl x] [] τ := by
              intro n
              induction n with
              | zero =>
                intro x τ hn0 a0 a1 ho f0
                have ex : x = i := by omega
                subst ex
                have c := f0 0
                rw [if_neg (by omega)] at c
                (refine go (t := tb_X5_addLayer) (WPd_mono d) hP 80 [66, 131] ?_; (conv => whnf); (repeat' (first | (refine ⟨fun _ => ?_, fun _ => ?_⟩ <;> first | (exfalso; omega) | (conv => whnf)) | (refine ⟨by omega, ?_⟩; conv => whnf) | (intro _; conv => whnf))))
                ((repeat ((try simp only [setR_same, setR_nk, upS_setR, cpS_setR, setR_setR, ne_eq, Nat.reduceEqDiff, not_false_eq_true, Int.reduceEq, ↓reduceIte]); refine ⟨by omega, ?_⟩; ((conv => whnf); (repeat' (first | (refine ⟨fun _ => ?_, fun _ => ?_⟩ <;> first | (exfalso; omega) | (conv => whnf)) | (refine ⟨by omega, ?_⟩; conv => whnf) | (intro _; conv => whnf)))))); (try simp only [setR_same, setR_nk, upS_setR, cpS_setR, setR_setR, ne_eq, Nat.reduceEqDiff, not_false_eq_true, Int.reduceEq, ↓reduceIte]))
                refine L2 _ 0 _ rfl (by omega) (by omega) (fun k i hk => by rw [setR_nk hk]; exact ho k i hk) ?_ ?_ (fun j j0 j1 => ⟨?_, ?_, ?_⟩) (fun j j0 => ?_) (fun j j0 j1 => ?_)
                · (try simp only [setR_same, setR_nk, upS_setR, cpS_setR, setR_setR, ne_eq, Nat.reduceEqDiff, not_false_eq_true, Int.reduceEq, ↓reduceIte])
                  rw [if_neg (by omega), if_neg (by omega), if_neg (by omega), c]
                · (try simp only [setR_same, setR_nk, upS_setR, cpS_setR, setR_setR, ne_eq, Nat.reduceEqDiff, not_false_eq_true, Int.reduceEq, ↓reduceIte])
                  rw [if_neg (by omega), if_neg (by omega), if_neg (by omega), f0, if_neg (by omega)]
                · (try simp only [setR_same, setR_nk, upS_setR, cpS_setR, setR_setR, ne_eq, Nat.reduceEqDiff, not_false_eq_true, Int.reduceEq, ↓reduceIte])
                  simp only [insF, f0]
                  ((repeat' split) <;> first | rfl | (exfalso; omega) | (congr 1; omega) | omega)
                · (try simp only [setR_same, setR_nk, upS_setR, cpS_setR, setR_setR, ne_eq, Nat.reduceEqDiff, not_false_eq_true, Int.reduceEq, ↓reduceIte])
                  simp only [insF, f0]
                  ((repeat' split) <;> first | rfl | (exfalso; omega) | (congr 1; omega) | omega)
                · (try simp only [setR_same, setR_nk, upS_setR, cpS_setR, setR_setR, ne_eq, Nat.reduceEqDiff, not_false_eq_true, Int.reduceEq, ↓reduceIte])
                  simp only [insF, f0]
                  ((repeat' split) <;> first | rfl | (exfalso; omega) | (congr 1; omega) | omega)
                · (try simp only [setR_same, setR_nk, upS_setR, cpS_setR, setR_setR, ne_eq, Nat.reduceEqDiff, not_false_eq_true, Int.reduceEq, ↓reduceIte])
                  rw [if_neg (by omega), if_neg (by omega), if_neg (by omega), if_neg (by omega), f0, if_neg (by omega)]
                · (try simp only [setR_same, setR_nk, upS_setR, cpS_setR, setR_setR, ne_eq, Nat.reduceEqDiff, not_false_eq_true, Int.reduceEq, ↓reduceIte])
                  rw [if_neg (by omega), if_neg (by omega), if_neg (by omega), if_neg (by omega), f0, if_neg (by omega), if_neg (by omega)]
              | succ n ih =>
                intro x τ hn0 a0 a1 ho f0
                (refine go (t := tb_X5_addLayer) (WPd_mono d) hP 80 [66, 131] ?_; (conv => whnf); (repeat' (first | (refine ⟨fun _ => ?_, fun _ => ?_⟩ <;> first | (exfalso; omega) | (conv => whnf)) | (refine ⟨by omega, ?_⟩; conv => whnf) | (intro _; conv => whnf))))
                refine t_X5_copies (by omega) (by omega) (by omega) ?_
                ((conv => whnf); (repeat' (first | (refine ⟨fun _ => ?_, fun _ => ?_⟩ <;> first | (exfalso; omega) | (conv => whnf)) | (refine ⟨by omega, ?_⟩; conv => whnf) | (intro _; conv => whnf))))
                refine ih (x + (-1)) _ (by omega) (by omega) (by omega) (fun k i hk => by rw [setR_nk hk]; exact ho k i hk) (fun j => ?_)
                (try simp only [setR_same, setR_nk, upS_setR, cpS_setR, setR_setR, ne_eq, Nat.reduceEqDiff, not_false_eq_true, Int.reduceEq, ↓reduceIte])
                rw [f0, f0, f0, f0]
                ((repeat' split) <;> first | rfl | (exfalso; omega) | (congr 1; omega) | omega)
            ((conv => whnf); (repeat' (first | (refine ⟨fun _ => ?_, fun _ => ?_⟩ <;> first | (exfalso; omega) | (conv => whnf)) | (refine ⟨by omega, ?_⟩; conv => whnf) | (intro _; conv => whnf))))
            rw [e1]
            refine L1 _ _ σ1 rfl (by omega) (by omega) (fun k i hk => rfl) (fun j => ?_)
            rw [if_neg (by omega), e1]
          · exact hful ⟨q1, q2, q3, q4⟩ (by omega)
        · ((conv => whnf); (repeat' (first | (refine ⟨fun _ => ?_, fun _ => ?_⟩ <;> first | (exfalso; omega) | (conv => whnf)) | (refine ⟨by omega, ?_⟩; conv => whnf) | (intro _; conv => whnf))))
          exact hbad (by omega)
      · ((conv => whnf); (repeat' (first | (refine ⟨fun _ => ?_, fun _ => ?_⟩ <;> first | (exfalso; omega) | (conv => whnf)) | (refine ⟨by omega, ?_⟩; conv => whnf) | (intro _; conv => whnf))))
        exact hbad (by omega)
    · ((conv => whnf); (repeat' (first | (refine ⟨fun _ => ?_, fun _ => ?_⟩ <;> first | (exfalso; omega) | (conv => whnf)) | (refine ⟨by omega, ?_⟩; conv => whnf) | (intro _; conv => whnf))))
      exact hbad (by omega)
  · ((conv => whnf); (repeat' (first | (refine ⟨fun _ => ?_, fun _ => ?_⟩ <;> first | (exfalso; omega) | (conv => whnf)) | (refine ⟨by omega, ?_⟩; conv => whnf) | (intro _; conv => whnf))))
    exact hbad (by omega)
