/-! THE MODEL: what its changes do, on -/
theorem t_X5_drops {d : Nat} (hd : 1 ≤ d) {σ : Sto} {Q : Post} {x : Int} (hn : σ 27 0 0 ≤ 50) (ha : 0 ≤ σ 27 0 151 ∧ σ 27 0 151 ≤ 6) (hx : 0 ≤ x ∧ x < σ 27 0 151) (hq : ∀ σ', vwM (σ' 27 0) = delAK (vwM (σ 27 0)) x → (∀ k i, k ≠ 27 → σ' k i = σ k i) → Q none σ') : WPd d m_X5_drops [.inr (26, 0), .inl x] σ Q := by
  obtain ⟨d, rfl⟩ : ∃ k, d = k + 1 := ⟨d - 1, by omega⟩
  intro P hP
  have L : ∀ (n : Nat) (a : Int) (τ : Sto), n = (σ 27 0 151 - 1 - a).toNat → x ≤ a → a ≤ σ 27 0 151 - 1 → (∀ k i, k ≠ 27 → τ k i = σ k i) → τ 27 0 151 = σ 27 0 151 - 1 → (∀ j, j ≠ 151 → τ 27 0 j = if (152 + x ≤ j ∧ j < 152 + a) ∨ (158 + x ≤ j ∧ j < 158 + a) ∨ (164 + x ≤ j ∧ j < 164 + a) then σ 27 0 (j + 1) else σ 27 0 j) → P 14 [.inr (26, 0), .inl x, .inl a] [] τ := by
    intro n
    induction n with
    | zero =>
      intro a τ hn0 a0 a1 ho f0 f1
      have ea : a = σ 27 0 151 - 1 := by omega
      subst ea
      (refine go (t := tb_X5_drops) (WPd_mono d) hP 80 [14] ?_; (conv => whnf); (repeat' (first | (refine ⟨fun _ => ?_, fun _ => ?_⟩ <;> first | (exfalso; omega) | (conv => whnf)) | (refine ⟨by omega, ?_⟩; conv => whnf) | (intro _; conv => whnf))))
      refine hq τ ?_ ho
      rw [vm_mk (n := σ 27 0 0) (f0 := fun j => σ 27 0 (1 + j)) (f1 := fun j => σ 27 0 (51 + j)) (f2 := fun j => σ 27 0 (101 + j)) (f3 := delF (fun j => σ 27 0 (152 + j)) x (σ 27 0 151)) (f4 := delF (fun j => σ 27 0 (158 + j)) x (σ 27 0 151)) (f5 := delF (fun j => σ 27 0 (164 + j)) x (σ 27 0 151)) (f6 := fun j => σ 27 0 (170 + j)) ?_ f0 (fun j j0 j1 => ?_) (fun j j0 j1 => ?_) (fun j j0 j1 => ?_)]
      · exact delAK_mk hx.1 hx.2
      · rw [f1 0 (by omega), if_neg (by omega)]
      · rw [f1 (1 + j) (by omega), f1 (51 + j) (by omega), f1 (101 + j) (by omega), if_neg (by omega), if_neg (by omega), if_neg (by omega)]
        exact ⟨rfl, rfl, rfl⟩
      · simp only [delF]
        rw [f1 (152 + j) (by omega), f1 (158 + j) (by omega), f1 (164 + j) (by omega)]
        refine ⟨?_, ?_, ?_⟩ <;> ((repeat' split) <;> first | rfl | (exfalso; omega) | (congr 1; omega) | omega)
      · rw [f1 _ (by omega), if_neg (by omega)]
    | succ n ih =>
      intro a τ hn0 a0 a1 ho f0 f1
      (refine go (t := tb_X5_drops) (WPd_mono d) hP 80 [14] ?_; (conv => whnf); (repeat' (first | (refine ⟨fun _ => ?_, fun _ => ?_⟩ <;> first | (exfalso; omega) | (conv => whnf)) | (refine ⟨by omega, ?_⟩; conv => whnf) | (intro _; conv => whnf))))
      ((repeat ((try simp only [setR_same, setR_nk, upS_setR, cpS_setR, setR_setR, ne_eq, Nat.reduceEqDiff, not_false_eq_true, Int.reduceEq, ↓reduceIte]); refine ⟨by omega, ?_⟩; ((conv => whnf); (repeat' (first | (refine ⟨fun _ => ?_, fun _ => ?_⟩ <;> first | (exfalso; omega) | (conv => whnf)) | (refine ⟨by omega, ?_⟩; conv => whnf) | (intro _; conv => whnf)))))); (try simp only [setR_same, setR_nk, upS_setR, cpS_setR, setR_setR, ne_eq, Nat.reduceEqDiff, not_false_eq_true, Int.reduceEq, ↓reduceIte]))
      refine ih (a + 1) _ (by omega) (by omega) (by omega) (fun k i hk => by rw [setR_nk hk]; exact ho k i hk) (by (try simp only [setR_same, setR_nk, upS_setR, cpS_setR, setR_setR, ne_eq, Nat.reduceEqDiff, not_false_eq_true, Int.reduceEq, ↓reduceIte]); rw [if_neg (by omega), if_neg (by omega), if_neg (by omega)]; exact f0) (fun j hj => ?_)
      (try simp only [setR_same, setR_nk, upS_setR, cpS_setR, setR_setR, ne_eq, Nat.reduceEqDiff, not_false_eq_true, Int.reduceEq, ↓reduceIte])
      rw [f1 j hj, f1 _ (show 152 + a + 1 ≠ 151 by omega), f1 _ (show 158 + a + 1 ≠ 151 by omega), f1 _ (show 164 + a + 1 ≠ 151 by omega)]
      ((repeat' split) <;> first | rfl | (exfalso; omega) | (congr 1; omega) | omega)
  (refine go (t := tb_X5_drops) (WPd_mono d) hP 80 [14] ?_; (conv => whnf); (repeat' (first | (refine ⟨fun _ => ?_, fun _ => ?_⟩ <;> first | (exfalso; omega) | (conv => whnf)) | (refine ⟨by omega, ?_⟩; conv => whnf) | (intro _; conv => whnf))))
  refine L _ x _ rfl (by omega) (by omega) (fun k i hk => by rw [up_k hk]) (by rw [up_hit]) (fun j hj => ?_)
  rw [up_j hj, if_neg (by omega)]
theorem set_vm {f : Int → Int} {i w v : Int} (hw : 0 ≤ w ∧ w ≤ 2) (hi : 0 ≤ i ∧ i < f 0) (hn : f 0 ≤ 50) : vwM (fun j => if j = 1 + 50 * w + i then v else f j) = setLK (vwM f) i w v := by
  funext q
  rcases (show w = 0 ∨ w = 1 ∨ w = 2 by omega) with e | e | e <;> subst e <;> unfold vwM setLK <;> rcases q with _ | _ | _ | _ | _ | _ | _ | _ | q <;> funext j <;> simp only [mkV, mask, setM, cnt7] <;> ((repeat' split) <;> (try simp only [setM, mask, cnt7]) <;> (repeat' split) <;> first | rfl | (exfalso; omega) | (congr 1; omega) | omega)
theorem setS_vm {f : Int → Int} {w v : Int} (hw : 0 ≤ w ∧ w < 4) (hn : f 0 ≤ 50) (ha : f 151 ≤ 6) : vwM (fun j => if j = 170 + w then v else f j) = setSK (vwM f) w v := by
  funext q
  unfold vwM setSK
  rcases q with _ | _ | _ | _ | _ | _ | _ | _ | q <;> funext j <;> simp only [mkV, mask, setM, cnt7] <;> ((repeat' split) <;> (try simp only [setM, mask, cnt7]) <;> (repeat' split) <;> first | rfl | (exfalso; omega) | (congr 1; omega) | omega)
theorem t_X5_removeLayer {d : Nat} (hd : 3 ≤ d) {σ : Sto} {Q : Post} {K : KV} {h : Int} {HK : Int → KV} {tl : Int} {tx : Int → Int} {i : Int} (hC : ModelR σ K h HK tl tx) (hi : inR i) (hbad : ¬ (0 ≤ i ∧ i < K 7 0) → Q (some (.inl (-1))) σ) (hok : 0 ≤ i ∧ i < K 7 0 → ∀ σ', ModelR σ' (remK K i) (min 6 (h + 1)) (pushH h HK K) tl tx → frM σ σ' → Q (some (.inl (K 7 0 - 1))) σ') : WPd d m_X5_removeLayer [.inr (26, 0), .inl i] σ Q := by
  obtain ⟨d, rfl⟩ : ∃ k, d = k + 1 := ⟨d - 1, by omega⟩
  intro P hP
  obtain ⟨rfl, hw, hh, htx⟩ := hC
  have hn := hw.1
  have ha := hw.2.1
  have hW := @WFK_rem _ hw i
  rw [vm_n] at hn hbad hok hW
  rw [vm_a] at ha
  (refine go (t := tb_X5_removeLayer) (WPd_mono d) hP 80 [45, 107] ?_; (conv => whnf); (repeat' (first | (refine ⟨fun _ => ?_, fun _ => ?_⟩ <;> first | (exfalso; omega) | (conv => whnf)) | (refine ⟨by omega, ?_⟩; conv => whnf) | (intro _; conv => whnf))))
  refine t_X5_isLayer (by omega) hi hn (fun q1 => ?_) (fun q => ?_)
  · ((conv => whnf); (repeat' (first | (refine ⟨fun _ => ?_, fun _ => ?_⟩ <;> first | (exfalso; omega) | (conv => whnf)) | (refine ⟨by omega, ?_⟩; conv => whnf) | (intro _; conv => whnf))))
    refine t_X5_records (by omega) hh hw (fun σ1 g1 o1 o3 => ?_)
    have e1 : σ1 27 0 = σ 27 0 := o1 27 0 (by omega) (by omega)
    have E : ∀ (σ2 : Sto) (b : Int), (∀ k i, k ≠ 27 → σ2 k i = σ1 k i) → σ2 27 0 0 = σ 27 0 0 → (0 ≤ σ2 27 0 151 ∧ σ2 27 0 151 ≤ 6) → delLK (vwM (σ2 27 0)) i = remK (vwM (σ 27 0)) i → (∀ j, 0 ≤ j → j < σ2 27 0 151 → (0 ≤ σ2 27 0 (152 + j) ∧ σ2 27 0 (152 + j) ≤ 50)) → P 45 [.inr (26, 0), .inl i, .inl b, .inl 0] [] σ2 := by
      intro σ2 b p1 p2 p3 p4 p5
      have L2 : ∀ (n : Nat) (x : Int) (τ : Sto), n = (σ 27 0 0 - 1 - x).toNat → i ≤ x → x ≤ σ 27 0 0 - 1 → (∀ k i, k ≠ 27 → τ k i = σ1 k i) → τ 27 0 0 = σ 27 0 0 - 1 → (∀ j, j ≠ 0 → τ 27 0 j = if 152 ≤ j ∧ j < 152 + σ2 27 0 151 ∧ i < σ2 27 0 j then σ2 27 0 j - 1 else if (1 + i ≤ j ∧ j < 1 + x) ∨ (51 + i ≤ j ∧ j < 51 + x) ∨ (101 + i ≤ j ∧ j < 101 + x) then σ2 27 0 (j + 1) else σ2 27 0 j) → P 107 [.inr (26, 0), .inl i, .inl b, .inl x] [] τ := by
        intro n
        induction n with
        | zero =>
          intro x τ hn0 a0 a1 ho f0 f1
          have ex : x = σ 27 0 0 - 1 := by omega
          subst ex
          (refine go (t := tb_X5_removeLayer) (WPd_mono d) hP 80 [45, 107] ?_; (conv => whnf); (repeat' (first | (refine ⟨fun _ => ?_, fun _ => ?_⟩ <;> first | (exfalso; omega) | (conv => whnf)) | (refine ⟨by omega, ?_⟩; conv => whnf) | (intro _; conv => whnf))))
          rw [f0]
          have e2 : vwM (τ 27 0) = remK (vwM (σ 27 0)) i := by
            rw [← p4, vm_mk f0 (a := σ2 27 0 151) (f0 := delF (fun j => σ2 27 0 (1 + j)) i (σ 27 0 0)) (f1 := delF (fun j => σ2 27 0 (51 + j)) i (σ 27 0 0)) (f2 := delF (fun j => σ2 27 0 (101 + j)) i (σ 27 0 0)) (f3 := fun j => if 0 ≤ j ∧ j < σ2 27 0 151 ∧ i < σ2 27 0 (152 + j) then σ2 27 0 (152 + j) - 1 else σ2 27 0 (152 + j)) (f4 := fun j => σ2 27 0 (158 + j)) (f5 := fun j => σ2 27 0 (164 + j)) (f6 := fun j => σ2 27 0 (170 + j)) ?_ (fun j j0 j1 => ?_) (fun j j0 j1 => ?_) (fun j j0 j1 => ?_)]
            · unfold vwM
              rw [p2]
              exact delLK_mk (f3 := fun j => σ2 27 0 (152 + j)) q1.1 q1.2
            · rw [f1 151 (by omega), if_neg (by omega), if_neg (by omega)]
            · simp only [delF]
              rw [f1 (1 + j) (by omega), f1 (51 + j) (by omega), f1 (101 + j) (by omega)]
              refine ⟨?_, ?_, ?_⟩ <;> ((repeat' split) <;> first | rfl | (exfalso; omega) | (congr 1; omega) | omega)
            · rw [f1 (152 + j) (by omega), f1 (158 + j) (by omega), f1 (164 + j) (by omega)]
              refine ⟨?_, ?_, ?_⟩ <;> ((repeat' split) <;> first | rfl | (exfalso; omega) | (congr 1; omega) | omega)
            · rw [f1 _ (by omega), if_neg (by omega), if_neg (by omega)]
          obtain ⟨r1, r2⟩ := ModelR_chg g1 o1 o3 ho htx e2 (hW q1)
          exact hok q1 τ r1 r2
        | succ n ih =>
          intro x τ hn0 a0 a1 ho f0 f1
          (refine go (t := tb_X5_removeLayer) (WPd_mono d) hP 80 [45, 107] ?_; (conv => whnf); (repeat' (first | (refine ⟨fun _ => ?_, fun _ => ?_⟩ <;> first | (exfalso; omega) | (conv => whnf)) | (refine ⟨by omega, ?_⟩; conv => whnf) | (intro _; conv => whnf))))
          refine t_X5_copies (by omega) (by omega) (by omega) ?_
          ((conv => whnf); (repeat' (first | (refine ⟨fun _ => ?_, fun _ => ?_⟩ <;> first | (exfalso; omega) | (conv => whnf)) | (refine ⟨by omega, ?_⟩; conv => whnf) | (intro _; conv => whnf))))
          refine ih (x + 1) _ (by omega) (by omega) (by omega) (fun k i hk => by rw [setR_nk hk]; exact ho k i hk) (by (try simp only [setR_same, setR_nk, upS_setR, cpS_setR, setR_setR, ne_eq, Nat.reduceEqDiff, not_false_eq_true, Int.reduceEq, ↓reduceIte]); rw [if_neg (by omega), if_neg (by omega), if_neg (by omega)]; exact f0) (fun j hj => ?_)
          (try simp only [setR_same, setR_nk, upS_setR, cpS_setR, setR_setR, ne_eq, Nat.reduceEqDiff, not_false_eq_true, Int.reduceEq, ↓reduceIte])
          rw [f1 j hj, f1 _ (show 101 + (x + 1) ≠ 0 by omega), f1 _ (show 51 + (x + 1) ≠ 0 by omega), f1 _ (show 1 + (x + 1) ≠ 0 by omega)]
          ((repeat' split) <;> first | rfl | (exfalso; omega) | (congr 1; omega) | omega)
      have L1 : ∀ (n : Nat) (x : Int) (τ : Sto), n = (σ2 27 0 151 - x).toNat → 0 ≤ x → x ≤ σ2 27 0 151 → (∀ k i, k ≠ 27 → τ k i = σ1 k i) → (∀ j, τ 27 0 j = if 152 ≤ j ∧ j < 152 + x ∧ i < σ2 27 0 j then σ2 27 0 j - 1 else σ2 27 0 j) → P 45 [.inr (26, 0), .inl i, .inl b, .inl x] [] τ := by
        intro n
        induction n with
        | zero =>
          intro x τ hn0 a0 a1 ho f0
          have ex : x = σ2 27 0 151 := by omega
          subst ex
          have c0 := f0 0
          have c1 := f0 151
          rw [if_neg (by omega)] at c0 c1
          (refine go (t := tb_X5_removeLayer) (WPd_mono d) hP 80 [45, 107] ?_; (conv => whnf); (repeat' (first | (refine ⟨fun _ => ?_, fun _ => ?_⟩ <;> first | (exfalso; omega) | (conv => whnf)) | (refine ⟨by omega, ?_⟩; conv => whnf) | (intro _; conv => whnf))))
          ((repeat ((try simp only [setR_same, setR_nk, upS_setR, cpS_setR, setR_setR, ne_eq, Nat.reduceEqDiff, not_false_eq_true, Int.reduceEq, ↓reduceIte]); refine ⟨by omega, ?_⟩; ((conv => whnf); (repeat' (first | (refine ⟨fun _ => ?_, fun _ => ?_⟩ <;> first | (exfalso; omega) | (conv => whnf)) | (refine ⟨by omega, ?_⟩; conv => whnf) | (intro _; conv => whnf)))))); (try simp only [setR_same, setR_nk, upS_setR, cpS_setR, setR_setR, ne_eq, Nat.reduceEqDiff, not_false_eq_true, Int.reduceEq, ↓reduceIte]))
          refine L2 _ i _ rfl (by omega) (by omega) (fun k i hk => by rw [setR_nk hk]; exact ho k i hk) (by (try simp only [setR_same, setR_nk, upS_setR, cpS_setR, setR_setR, ne_eq, Nat.reduceEqDiff, not_false_eq_true, Int.reduceEq, ↓reduceIte]); omega) (fun j hj => ?_)
          (try simp only [setR_same, setR_nk, upS_setR, cpS_setR, setR_setR, ne_eq, Nat.reduceEqDiff, not_false_eq_true, Int.reduceEq, ↓reduceIte])
          rw [if_neg hj, f0]
          ((repeat' split) <;> first | rfl | (exfalso; omega) | (congr 1; omega) | omega)
        | succ n ih =>
          intro x τ hn0 a0 a1 ho f0
          have c0 := f0 (152 + x)
          have c1 := f0 151
          have c2 := p5 x a0 (by omega)
          rw [if_neg (by omega)] at c0 c1
          (refine go (t := tb_X5_removeLayer) (WPd_mono d) hP 80 [45, 107] ?_; (conv => whnf); (repeat' (first | (refine ⟨fun _ => ?_, fun _ => ?_⟩ <;> first | (exfalso; omega) | (conv => whnf)) | (refine ⟨by omega, ?_⟩; conv => whnf) | (intro _; conv => whnf))))
          · refine ih (x + 1) _ (by omega) (by omega) (by omega) (fun k i hk => by rw [up_k hk]; exact ho k i hk) (fun j => ?_)
            by_cases e : j = 152 + x
            · rw [e, up_hit, c0]
              ((repeat' split) <;> first | rfl | (exfalso; omega) | (congr 1; omega) | omega)
            · rw [up_j e, f0]
              ((repeat' split) <;> first | rfl | (exfalso; omega) | (congr 1; omega) | omega)
          · refine ih (x + 1) _ (by omega) (by omega) (by omega) (fun k i hk => by rw [up_k hk]; exact ho k i hk) (fun j => ?_)
            by_cases e : j = 152 + x
            · rw [e, up_hit, c0]
              ((repeat' split) <;> first | rfl | (exfalso; omega) | (congr 1; omega) | omega)
            · rw [up_j e, f0]
              ((repeat' split) <;> first | rfl | (exfalso; omega) | (congr 1; omega) | omega)
      exact L1 _ 0 σ2 rfl (by omega) (by omega) p1 (fun j => by rw [if_neg (by omega)])
    have x1 := axK_of (vwM (σ 27 0)) (i + 1) hw.2.1.1
    have x2 := axK_of (vwM (σ 27 0)) i hw.2.1.1
    rw [vm_a] at x1 x2
    have p5 : ∀ j, 0 ≤ j → j < σ 27 0 151 → (0 ≤ σ 27 0 (152 + j) ∧ σ 27 0 (152 + j) ≤ 50) := fun j j0 j1 => by
      have := (vm_x hw j0 j1).1
      omega
    have EN : ∀ b, ¬ (axK (vwM (σ 27 0)) (i + 1) ≠ -1 ∧ (i = 0 ∨ axK (vwM (σ 27 0)) i ≠ -1)) → P 45 [.inr (26, 0), .inl i, .inl b, .inl 0] [] σ1 := fun b q => E σ1 b (fun k i hk => rfl) (by rw [e1]) (by rw [e1]; exact ha) (by unfold remK; rw [e1, if_neg q]) (by rw [e1]; exact p5)
    have ED : ∀ b, axK (vwM (σ 27 0)) (i + 1) ≠ -1 ∧ (i = 0 ∨ axK (vwM (σ 27 0)) i ≠ -1) → ∀ σ2, vwM (σ2 27 0) = delAK (vwM (σ 27 0)) (axK (vwM (σ 27 0)) (i + 1)) → (∀ k i, k ≠ 27 → σ2 k i = σ1 k i) → P 45 [.inr (26, 0), .inl i, .inl b, .inl 0] [] σ2 := fun b q σ2 d1 d2 => by
      have wd : WFK (vwM (σ2 27 0)) := by
        rw [d1]
        exact WFK_delA hw (by rw [vm_a]; omega)
      have n2 : σ2 27 0 0 = σ 27 0 0 := by
        rw [← vm_n (σ2 27 0), d1]
        rfl
      have a2 : 0 ≤ σ2 27 0 151 ∧ σ2 27 0 151 ≤ 6 := wd.2.1
      refine E σ2 b d2 n2 a2 (by unfold remK; rw [d1, if_pos q]) (fun j j0 j1 => ?_)
      have := (vm_x wd j0 j1).1
      omega
    ((conv => whnf); (repeat' (first | (refine ⟨fun _ => ?_, fun _ => ?_⟩ <;> first | (exfalso; omega) | (conv => whnf)) | (refine ⟨by omega, ?_⟩; conv => whnf) | (intro _; conv => whnf))))
    refine t_X5_ashAt (by omega) (by omega) (by rw [e1]; exact ha) ?_
    rw [e1]
    ((conv => whnf); (repeat' (first | (refine ⟨fun _ => ?_, fun _ => ?_⟩ <;> first | (exfalso; omega) | (conv => whnf)) | (refine ⟨by omega, ?_⟩; conv => whnf) | (intro _; conv => whnf))))
    · exact EN _ (fun q => by omega)
    · refine t_X5_drops (by omega) (by rw [e1]; omega) (by rw [e1]; exact ha) (by rw [e1]; omega) (fun σ2 d1 d2 => ?_)
      rw [e1] at d1
      ((conv => whnf); (repeat' (first | (refine ⟨fun _ => ?_, fun _ => ?_⟩ <;> first | (exfalso; omega) | (conv => whnf)) | (refine ⟨by omega, ?_⟩; conv => whnf) | (intro _; conv => whnf))))
      exact ED _ ⟨by omega, by omega⟩ σ2 d1 d2
    · refine t_X5_ashAt (by omega) (by omega) (by rw [e1]; exact ha) ?_
      rw [e1]
      ((conv => whnf); (repeat' (first | (refine ⟨fun _ => ?_, fun _ => ?_⟩ <;> first | (exfalso; omega) | (conv => whnf)) | (refine ⟨by omega, ?_⟩; conv => whnf) | (intro _; conv => whnf))))
      · exact EN _ (fun q => by omega)
      · refine t_X5_drops (by omega) (by rw [e1]; omega) (by rw [e1]; exact ha) (by rw [e1]; omega) (fun σ2 d1 d2 => ?_)
        rw [e1] at d1
        ((conv => whnf); (repeat' (first | (refine ⟨fun _ => ?_, fun _ => ?_⟩ <;> first | (exfalso; omega) | (conv => whnf)) | (refine ⟨by omega, ?_⟩; conv => whnf) | (intro _; conv => whnf))))
        exact ED _ ⟨by omega, by omega⟩ σ2 d1 d2
  · ((conv => whnf); (repeat' (first | (refine ⟨fun _ => ?_, fun _ => ?_⟩ <;> first | (exfalso; omega) | (conv => whnf)) | (refine ⟨by omega, ?_⟩; conv => whnf) | (intro _; conv => whnf))))
    exact hbad q
