/-! THE TEXT: the class's commands -/
def rdP (o : Option (KV × Int)) (σ : Sto) (Q : Post) : Prop := (∀ D' p', o = some (D', p') → ∀ σ', strip (vwC σ' 1) = D' → σ' 2 0 3 = p' → offS σ σ' → Q (some (.inl 1)) σ') ∧ (o = none → ∀ σ', offS σ σ' → Q (some (.inl 0)) σ')
theorem at_f (σ : Sto) (v : Int) : ∃ τ, upS σ 2 0 3 v = τ ∧ τ 16 1 = σ 16 1 ∧ τ 20 1 = σ 20 1 ∧ τ 5 0 = σ 5 0 ∧ τ 2 0 2 = σ 2 0 2 ∧ vwC τ 1 = vwC σ 1 ∧ offS σ τ ∧ τ 2 0 3 = v :=
  ⟨_, rfl, up_k (by decide), up_k (by decide), up_k (by decide), up_j (by decide), vwC_cg fun k k0 k1 => up_k (by omega), offS.at, up_hit⟩
theorem t_X3_readLayer {d : Nat} (hd : 3 ≤ d) {σ : Sto} {Q : Post} {tl : Int} {tx : Int → Int} {q k : Int} {D : KV} (hk : 0 ≤ k ∧ k ≤ 2) (ht : TxtR σ tl tx) (hs : strip (vwC σ 1) = D) (hw : WFK D) (hq : σ 2 0 3 = q) (h0 : 0 ≤ q ∧ q ≤ tl) (hr : rdP (layF tl tx k q D) σ Q) : WPd d m_X3_readLayer [.inr (2, 0), .inl k] σ Q := by
  obtain ⟨d, rfl⟩ : ∃ k, d = k + 1 := ⟨d - 1, by omega⟩
  intro P hP
  subst hs
  have hn : 0 ≤ σ 16 1 7 ∧ σ 16 1 7 ≤ 50 := hw.1
  have hm : 0 ≤ σ 16 1 8 ∧ σ 16 1 8 ≤ 6 := hw.2.1
  have b := numF_b (tx := tx) 3 (-1) q h0.1 h0.2 (by omega)
  have bt := numF_t (tl := tl) (tx := tx) q
  obtain ⟨hr1, hr0⟩ := hr
  unfold layF at hr1 hr0
  rw [show strip (vwC σ 1) 7 0 = σ 16 1 7 from rfl] at hr1 hr0
  (refine go (t := tb_X3_readLayer) (WPd_mono d) hP 60 [] ?_; (conv => whnf); (repeat' (first | (refine ⟨fun _ => ?_, fun _ => ?_⟩ <;> first | (exfalso; omega) | (conv => whnf)) | (refine ⟨by omega, ?_⟩; conv => whnf) | (intro _; conv => whnf))))
  refine t_X3_readNumber (by omega) (by omega) ht hq h0 (fun a1 a2 => ?_) (fun a v => ?_)
  · obtain ⟨τ, eτ, f16, f20, f5, f2, fv, fo, f3⟩ := at_f σ ((numF tl tx 3 (-1) q).2 + 1)
    rw [eτ]
    have g7 : τ 16 1 7 = σ 16 1 7 := by rw [f16]
    ((conv => whnf); (repeat' (first | (refine ⟨fun _ => ?_, fun _ => ?_⟩ <;> first | (exfalso; omega) | (conv => whnf)) | (refine ⟨by omega, ?_⟩; conv => whnf) | (intro _; conv => whnf))))
    refine t_X4_isWithin (by omega) (by omega) (by omega) (by omega) (fun q1 => ?_) (fun q1 => ?_)
    · ((conv => whnf); (repeat' (first | (refine ⟨fun _ => ?_, fun _ => ?_⟩ <;> first | (exfalso; omega) | (conv => whnf)) | (refine ⟨by omega, ?_⟩; conv => whnf) | (intro _; conv => whnf))))
      · refine t_X0_insertLayer (by omega) (by omega) (by rw [f16]; exact hm) (by omega) (by omega) (by omega) (by omega) (fun j j0 j1 => ?_) (fun σ2 e2 o2 => ?_)
        · rw [f16] at j1
          rw [f20]
          have := (hw.2.2.2.1 j j0 j1).1
          rw [show strip (vwC σ 1) 3 j = σ 20 1 j from mask_in j0 j1] at this
          have e7 : strip (vwC σ 1) 7 0 = σ 16 1 7 := rfl
          omega
        · ((conv => whnf); (repeat' (first | (refine ⟨fun _ => ?_, fun _ => ?_⟩ <;> first | (exfalso; omega) | (conv => whnf)) | (refine ⟨by omega, ?_⟩; conv => whnf) | (intro _; conv => whnf))))
          rw [fv, g7] at e2
          refine hr1 _ _ (if_pos ⟨q1, by omega, a2⟩) σ2 ?_ ?_ (fo.tr (offS.core o2))
          · rw [e2, strip_ins]
          · rw [o2 2 0 (by omega), f3]
      · exact hr0 (if_neg (fun e => by omega)) τ fo
    · ((conv => whnf); (repeat' (first | (refine ⟨fun _ => ?_, fun _ => ?_⟩ <;> first | (exfalso; omega) | (conv => whnf)) | (refine ⟨by omega, ?_⟩; conv => whnf) | (intro _; conv => whnf))))
      exact hr0 (if_neg (fun e => q1 e.1)) τ fo
  · obtain ⟨τ, eτ, f16, f20, f5, f2, fv, fo, f3⟩ := at_f σ v
    rw [eτ]
    ((conv => whnf); (repeat' (first | (refine ⟨fun _ => ?_, fun _ => ?_⟩ <;> first | (exfalso; omega) | (conv => whnf)) | (refine ⟨by omega, ?_⟩; conv => whnf) | (intro _; conv => whnf))))
    refine t_X4_isWithin (by omega) (by omega) (by omega) (by omega) (fun q1 => ?_) (fun q1 => ?_)
    · omega
    · ((conv => whnf); (repeat' (first | (refine ⟨fun _ => ?_, fun _ => ?_⟩ <;> first | (exfalso; omega) | (conv => whnf)) | (refine ⟨by omega, ?_⟩; conv => whnf) | (intro _; conv => whnf))))
      exact hr0 (if_neg (fun e => a ⟨by omega, e.2.2⟩)) τ fo
theorem set_mk1 {σ : Sto} {i v : Int} (hi : 0 ≤ i ∧ i < σ 16 1 7) : vwC (upS σ 19 1 i v) 1 = setLK (vwC σ 1) i 2 v := by
  have key : ∀ f : Int → Int, mask (σ 16 1 7) (fun j' => if j' = i then v else f j') = setM (mask (σ 16 1 7) f) i v := by
    intro f
    funext j
    simp only [mask, setM]
    ((repeat' split) <;> first | rfl | (exfalso; omega) | (congr 1; omega) | omega)
  funext q
  unfold vwC setLK
  (try simp only [setR_same, setR_nk, upS_setR, cpS_setR, setR_setR, ne_eq, Nat.reduceEqDiff, not_false_eq_true, Int.reduceEq, ↓reduceIte])
  rcases q with _ | _ | _ | _ | _ | _ | _ | _ | q <;> first | rfl | exact key _ | (rw [if_neg (by omega)]; rfl)
theorem t_X3_readGap {d : Nat} (hd : 3 ≤ d) {σ : Sto} {Q : Post} {tl : Int} {tx : Int → Int} {q : Int} {D : KV} (ht : TxtR σ tl tx) (hs : strip (vwC σ 1) = D) (hw : WFK D) (hq : σ 2 0 3 = q) (h0 : 0 ≤ q ∧ q ≤ tl) (hr : rdP (gapF tl tx q D) σ Q) : WPd d m_X3_readGap [.inr (2, 0)] σ Q := by
  obtain ⟨d, rfl⟩ : ∃ k, d = k + 1 := ⟨d - 1, by omega⟩
  intro P hP
  subst hs
  have hn : 0 ≤ σ 16 1 7 ∧ σ 16 1 7 ≤ 50 := hw.1
  have b := numF_b (tx := tx) 3 (-1) q h0.1 h0.2 (by omega)
  have bt := numF_t (tl := tl) (tx := tx) q
  obtain ⟨hr1, hr0⟩ := hr
  unfold gapF at hr1 hr0
  rw [show strip (vwC σ 1) 7 0 = σ 16 1 7 from rfl] at hr1 hr0
  (refine go (t := tb_X3_readGap) (WPd_mono d) hP 60 [] ?_; (conv => whnf); (repeat' (first | (refine ⟨fun _ => ?_, fun _ => ?_⟩ <;> first | (exfalso; omega) | (conv => whnf)) | (refine ⟨by omega, ?_⟩; conv => whnf) | (intro _; conv => whnf))))
  refine t_X3_readNumber (by omega) (by omega) ht hq h0 (fun a1 a2 => ?_) (fun a v => ?_)
  · obtain ⟨τ, eτ, f16, f20, f5, f2, fv, fo, f3⟩ := at_f σ ((numF tl tx 3 (-1) q).2 + 1)
    rw [eτ]
    have g7 : τ 16 1 7 = σ 16 1 7 := by rw [f16]
    ((conv => whnf); (repeat' (first | (refine ⟨fun _ => ?_, fun _ => ?_⟩ <;> first | (exfalso; omega) | (conv => whnf)) | (refine ⟨by omega, ?_⟩; conv => whnf) | (intro _; conv => whnf))))
    refine t_X4_isWithin (by omega) (by omega) (by omega) (by omega) (fun q1 => ?_) (fun q1 => ?_)
    · ((conv => whnf); (repeat' (first | (refine ⟨fun _ => ?_, fun _ => ?_⟩ <;> first | (exfalso; omega) | (conv => whnf)) | (refine ⟨by omega, ?_⟩; conv => whnf) | (intro _; conv => whnf))))
      · refine hr1 _ _ (if_pos ⟨q1, by omega, a2⟩) _ ?_ ?_ (fo.tr (offS.core (offC.rf.up (by omega))))
        · rw [set_mk1 (by omega), strip_set2, fv, g7]
        · rw [up_k (by decide), f3]
      · exact hr0 (if_neg (fun e => by omega)) τ fo
    · ((conv => whnf); (repeat' (first | (refine ⟨fun _ => ?_, fun _ => ?_⟩ <;> first | (exfalso; omega) | (conv => whnf)) | (refine ⟨by omega, ?_⟩; conv => whnf) | (intro _; conv => whnf))))
      exact hr0 (if_neg (fun e => q1 e.1)) τ fo
  · obtain ⟨τ, eτ, f16, f20, f5, f2, fv, fo, f3⟩ := at_f σ v
    rw [eτ]
    ((conv => whnf); (repeat' (first | (refine ⟨fun _ => ?_, fun _ => ?_⟩ <;> first | (exfalso; omega) | (conv => whnf)) | (refine ⟨by omega, ?_⟩; conv => whnf) | (intro _; conv => whnf))))
    refine t_X4_isWithin (by omega) (by omega) (by omega) (by omega) (fun q1 => ?_) (fun q1 => ?_)
    · omega
    · ((conv => whnf); (repeat' (first | (refine ⟨fun _ => ?_, fun _ => ?_⟩ <;> first | (exfalso; omega) | (conv => whnf)) | (refine ⟨by omega, ?_⟩; conv => whnf) | (intro _; conv => whnf))))
      exact hr0 (if_neg (fun e => a ⟨by omega, e.2.2⟩)) τ fo
theorem t_X3_readAsh {d : Nat} (hd : 3 ≤ d) {σ : Sto} {Q : Post} {tl : Int} {tx : Int → Int} {q : Int} {D : KV} (ht : TxtR σ tl tx) (hs : strip (vwC σ 1) = D) (hw : WFK D) (hq : σ 2 0 3 = q) (h0 : 0 ≤ q ∧ q ≤ tl) (hr : rdP (ashF tl tx q D) σ Q) : WPd d m_X3_readAsh [.inr (2, 0)] σ Q := by
  obtain ⟨d, rfl⟩ : ∃ k, d = k + 1 := ⟨d - 1, by omega⟩
  intro P hP
  subst hs
  have hn : 0 ≤ σ 16 1 7 ∧ σ 16 1 7 ≤ 50 := hw.1
  have hm : 0 ≤ σ 16 1 8 ∧ σ 16 1 8 ≤ 6 := hw.2.1
  have b := numF_b (tx := tx) 3 (-1) q h0.1 h0.2 (by omega)
  have bt := numF_t (tl := tl) (tx := tx) q
  have bx := axK_of (vwC σ 1) (σ 16 1 7) hm.1
  rw [vw_a] at bx
  obtain ⟨hr1, hr0⟩ := hr
  unfold ashF ashG at hr1 hr0
  rw [show strip (vwC σ 1) 7 0 = σ 16 1 7 from rfl, show strip (vwC σ 1) 7 1 = σ 16 1 8 from rfl, show axK (strip (vwC σ 1)) (σ 16 1 7) = axK (vwC σ 1) (σ 16 1 7) from rfl, show nxK (strip (vwC σ 1)) (σ 16 1 7) = nxK (vwC σ 1) (σ 16 1 7) from rfl] at hr1 hr0
  (refine go (t := tb_X3_readAsh) (WPd_mono d) hP 60 [] ?_; (conv => whnf); (repeat' (first | (refine ⟨fun _ => ?_, fun _ => ?_⟩ <;> first | (exfalso; omega) | (conv => whnf)) | (refine ⟨by omega, ?_⟩; conv => whnf) | (intro _; conv => whnf))))
  refine t_X3_readNumber (by omega) (by omega) ht hq h0 (fun a1 a2 => ?_) (fun a v => ?_)
  · obtain ⟨τ, eτ, f16, f20, f5, f2, fv, fo, f3⟩ := at_f σ ((numF tl tx 3 (-1) q).2 + 1)
    rw [eτ]
    have hlt : (numF tl tx 3 (-1) q).2 < tl := sg_in a2 (by omega)
    have b2 := numF_b (tl := tl) (tx := tx) 3 (-1) ((numF tl tx 3 (-1) q).2 + 1) (by omega) (by omega) (by omega)
    have bt2 := numF_t (tl := tl) (tx := tx) ((numF tl tx 3 (-1) q).2 + 1)
    ((conv => whnf); (repeat' (first | (refine ⟨fun _ => ?_, fun _ => ?_⟩ <;> first | (exfalso; omega) | (conv => whnf)) | (refine ⟨by omega, ?_⟩; conv => whnf) | (intro _; conv => whnf))))
    refine t_X4_isWithin (by omega) (by omega) (by omega) (by omega) (fun q1 => ?_) (fun q1 => ?_)
    · ((conv => whnf); (repeat' (first | (refine ⟨fun _ => ?_, fun _ => ?_⟩ <;> first | (exfalso; omega) | (conv => whnf)) | (refine ⟨by omega, ?_⟩; conv => whnf) | (intro _; conv => whnf))))
      refine t_X3_readNumber (by omega) (by omega) (fo.txt ht) f3 (by omega) (fun c1 c2 => ?_) (fun c v => ?_)
      · obtain ⟨ρ, eρ, h16, h20, h5, h2, hv, ho, h3⟩ := at_f τ ((numF tl tx 3 (-1) ((numF tl tx 3 (-1) q).2 + 1)).2 + 1)
        rw [eρ]
        have g7 : ρ 16 1 7 = σ 16 1 7 := by rw [h16, f16]
        have g8 : ρ 16 1 8 = σ 16 1 8 := by rw [h16, f16]
        ((conv => whnf); (repeat' (first | (refine ⟨fun _ => ?_, fun _ => ?_⟩ <;> first | (exfalso; omega) | (conv => whnf)) | (refine ⟨by omega, ?_⟩; conv => whnf) | (intro _; conv => whnf))))
        refine t_X4_isWithin (by omega) (by omega) (by omega) (by omega) (fun q2 => ?_) (fun q2 => ?_)
        · ((conv => whnf); (repeat' (first | (refine ⟨fun _ => ?_, fun _ => ?_⟩ <;> first | (exfalso; omega) | (conv => whnf)) | (refine ⟨by omega, ?_⟩; conv => whnf) | (intro _; conv => whnf))))
          · exact hr0 (if_neg (fun e => by omega)) ρ (fo.tr ho)
          · exact hr0 (if_neg (fun e => by omega)) ρ (fo.tr ho)
          · refine t_X0_ashAt (by omega) (by omega) (by omega) ?_
            rw [ax_vw, hv, fv, g7]
            ((conv => whnf); (repeat' (first | (refine ⟨fun _ => ?_, fun _ => ?_⟩ <;> first | (exfalso; omega) | (conv => whnf)) | (refine ⟨by omega, ?_⟩; conv => whnf) | (intro _; conv => whnf))))
            · refine t_X0_insertAsh (by omega) (by omega) (by omega) (by omega) (by omega) (fun σ2 e2 o2 => ?_)
              rw [hv, fv, g7] at e2 ⊢
              ((conv => whnf); (repeat' (first | (refine ⟨fun _ => ?_, fun _ => ?_⟩ <;> first | (exfalso; omega) | (conv => whnf)) | (refine ⟨by omega, ?_⟩; conv => whnf) | (intro _; conv => whnf))))
              refine hr1 _ _ (if_pos ⟨q1, a2, q2, c2, by omega, by omega, by omega⟩) σ2 ?_ ?_ ((fo.tr ho).tr (offS.core o2))
              · rw [e2, strip_insA]
              · rw [o2 2 0 (by omega), h3]
            · exact hr0 (if_neg (fun e => by omega)) ρ (fo.tr ho)
        · ((conv => whnf); (repeat' (first | (refine ⟨fun _ => ?_, fun _ => ?_⟩ <;> first | (exfalso; omega) | (conv => whnf)) | (refine ⟨by omega, ?_⟩; conv => whnf) | (intro _; conv => whnf))))
          exact hr0 (if_neg (fun e => q2 e.2.2.1)) ρ (fo.tr ho)
      · obtain ⟨ρ, eρ, h16, h20, h5, h2, hv, ho, h3⟩ := at_f τ v
        rw [eρ]
        ((conv => whnf); (repeat' (first | (refine ⟨fun _ => ?_, fun _ => ?_⟩ <;> first | (exfalso; omega) | (conv => whnf)) | (refine ⟨by omega, ?_⟩; conv => whnf) | (intro _; conv => whnf))))
        refine t_X4_isWithin (by omega) (by omega) (by omega) (by omega) (fun q2 => ?_) (fun q2 => ?_)
        · omega
        · ((conv => whnf); (repeat' (first | (refine ⟨fun _ => ?_, fun _ => ?_⟩ <;> first | (exfalso; omega) | (conv => whnf)) | (refine ⟨by omega, ?_⟩; conv => whnf) | (intro _; conv => whnf))))
          exact hr0 (if_neg (fun e => c ⟨by omega, e.2.2.2.1⟩)) ρ (fo.tr ho)
    · ((conv => whnf); (repeat' (first | (refine ⟨fun _ => ?_, fun _ => ?_⟩ <;> first | (exfalso; omega) | (conv => whnf)) | (refine ⟨by omega, ?_⟩; conv => whnf) | (intro _; conv => whnf))))
      exact hr0 (if_neg (fun e => q1 e.1)) τ fo
  · obtain ⟨τ, eτ, f16, f20, f5, f2, fv, fo, f3⟩ := at_f σ v
    rw [eτ]
    ((conv => whnf); (repeat' (first | (refine ⟨fun _ => ?_, fun _ => ?_⟩ <;> first | (exfalso; omega) | (conv => whnf)) | (refine ⟨by omega, ?_⟩; conv => whnf) | (intro _; conv => whnf))))
    refine t_X4_isWithin (by omega) (by omega) (by omega) (by omega) (fun q1 => ?_) (fun q1 => ?_)
    · omega
    · ((conv => whnf); (repeat' (first | (refine ⟨fun _ => ?_, fun _ => ?_⟩ <;> first | (exfalso; omega) | (conv => whnf)) | (refine ⟨by omega, ?_⟩; conv => whnf) | (intro _; conv => whnf))))
      exact hr0 (if_neg (fun e => a ⟨by omega, e.2.1⟩)) τ fo
theorem rdP.mv {o : Option (KV × Int)} {σ τ : Sto} {Q : Post} (h : rdP o σ Q) (fo : offS σ τ) : rdP o τ Q := ⟨fun D' p' e σ' a b c => h.1 D' p' e σ' a b (fo.tr c), fun e σ' c => h.2 e σ' (fo.tr c)⟩
theorem t_X3_readCommand {d : Nat} (hd : 4 ≤ d) {σ : Sto} {Q : Post} {tl : Int} {tx : Int → Int} {p : Int} {D : KV} (ht : TxtR σ tl tx) (hs : strip (vwC σ 1) = D) (hw : WFK D) (hp : σ 2 0 3 = p) (h0 : 0 ≤ p ∧ p ≤ tl) (hr : rdP (cmdF tl tx p D) σ Q) : WPd d m_X3_readCommand [.inr (2, 0)] σ Q := by
  obtain ⟨d, rfl⟩ : ∃ k, d = k + 1 := ⟨d - 1, by omega⟩
  intro P hP
  have tf : ∀ {b : Bool}, b = false → ¬ b = true := fun h => by rw [h]; decide
  unfold cmdF at hr
  (refine go (t := tb_X3_readCommand) (WPd_mono d) hP 80 [] ?_; (conv => whnf); (repeat' (first | (refine ⟨fun _ => ?_, fun _ => ?_⟩ <;> first | (exfalso; omega) | (conv => whnf)) | (refine ⟨by omega, ?_⟩; conv => whnf) | (intro _; conv => whnf))))
  refine t_X3_skipWord (by omega) (by omega) ht hp h0 (fun y => ?_) (fun y0 => ?_)
  · obtain ⟨τ, eτ, f16, f20, f5, f2, fv, fo, f3⟩ := at_f σ (p + ((txtL 0).length : Int))
    have g := wdB_in _ _ h0.2 (txt_fc 0 (by omega)).1 y
    rw [show ((txtL 0).length : Int) = 6 from rfl] at *
    rw [show ((txtL ((0 : Nat) : Int)).length : Int) = 6 from rfl] at g
    rw [if_pos y] at hr
    rw [eτ]
    ((conv => whnf); (repeat' (first | (refine ⟨fun _ => ?_, fun _ => ?_⟩ <;> first | (exfalso; omega) | (conv => whnf)) | (refine ⟨by omega, ?_⟩; conv => whnf) | (intro _; conv => whnf))))
    refine t_X3_readLayer (by omega) (by omega) (fo.txt ht) (by rw [fv]; exact hs) hw f3 (by omega) ⟨fun D' p' e σ' a b c => ?_, fun e σ' c => ?_⟩
    · ((conv => whnf); (repeat' (first | (refine ⟨fun _ => ?_, fun _ => ?_⟩ <;> first | (exfalso; omega) | (conv => whnf)) | (refine ⟨by omega, ?_⟩; conv => whnf) | (intro _; conv => whnf))))
      exact (hr.mv fo).1 D' p' e σ' a b c
    · ((conv => whnf); (repeat' (first | (refine ⟨fun _ => ?_, fun _ => ?_⟩ <;> first | (exfalso; omega) | (conv => whnf)) | (refine ⟨by omega, ?_⟩; conv => whnf) | (intro _; conv => whnf))))
      exact (hr.mv fo).2 e σ' c
  rw [if_neg (tf y0)] at hr
  ((conv => whnf); (repeat' (first | (refine ⟨fun _ => ?_, fun _ => ?_⟩ <;> first | (exfalso; omega) | (conv => whnf)) | (refine ⟨by omega, ?_⟩; conv => whnf) | (intro _; conv => whnf))))
  refine t_X3_skipWord (by omega) (by omega) ht hp h0 (fun y => ?_) (fun y1 => ?_)
  · obtain ⟨τ, eτ, f16, f20, f5, f2, fv, fo, f3⟩ := at_f σ (p + ((txtL 1).length : Int))
    have g := wdB_in _ _ h0.2 (txt_fc 1 (by omega)).1 y
    rw [show ((txtL 1).length : Int) = 6 from rfl] at *
    rw [show ((txtL ((1 : Nat) : Int)).length : Int) = 6 from rfl] at g
    rw [if_pos y] at hr
    rw [eτ]
    ((conv => whnf); (repeat' (first | (refine ⟨fun _ => ?_, fun _ => ?_⟩ <;> first | (exfalso; omega) | (conv => whnf)) | (refine ⟨by omega, ?_⟩; conv => whnf) | (intro _; conv => whnf))))
    refine t_X3_readLayer (by omega) (by omega) (fo.txt ht) (by rw [fv]; exact hs) hw f3 (by omega) ⟨fun D' p' e σ' a b c => ?_, fun e σ' c => ?_⟩
    · ((conv => whnf); (repeat' (first | (refine ⟨fun _ => ?_, fun _ => ?_⟩ <;> first | (exfalso; omega) | (conv => whnf)) | (refine ⟨by omega, ?_⟩; conv => whnf) | (intro _; conv => whnf))))
      exact (hr.mv fo).1 D' p' e σ' a b c
    · ((conv => whnf); (repeat' (first | (refine ⟨fun _ => ?_, fun _ => ?_⟩ <;> first | (exfalso; omega) | (conv => whnf)) | (refine ⟨by omega, ?_⟩; conv => whnf) | (intro _; conv => whnf))))
      exact (hr.mv fo).2 e σ' c
  rw [if_neg (tf y1)] at hr
  ((conv => whnf); (repeat' (first | (refine ⟨fun _ => ?_, fun _ => ?_⟩ <;> first | (exfalso; omega) | (conv => whnf)) | (refine ⟨by omega, ?_⟩; conv => whnf) | (intro _; conv => whnf))))
  refine t_X3_skipWord (by omega) (by omega) ht hp h0 (fun y => ?_) (fun y2 => ?_)
  · obtain ⟨τ, eτ, f16, f20, f5, f2, fv, fo, f3⟩ := at_f σ (p + ((txtL 2).length : Int))
    have g := wdB_in _ _ h0.2 (txt_fc 2 (by omega)).1 y
    rw [show ((txtL 2).length : Int) = 6 from rfl] at *
    rw [show ((txtL ((2 : Nat) : Int)).length : Int) = 6 from rfl] at g
    rw [if_pos y] at hr
    rw [eτ]
    ((conv => whnf); (repeat' (first | (refine ⟨fun _ => ?_, fun _ => ?_⟩ <;> first | (exfalso; omega) | (conv => whnf)) | (refine ⟨by omega, ?_⟩; conv => whnf) | (intro _; conv => whnf))))
    refine t_X3_readLayer (by omega) (by omega) (fo.txt ht) (by rw [fv]; exact hs) hw f3 (by omega) ⟨fun D' p' e σ' a b c => ?_, fun e σ' c => ?_⟩
    · ((conv => whnf); (repeat' (first | (refine ⟨fun _ => ?_, fun _ => ?_⟩ <;> first | (exfalso; omega) | (conv => whnf)) | (refine ⟨by omega, ?_⟩; conv => whnf) | (intro _; conv => whnf))))
      exact (hr.mv fo).1 D' p' e σ' a b c
    · ((conv => whnf); (repeat' (first | (refine ⟨fun _ => ?_, fun _ => ?_⟩ <;> first | (exfalso; omega) | (conv => whnf)) | (refine ⟨by omega, ?_⟩; conv => whnf) | (intro _; conv => whnf))))
      exact (hr.mv fo).2 e σ' c
  rw [if_neg (tf y2)] at hr
  ((conv => whnf); (repeat' (first | (refine ⟨fun _ => ?_, fun _ => ?_⟩ <;> first | (exfalso; omega) | (conv => whnf)) | (refine ⟨by omega, ?_⟩; conv => whnf) | (intro _; conv => whnf))))
  refine t_X3_skipWord (by omega) (by omega) ht hp h0 (fun y => ?_) (fun y3 => ?_)
  · obtain ⟨τ, eτ, f16, f20, f5, f2, fv, fo, f3⟩ := at_f σ (p + ((txtL 3).length : Int))
    have g := wdB_in _ _ h0.2 (txt_fc 3 (by omega)).1 y
    rw [show ((txtL 3).length : Int) = 4 from rfl] at *
    rw [show ((txtL ((3 : Nat) : Int)).length : Int) = 4 from rfl] at g
    rw [if_pos y] at hr
    rw [eτ]
    ((conv => whnf); (repeat' (first | (refine ⟨fun _ => ?_, fun _ => ?_⟩ <;> first | (exfalso; omega) | (conv => whnf)) | (refine ⟨by omega, ?_⟩; conv => whnf) | (intro _; conv => whnf))))
    refine t_X3_readGap (by omega) (fo.txt ht) (by rw [fv]; exact hs) hw f3 (by omega) ⟨fun D' p' e σ' a b c => ?_, fun e σ' c => ?_⟩
    · ((conv => whnf); (repeat' (first | (refine ⟨fun _ => ?_, fun _ => ?_⟩ <;> first | (exfalso; omega) | (conv => whnf)) | (refine ⟨by omega, ?_⟩; conv => whnf) | (intro _; conv => whnf))))
      exact (hr.mv fo).1 D' p' e σ' a b c
    · ((conv => whnf); (repeat' (first | (refine ⟨fun _ => ?_, fun _ => ?_⟩ <;> first | (exfalso; omega) | (conv => whnf)) | (refine ⟨by omega, ?_⟩; conv => whnf) | (intro _; conv => whnf))))
      exact (hr.mv fo).2 e σ' c
  rw [if_neg (tf y3)] at hr
  ((conv => whnf); (repeat' (first | (refine ⟨fun _ => ?_, fun _ => ?_⟩ <;> first | (exfalso; omega) | (conv => whnf)) | (refine ⟨by omega, ?_⟩; conv => whnf) | (intro _; conv => whnf))))
  refine t_X3_skipWord (by omega) (by omega) ht hp h0 (fun y => ?_) (fun y4 => ?_)
  · obtain ⟨τ, eτ, f16, f20, f5, f2, fv, fo, f3⟩ := at_f σ (p + ((txtL 4).length : Int))
    have g := wdB_in _ _ h0.2 (txt_fc 4 (by omega)).1 y
    rw [show ((txtL 4).length : Int) = 4 from rfl] at *
    rw [show ((txtL ((4 : Nat) : Int)).length : Int) = 4 from rfl] at g
    rw [if_pos y] at hr
    rw [eτ]
    ((conv => whnf); (repeat' (first | (refine ⟨fun _ => ?_, fun _ => ?_⟩ <;> first | (exfalso; omega) | (conv => whnf)) | (refine ⟨by omega, ?_⟩; conv => whnf) | (intro _; conv => whnf))))
    refine t_X3_readAsh (by omega) (fo.txt ht) (by rw [fv]; exact hs) hw f3 (by omega) ⟨fun D' p' e σ' a b c => ?_, fun e σ' c => ?_⟩
    · ((conv => whnf); (repeat' (first | (refine ⟨fun _ => ?_, fun _ => ?_⟩ <;> first | (exfalso; omega) | (conv => whnf)) | (refine ⟨by omega, ?_⟩; conv => whnf) | (intro _; conv => whnf))))
      exact (hr.mv fo).1 D' p' e σ' a b c
    · ((conv => whnf); (repeat' (first | (refine ⟨fun _ => ?_, fun _ => ?_⟩ <;> first | (exfalso; omega) | (conv => whnf)) | (refine ⟨by omega, ?_⟩; conv => whnf) | (intro _; conv => whnf))))
      exact (hr.mv fo).2 e σ' c
  rw [if_neg (tf y4)] at hr
  ((conv => whnf); (repeat' (first | (refine ⟨fun _ => ?_, fun _ => ?_⟩ <;> first | (exfalso; omega) | (conv => whnf)) | (refine ⟨by omega, ?_⟩; conv => whnf) | (intro _; conv => whnf))))
  exact hr.2 rfl σ offS.rf
theorem cmdF_ok {tl : Int} {tx : Int → Int} {p : Int} {D D' : KV} {p' : Int} (h0 : 0 ≤ p ∧ p ≤ tl) (hw : WFK D) (h : cmdF tl tx p D = some (D', p')) : WFK D' ∧ p < p' ∧ p' ≤ tl := by
  have hn := hw.1
  have hm := hw.2.1
  have LQ : ∀ k q, 0 ≤ k ∧ k ≤ 2 → p ≤ q → q ≤ tl → layF tl tx k q D = some (D', p') → WFK D' ∧ p < p' ∧ p' ≤ tl := by
    intro k q hk q0 q1 e
    unfold layF at e
    have b := numF_b (tl := tl) (tx := tx) 3 (-1) q (by omega) q1 (by omega)
    by_cases c : (1 ≤ (numF tl tx 3 (-1) q).1 ∧ (numF tl tx 3 (-1) q).1 ≤ 99) ∧ D 7 0 < 50 ∧ sg tl tx (numF tl tx 3 (-1) q).2 = 59
    · rw [if_pos c, Option.some.injEq, Prod.mk.injEq] at e
      obtain ⟨e1, e2⟩ := e
      have := sg_in c.2.2 (by omega)
      subst e1
      exact ⟨WFK_ins hw c.2.1 ⟨hn.1, Int.le_refl _⟩ c.1 hk (by omega), by omega, by omega⟩
    · rw [if_neg c] at e
      cases e
  have L6 : ∀ n : Nat, n < 5 → wdB tl tx (txtL (n : Int)) p = true → p + ((txtL (n : Int)).length : Int) ≤ tl := fun n hn y => wdB_in _ _ h0.2 (txt_fc n hn).1 y
  unfold cmdF at h
  by_cases y : wdB tl tx (txtL 0) p = true
  · rw [if_pos y] at h
    have := L6 0 (by omega) y
    rw [show ((txtL ((0 : Nat) : Int)).length : Int) = 6 from rfl] at this
    exact LQ 0 _ (by omega) (by omega) (by omega) h
  rw [if_neg y] at h
  by_cases y : wdB tl tx (txtL 1) p = true
  · rw [if_pos y] at h
    have := L6 1 (by omega) y
    rw [show ((txtL ((1 : Nat) : Int)).length : Int) = 6 from rfl] at this
    exact LQ 1 _ (by omega) (by omega) (by omega) h
  rw [if_neg y] at h
  by_cases y : wdB tl tx (txtL 2) p = true
  · rw [if_pos y] at h
    have := L6 2 (by omega) y
    rw [show ((txtL ((2 : Nat) : Int)).length : Int) = 6 from rfl] at this
    exact LQ 2 _ (by omega) (by omega) (by omega) h
  rw [if_neg y] at h
  by_cases y : wdB tl tx (txtL 3) p = true
  · rw [if_pos y] at h
    have := L6 3 (by omega) y
    rw [show ((txtL ((3 : Nat) : Int)).length : Int) = 4 from rfl] at this
    have b := numF_b (tl := tl) (tx := tx) 3 (-1) (p + 4) (by omega) (by omega) (by omega)
    unfold gapF at h
    by_cases c : (0 ≤ (numF tl tx 3 (-1) (p + 4)).1 ∧ (numF tl tx 3 (-1) (p + 4)).1 ≤ 20) ∧ D 7 0 ≠ 0 ∧ sg tl tx (numF tl tx 3 (-1) (p + 4)).2 = 59
    · rw [if_pos c, Option.some.injEq, Prod.mk.injEq] at h
      obtain ⟨e1, e2⟩ := h
      have := sg_in c.2.2 (by omega)
      subst e1
      exact ⟨WFK_setL hw (by omega) (by omega), by omega, by omega⟩
    · rw [if_neg c] at h
      cases h
  rw [if_neg y] at h
  by_cases y : wdB tl tx (txtL 4) p = true
  · rw [if_pos y] at h
    have := L6 4 (by omega) y
    rw [show ((txtL ((4 : Nat) : Int)).length : Int) = 4 from rfl] at this
    have b := numF_b (tl := tl) (tx := tx) 3 (-1) (p + 4) (by omega) (by omega) (by omega)
    unfold ashF ashG at h
    split at h
    · rename_i c
      rw [Option.some.injEq, Prod.mk.injEq] at h
      obtain ⟨e1, e2⟩ := h
      have s1 := sg_in c.2.1 (by omega)
      have s2 := sg_in c.2.2.2.1 (by omega)
      have b2 := numF_b (tl := tl) (tx := tx) 3 (-1) ((numF tl tx 3 (-1) (p + 4)).2 + 1) (by omega) (by omega) (by omega)
      subst e1
      exact ⟨WFK_insA hw c.2.2.2.2.2.1 (by omega) c.1 c.2.2.1 c.2.2.2.2.2.2, by omega, by omega⟩
    · cases h
  rw [if_neg y] at h
  cases h
theorem vw_empty {σ : Sto} (c : Int) : strip (vwC (upS (upS σ 16 c 7 0) 16 c 8 0) c) = emK := by
  funext q
  unfold vwC emK
  rw [up_j (by decide), up_hit, up_hit, up_k (by decide), up_k (by decide), up_k (by decide), up_k (by decide), up_k (by decide), up_k (by decide), up_k (by decide), up_k (by decide), up_k (by decide), up_k (by decide), up_k (by decide), up_k (by decide), up_k (by decide), up_k (by decide)]
  rcases q with _ | _ | _ | _ | _ | _ | _ | _ | q <;> first | rfl | (show mask 0 _ = mask 0 _; rw [mask_0, mask_0]) | (show (fun _ => 0) = mask 4 (fun _ => 0); funext j; unfold mask; split <;> rfl)
theorem parF_s {tl : Int} {tx : Int → Int} (n : Nat) (p : Int) (D : KV) : parF tl tx (n + 1) p D = if p < tl then (match cmdF tl tx p D with
    | none => (p, D)
    | some (D', p') => parF tl tx n p' D') else (-4, D) := rfl
theorem t_X3_read {d : Nat} (hd : 5 ≤ d) {σ : Sto} {Q : Post} {tl : Int} {tx : Int → Int} (ht : TxtR σ tl tx) (hq : ∀ σ' r, (parF tl tx 90 0 emK).1 = r → (r = -4 → strip (vwC σ' 1) = (parF tl tx 90 0 emK).2 ∧ WFK (parF tl tx 90 0 emK).2) → offS σ σ' → Q (some (.inl r)) σ') : WPd d m_X3_read [.inr (2, 0)] σ Q := by
  obtain ⟨d, rfl⟩ : ∃ k, d = k + 1 := ⟨d - 1, by omega⟩
  intro P hP
  have L : ∀ (m : Nat) (c p : Int) (D : KV) (τ : Sto), m = (90 - c).toNat → 0 ≤ c → c ≤ 90 → c ≤ p → p ≤ tl → τ 2 0 3 = p → τ 2 0 2 = tl → offS σ τ → strip (vwC τ 1) = D → WFK D → parF tl tx 90 0 emK = parF tl tx m p D → ∀ ls : List AV, ls = [] ∨ (∃ x, ls = [.inl x]) → P 14 (.inr (2, 0) :: .inl c :: ls) [] τ := by
    intro m
    have ht2 := ht.2.1
    induction m with
    | zero =>
      intro c p D τ hm c0 c1 p0 p1 s3 s2 fo hs hw he ls hl
      rw [he] at hq
      (refine go (t := tb_X3_read) (WPd_mono d) hP 60 [14] ?_; (conv => whnf); (repeat' (first | (refine ⟨fun _ => ?_, fun _ => ?_⟩ <;> first | (exfalso; omega) | (conv => whnf)) | (refine ⟨by omega, ?_⟩; conv => whnf) | (intro _; conv => whnf))))
      exact hq τ _ rfl (fun _ => ⟨hs, hw⟩) fo
    | succ m ih =>
      intro c p D τ hm c0 c1 p0 p1 s3 s2 fo hs hw he ls hl
      rw [parF_s m p D] at he
      have E : τ 2 0 2 ≤ τ 2 0 3 → Q (some (.inl (-4))) τ := fun z => by
        rw [if_neg (by omega)] at he
        rw [he] at hq
        exact hq τ _ rfl (fun _ => ⟨hs, hw⟩) fo
      have F : τ 2 0 3 < τ 2 0 2 → ∀ R : Post, (∀ σ', Q (some (.inl (τ 2 0 3))) σ' → R (some (.inl 0)) σ') → (∀ σ', (∀ ls : List AV, ls = [] ∨ (∃ x, ls = [.inl x]) → P 14 (.inr (2, 0) :: .inl (c + 1) :: ls) [] σ') → R (some (.inl 1)) σ') → WPd d m_X3_readCommand [.inr (2, 0)] τ R := by
        intro z R hR0 hR1
        rw [if_pos (by omega)] at he
        refine t_X3_readCommand (by omega) (fo.txt ht) hs hw s3 (by omega) ⟨fun D' p' e σ' a b k => hR1 _ (fun ls hl => ?_), fun e σ' k => hR0 _ ?_⟩
        · obtain ⟨w1, w2, w3⟩ := cmdF_ok (by omega) hw e
          rw [e] at he
          exact ih _ p' D' σ' (by omega) (by omega) (by omega) (by omega) w3 b (by rw [k.2 2 (by omega)]; exact s2) (fo.tr k) a w1 he ls hl
        · rw [e] at he
          rw [he] at hq
          rw [s3]
          exact hq σ' _ rfl (fun z => by have : p = -4 := z; omega) (fo.tr k)
      rcases hl with rfl | ⟨x, rfl⟩
      · (refine go (t := tb_X3_read) (WPd_mono d) hP 60 [14] ?_; (conv => whnf); (repeat' (first | (refine ⟨fun _ => ?_, fun _ => ?_⟩ <;> first | (exfalso; omega) | (conv => whnf)) | (refine ⟨by omega, ?_⟩; conv => whnf) | (intro _; conv => whnf))))
        · exact E (by omega)
        · refine F (by omega) _ (fun σ' hR => ?_) (fun σ' hR => ?_)
          · ((conv => whnf); (repeat' (first | (refine ⟨fun _ => ?_, fun _ => ?_⟩ <;> first | (exfalso; omega) | (conv => whnf)) | (refine ⟨by omega, ?_⟩; conv => whnf) | (intro _; conv => whnf))))
            exact hR
          · ((conv => whnf); (repeat' (first | (refine ⟨fun _ => ?_, fun _ => ?_⟩ <;> first | (exfalso; omega) | (conv => whnf)) | (refine ⟨by omega, ?_⟩; conv => whnf) | (intro _; conv => whnf))))
            exact hR _ (Or.inr ⟨_, rfl⟩)
      · (refine go (t := tb_X3_read) (WPd_mono d) hP 60 [14] ?_; (conv => whnf); (repeat' (first | (refine ⟨fun _ => ?_, fun _ => ?_⟩ <;> first | (exfalso; omega) | (conv => whnf)) | (refine ⟨by omega, ?_⟩; conv => whnf) | (intro _; conv => whnf))))
        · exact E (by omega)
        · refine F (by omega) _ (fun σ' hR => ?_) (fun σ' hR => ?_)
          · ((conv => whnf); (repeat' (first | (refine ⟨fun _ => ?_, fun _ => ?_⟩ <;> first | (exfalso; omega) | (conv => whnf)) | (refine ⟨by omega, ?_⟩; conv => whnf) | (intro _; conv => whnf))))
            exact hR
          · ((conv => whnf); (repeat' (first | (refine ⟨fun _ => ?_, fun _ => ?_⟩ <;> first | (exfalso; omega) | (conv => whnf)) | (refine ⟨by omega, ?_⟩; conv => whnf) | (intro _; conv => whnf))))
            exact hR _ (Or.inr ⟨_, rfl⟩)
  have ht2 := ht.2.1
  (refine go (t := tb_X3_read) (WPd_mono d) hP 60 [14] ?_; (conv => whnf); (repeat' (first | (refine ⟨fun _ => ?_, fun _ => ?_⟩ <;> first | (exfalso; omega) | (conv => whnf)) | (refine ⟨by omega, ?_⟩; conv => whnf) | (intro _; conv => whnf))))
  refine t_X0_empty (by omega) ?_
  ((conv => whnf); (repeat' (first | (refine ⟨fun _ => ?_, fun _ => ?_⟩ <;> first | (exfalso; omega) | (conv => whnf)) | (refine ⟨by omega, ?_⟩; conv => whnf) | (intro _; conv => whnf))))
  refine L 90 0 0 emK _ rfl (by omega) (by omega) (by omega) (by omega) up_hit (by rw [up_j (by decide), up_k (by decide), up_k (by decide)]; exact ht.1) ?_ ?_ emK_wf rfl [] (Or.inl rfl)
  · exact (offS.core ((offC.rf.up (by omega)).up (by omega))).tr offS.at
  · rw [vwC_cg (fun k k0 k1 => up_k (by omega))]
    exact vw_empty 1
