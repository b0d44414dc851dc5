/-! THE TEXT: fault and lay of the model -/
theorem t_X5_readsCommand {d : Nat} (hd : 4 ≤ d) {σ : Sto} {Q : Post} {tl : Int} {tx : Int → Int} {p : Int} {D : KV} (ht : TxtM σ tl tx) (hs : strip (vwM (σ 30 0)) = D) (hw : WFK D) (hp : σ 26 0 5 = p) (h0 : 0 ≤ p ∧ p ≤ tl) (hr : rdM (cmdH tl tx p D) σ Q) : WPd d m_X5_readsCommand [.inr (26, 0)] σ Q := by
  obtain ⟨d, rfl⟩ : ∃ k, d = k + 1 := ⟨d - 1, by omega⟩
  intro P hP
  have tf : ∀ {b : Bool}, b = false → ¬ b = true := fun h => by rw [h]; decide
  have L6 : ∀ n : Nat, n < 5 → wdB tl tx (txtL (n : Int)) p = true → p + ((txtL (n : Int)).length : Int) ≤ tl := fun n hn y => wdB_in _ _ h0.2 (txt_fc n hn).1 y
  unfold cmdH at hr
  (refine go (t := tb_X5_readsCommand) (WPd_mono d) hP 80 [] ?_; (conv => whnf); (repeat' (first | (refine ⟨fun _ => ?_, fun _ => ?_⟩ <;> first | (exfalso; omega) | (conv => whnf)) | (refine ⟨by omega, ?_⟩; conv => whnf) | (intro _; conv => whnf))))
  refine t_X5_isWord (by omega) (by omega) (by omega) (by omega) (by omega) (by omega) ht hp h0 (fun y => ?_) (fun y => ?_)
  · have y : wdB tl tx (txtL 0) p = true := y
    rw [if_pos y] at hr
    have g := L6 0 (by omega) y
    rw [show ((txtL ((0 : Nat) : Int)).length : Int) = 6 from rfl] at g
    obtain ⟨τ, eτ, f30, fo, f5⟩ := am_f σ (p + 6)
    rw [eτ]
    ((conv => whnf); (repeat' (first | (refine ⟨fun _ => ?_, fun _ => ?_⟩ <;> first | (exfalso; omega) | (conv => whnf)) | (refine ⟨by omega, ?_⟩; conv => whnf) | (intro _; conv => whnf))))
    refine t_X5_readsLayer (by omega) (by omega) (fo.txt ht) (by rw [f30]; exact hs) hw f5 (by omega) ⟨fun D' p' e σ' a b c => ?_, fun e σ' c => ?_⟩
    · ((conv => whnf); (repeat' (first | (refine ⟨fun _ => ?_, fun _ => ?_⟩ <;> first | (exfalso; omega) | (conv => whnf)) | (refine ⟨by omega, ?_⟩; conv => whnf) | (intro _; conv => whnf))))
      exact (hr.mv fo).1 D' p' e σ' a b c
    · ((conv => whnf); (repeat' (first | (refine ⟨fun _ => ?_, fun _ => ?_⟩ <;> first | (exfalso; omega) | (conv => whnf)) | (refine ⟨by omega, ?_⟩; conv => whnf) | (intro _; conv => whnf))))
      exact (hr.mv fo).2 e σ' c
  have y : wdB tl tx (txtL 0) p = false := y
  rw [if_neg (tf y)] at hr
  ((conv => whnf); (repeat' (first | (refine ⟨fun _ => ?_, fun _ => ?_⟩ <;> first | (exfalso; omega) | (conv => whnf)) | (refine ⟨by omega, ?_⟩; conv => whnf) | (intro _; conv => whnf))))
  refine t_X5_isWord (by omega) (by omega) (by omega) (by omega) (by omega) (by omega) ht hp h0 (fun y => ?_) (fun y => ?_)
  · have y : wdB tl tx (txtL 1) p = true := y
    rw [if_pos y] at hr
    have g := L6 1 (by omega) y
    rw [show ((txtL ((1 : Nat) : Int)).length : Int) = 6 from rfl] at g
    obtain ⟨τ, eτ, f30, fo, f5⟩ := am_f σ (p + 6)
    rw [eτ]
    ((conv => whnf); (repeat' (first | (refine ⟨fun _ => ?_, fun _ => ?_⟩ <;> first | (exfalso; omega) | (conv => whnf)) | (refine ⟨by omega, ?_⟩; conv => whnf) | (intro _; conv => whnf))))
    refine t_X5_readsLayer (by omega) (by omega) (fo.txt ht) (by rw [f30]; exact hs) hw f5 (by omega) ⟨fun D' p' e σ' a b c => ?_, fun e σ' c => ?_⟩
    · ((conv => whnf); (repeat' (first | (refine ⟨fun _ => ?_, fun _ => ?_⟩ <;> first | (exfalso; omega) | (conv => whnf)) | (refine ⟨by omega, ?_⟩; conv => whnf) | (intro _; conv => whnf))))
      exact (hr.mv fo).1 D' p' e σ' a b c
    · ((conv => whnf); (repeat' (first | (refine ⟨fun _ => ?_, fun _ => ?_⟩ <;> first | (exfalso; omega) | (conv => whnf)) | (refine ⟨by omega, ?_⟩; conv => whnf) | (intro _; conv => whnf))))
      exact (hr.mv fo).2 e σ' c
  have y : wdB tl tx (txtL 1) p = false := y
  rw [if_neg (tf y)] at hr
  ((conv => whnf); (repeat' (first | (refine ⟨fun _ => ?_, fun _ => ?_⟩ <;> first | (exfalso; omega) | (conv => whnf)) | (refine ⟨by omega, ?_⟩; conv => whnf) | (intro _; conv => whnf))))
  refine t_X5_isWord (by omega) (by omega) (by omega) (by omega) (by omega) (by omega) ht hp h0 (fun y => ?_) (fun y => ?_)
  · have y : wdB tl tx (txtL 2) p = true := y
    rw [if_pos y] at hr
    have g := L6 2 (by omega) y
    rw [show ((txtL ((2 : Nat) : Int)).length : Int) = 6 from rfl] at g
    obtain ⟨τ, eτ, f30, fo, f5⟩ := am_f σ (p + 6)
    rw [eτ]
    ((conv => whnf); (repeat' (first | (refine ⟨fun _ => ?_, fun _ => ?_⟩ <;> first | (exfalso; omega) | (conv => whnf)) | (refine ⟨by omega, ?_⟩; conv => whnf) | (intro _; conv => whnf))))
    refine t_X5_readsLayer (by omega) (by omega) (fo.txt ht) (by rw [f30]; exact hs) hw f5 (by omega) ⟨fun D' p' e σ' a b c => ?_, fun e σ' c => ?_⟩
    · ((conv => whnf); (repeat' (first | (refine ⟨fun _ => ?_, fun _ => ?_⟩ <;> first | (exfalso; omega) | (conv => whnf)) | (refine ⟨by omega, ?_⟩; conv => whnf) | (intro _; conv => whnf))))
      exact (hr.mv fo).1 D' p' e σ' a b c
    · ((conv => whnf); (repeat' (first | (refine ⟨fun _ => ?_, fun _ => ?_⟩ <;> first | (exfalso; omega) | (conv => whnf)) | (refine ⟨by omega, ?_⟩; conv => whnf) | (intro _; conv => whnf))))
      exact (hr.mv fo).2 e σ' c
  have y : wdB tl tx (txtL 2) p = false := y
  rw [if_neg (tf y)] at hr
  ((conv => whnf); (repeat' (first | (refine ⟨fun _ => ?_, fun _ => ?_⟩ <;> first | (exfalso; omega) | (conv => whnf)) | (refine ⟨by omega, ?_⟩; conv => whnf) | (intro _; conv => whnf))))
  refine t_X5_isWord3 (by omega) (by omega) (by omega) (by omega) ht hp h0 (fun y => ?_) (fun y => ?_)
  · have y : wdB tl tx (txtL 3) p = true := y
    rw [if_pos y] at hr
    have g := L6 3 (by omega) y
    rw [show ((txtL ((3 : Nat) : Int)).length : Int) = 4 from rfl] at g
    obtain ⟨τ, eτ, f30, fo, f5⟩ := am_f σ (p + 4)
    rw [eτ]
    ((conv => whnf); (repeat' (first | (refine ⟨fun _ => ?_, fun _ => ?_⟩ <;> first | (exfalso; omega) | (conv => whnf)) | (refine ⟨by omega, ?_⟩; conv => whnf) | (intro _; conv => whnf))))
    refine t_X5_readsGap (by omega) (fo.txt ht) (by rw [f30]; exact hs) hw f5 (by omega) ⟨fun D' p' e σ' a b c => ?_, fun e σ' c => ?_⟩
    · ((conv => whnf); (repeat' (first | (refine ⟨fun _ => ?_, fun _ => ?_⟩ <;> first | (exfalso; omega) | (conv => whnf)) | (refine ⟨by omega, ?_⟩; conv => whnf) | (intro _; conv => whnf))))
      exact (hr.mv fo).1 D' p' e σ' a b c
    · ((conv => whnf); (repeat' (first | (refine ⟨fun _ => ?_, fun _ => ?_⟩ <;> first | (exfalso; omega) | (conv => whnf)) | (refine ⟨by omega, ?_⟩; conv => whnf) | (intro _; conv => whnf))))
      exact (hr.mv fo).2 e σ' c
  have y : wdB tl tx (txtL 3) p = false := y
  rw [if_neg (tf y)] at hr
  ((conv => whnf); (repeat' (first | (refine ⟨fun _ => ?_, fun _ => ?_⟩ <;> first | (exfalso; omega) | (conv => whnf)) | (refine ⟨by omega, ?_⟩; conv => whnf) | (intro _; conv => whnf))))
  refine t_X5_isWord3 (by omega) (by omega) (by omega) (by omega) ht hp h0 (fun y => ?_) (fun y => ?_)
  · have y : wdB tl tx (txtL 4) p = true := y
    rw [if_pos y] at hr
    have g := L6 4 (by omega) y
    rw [show ((txtL ((4 : Nat) : Int)).length : Int) = 4 from rfl] at g
    obtain ⟨τ, eτ, f30, fo, f5⟩ := am_f σ (p + 4)
    rw [eτ]
    ((conv => whnf); (repeat' (first | (refine ⟨fun _ => ?_, fun _ => ?_⟩ <;> first | (exfalso; omega) | (conv => whnf)) | (refine ⟨by omega, ?_⟩; conv => whnf) | (intro _; conv => whnf))))
    refine t_X5_readsAsh (by omega) (fo.txt ht) (by rw [f30]; exact hs) hw f5 (by omega) ⟨fun D' p' e σ' a b c => ?_, fun e σ' c => ?_⟩
    · ((conv => whnf); (repeat' (first | (refine ⟨fun _ => ?_, fun _ => ?_⟩ <;> first | (exfalso; omega) | (conv => whnf)) | (refine ⟨by omega, ?_⟩; conv => whnf) | (intro _; conv => whnf))))
      exact (hr.mv fo).1 D' p' e σ' a b c
    · ((conv => whnf); (repeat' (first | (refine ⟨fun _ => ?_, fun _ => ?_⟩ <;> first | (exfalso; omega) | (conv => whnf)) | (refine ⟨by omega, ?_⟩; conv => whnf) | (intro _; conv => whnf))))
      exact (hr.mv fo).2 e σ' c
  have y : wdB tl tx (txtL 4) p = false := y
  rw [if_neg (tf y)] at hr
  ((conv => whnf); (repeat' (first | (refine ⟨fun _ => ?_, fun _ => ?_⟩ <;> first | (exfalso; omega) | (conv => whnf)) | (refine ⟨by omega, ?_⟩; conv => whnf) | (intro _; conv => whnf))))
  exact hr.2 rfl σ offM.rf
theorem cmdH_ok {tl : Int} {tx : Int → Int} {p : Int} {D D' : KV} {p' : Int} (h0 : 0 ≤ p ∧ p ≤ tl) (h : cmdH tl tx p D = some (D', p')) : p ≤ p' ∧ p' ≤ tl := by
  have L6 : ∀ n : Nat, n < 5 → wdB tl tx (txtL (n : Int)) p = true → p + ((txtL (n : Int)).length : Int) ≤ tl := fun n hn y => wdB_in _ _ h0.2 (txt_fc n hn).1 y
  have LQ : ∀ k q, p ≤ q → q ≤ tl → layH tl tx k q D = some (D', p') → p ≤ p' ∧ p' ≤ tl := fun k q q0 q1 e => by
    have b := numF_b (tl := tl) (tx := tx) 3 (-1) q (by omega) q1 (by omega)
    unfold layH at e
    split at e
    · rw [Option.some.injEq, Prod.mk.injEq] at e
      omega
    · cases e
  unfold cmdH at h
  by_cases y : wdB tl tx (txtL 0) p = true
  · rw [if_pos y] at h
    have := L6 0 (by omega) y
    rw [show ((txtL ((0 : Nat) : Int)).length : Int) = 6 from rfl] at this
    exact LQ 0 _ (by omega) (by omega) h
  rw [if_neg y] at h
  by_cases y : wdB tl tx (txtL 1) p = true
  · rw [if_pos y] at h
    have := L6 1 (by omega) y
    rw [show ((txtL ((1 : Nat) : Int)).length : Int) = 6 from rfl] at this
    exact LQ 1 _ (by omega) (by omega) h
  rw [if_neg y] at h
  by_cases y : wdB tl tx (txtL 2) p = true
  · rw [if_pos y] at h
    have := L6 2 (by omega) y
    rw [show ((txtL ((2 : Nat) : Int)).length : Int) = 6 from rfl] at this
    exact LQ 2 _ (by omega) (by omega) h
  rw [if_neg y] at h
  by_cases y : wdB tl tx (txtL 3) p = true
  · rw [if_pos y] at h
    have := L6 3 (by omega) y
    rw [show ((txtL ((3 : Nat) : Int)).length : Int) = 4 from rfl] at this
    have b := numF_b (tl := tl) (tx := tx) 3 (-1) (p + 4) (by omega) (by omega) (by omega)
    unfold gapH at h
    split at h
    · rw [Option.some.injEq, Prod.mk.injEq] at h
      omega
    · cases h
  rw [if_neg y] at h
  by_cases y : wdB tl tx (txtL 4) p = true
  · rw [if_pos y] at h
    have := L6 4 (by omega) y
    rw [show ((txtL ((4 : Nat) : Int)).length : Int) = 4 from rfl] at this
    have b := numF_b (tl := tl) (tx := tx) 3 (-1) (p + 4) (by omega) (by omega) (by omega)
    unfold ashH ashK at h
    split at h
    · rename_i c
      rw [Option.some.injEq, Prod.mk.injEq] at h
      have s1 := sg_in c.2.1 (by omega)
      have b2 := numF_b (tl := tl) (tx := tx) 3 (-1) ((numF tl tx 3 (-1) (p + 4)).2 + 1) (by omega) (by omega) (by omega)
      omega
    · cases h
  rw [if_neg y] at h
  cases h
theorem vm_zero {f : Int → Int} (h : ∀ j, 0 ≤ j → j < 174 → f j = 0) : strip (vwM f) = emK := by
  rw [vm_mk (f := f) (n := 0) (a := 0) (f0 := fun _ => 0) (f1 := fun _ => 0) (f2 := fun _ => 0) (f3 := fun _ => 0) (f4 := fun _ => 0) (f5 := fun _ => 0) (f6 := fun _ => 0) (h 0 (by omega) (by omega)) (h 151 (by omega) (by omega)) (fun j j0 j1 => by omega) (fun j j0 j1 => by omega) (fun j j0 j1 => h _ (by omega) (by omega))]
  funext q
  rcases q with _ | _ | _ | _ | _ | _ | _ | _ | q <;> first | rfl | (show (fun _ => 0) = mask 4 (fun _ => 0); funext j; unfold mask; split <;> rfl)
theorem t_X5_fault {d : Nat} (hd : 5 ≤ d) {σ : Sto} {Q : Post} {tl : Int} {tx : Int → Int} (ht : TxtM σ tl tx) (hq : ∀ σ' r, (parF tl tx 90 0 emK).1 = r → (r = -4 → strip (vwM (σ' 30 0)) = (parF tl tx 90 0 emK).2 ∧ WFK (parF tl tx 90 0 emK).2) → offM σ σ' → Q (some (.inl r)) σ') : WPd d m_X5_fault [.inr (26, 0)] σ Q := by
  obtain ⟨d, rfl⟩ : ∃ k, d = k + 1 := ⟨d - 1, by omega⟩
  intro P hP
  have ht2 := ht.2.1
  have L : ∀ (m : Nat) (p : Int) (D : KV) (τ : Sto), tl - p ≤ m → 0 ≤ p → p ≤ tl → τ 26 0 5 = p → τ 26 0 4 = tl → offM σ τ → strip (vwM (τ 30 0)) = D → WFK D → parF tl tx 90 0 emK = parF tl tx m p D → ∀ ls : List AV, ls = [] ∨ (∃ x, ls = [.inl x]) → P 27 (.inr (26, 0) :: ls) [] τ := by
    intro m
    induction m with
    | zero =>
      intro p D τ hm p0 p1 s3 s2 fo hs hw he ls hl
      rw [he] at hq
      have E := hq τ _ rfl (fun _ => ⟨hs, hw⟩) fo
      rcases hl with rfl | ⟨x, rfl⟩
      · (refine go (t := tb_X5_fault) (WPd_mono d) hP 60 [2, 27] ?_; (conv => whnf); (repeat' (first | (refine ⟨fun _ => ?_, fun _ => ?_⟩ <;> first | (exfalso; omega) | (conv => whnf)) | (refine ⟨by omega, ?_⟩; conv => whnf) | (intro _; conv => whnf))))
        exact E
      · (refine go (t := tb_X5_fault) (WPd_mono d) hP 60 [2, 27] ?_; (conv => whnf); (repeat' (first | (refine ⟨fun _ => ?_, fun _ => ?_⟩ <;> first | (exfalso; omega) | (conv => whnf)) | (refine ⟨by omega, ?_⟩; conv => whnf) | (intro _; conv => whnf))))
        exact E
    | succ m ih =>
      intro p D τ hm p0 p1 s3 s2 fo hs hw he ls hl
      rw [parF_s m p D, cmdH_F] at he
      have E : τ 26 0 4 ≤ τ 26 0 5 → Q (some (.inl (-4))) τ := fun z => by
        rw [if_neg (by omega)] at he
        rw [he] at hq
        exact hq τ _ rfl (fun _ => ⟨hs, hw⟩) fo
      rcases hl with rfl | ⟨x, rfl⟩
      · (refine go (t := tb_X5_fault) (WPd_mono d) hP 60 [2, 27] ?_; (conv => whnf); (repeat' (first | (refine ⟨fun _ => ?_, fun _ => ?_⟩ <;> first | (exfalso; omega) | (conv => whnf)) | (refine ⟨by omega, ?_⟩; conv => whnf) | (intro _; conv => whnf))))
        · exact E (by omega)
        · refine t_X5_readsCommand (by omega) (fo.txt ht) hs hw s3 (by omega) ⟨fun D' p' e σ' a b c => ?_, fun e σ' c => ?_⟩
          · have k := cmdH_ok (by omega) e
            rw [if_pos (by omega), e] at he
            ((conv => whnf); (repeat' (first | (refine ⟨fun _ => ?_, fun _ => ?_⟩ <;> first | (exfalso; omega) | (conv => whnf)) | (refine ⟨by omega, ?_⟩; conv => whnf) | (intro _; conv => whnf))))
            refine t_X5_passes (by omega) (by omega) ((fo.tr c).txt ht) b (by omega) (fun z => ?_) (fun z => ?_)
            · have es : semi tl tx (some (D', p')) = some (D', p' + 1) := if_pos z
              have kk := cmdF_ok (by omega) hw (show cmdF tl tx p D = some (D', p' + 1) by rw [cmdH_F, e, es])
              rw [es] at he
              ((conv => whnf); (repeat' (first | (refine ⟨fun _ => ?_, fun _ => ?_⟩ <;> first | (exfalso; omega) | (conv => whnf)) | (refine ⟨by omega, ?_⟩; conv => whnf) | (intro _; conv => whnf))))
              exact ih (p' + 1) D' _ (by omega) (by omega) kk.2.2 up_hit (by rw [up_j (by decide), c.2 4 (by decide)]; exact s2) ((fo.tr c).tr offM.at) (by rw [up_k (by decide)]; exact a) kk.1 he _ (Or.inr ⟨_, rfl⟩)
            · have es : semi tl tx (some (D', p')) = none := if_neg z
              rw [es] at he
              rw [he] at hq
              ((conv => whnf); (repeat' (first | (refine ⟨fun _ => ?_, fun _ => ?_⟩ <;> first | (exfalso; omega) | (conv => whnf)) | (refine ⟨by omega, ?_⟩; conv => whnf) | (intro _; conv => whnf))))
              rw [s3]
              exact hq σ' _ rfl (fun z => by have : p = -4 := z; omega) (fo.tr c)
          · rw [if_pos (by omega), e] at he
            have es : semi tl tx none = none := rfl
            rw [es] at he
            rw [he] at hq
            ((conv => whnf); (repeat' (first | (refine ⟨fun _ => ?_, fun _ => ?_⟩ <;> first | (exfalso; omega) | (conv => whnf)) | (refine ⟨by omega, ?_⟩; conv => whnf) | (intro _; conv => whnf))))
            rw [s3]
            exact hq σ' _ rfl (fun z => by have : p = -4 := z; omega) (fo.tr c)
      · (refine go (t := tb_X5_fault) (WPd_mono d) hP 60 [2, 27] ?_; (conv => whnf); (repeat' (first | (refine ⟨fun _ => ?_, fun _ => ?_⟩ <;> first | (exfalso; omega) | (conv => whnf)) | (refine ⟨by omega, ?_⟩; conv => whnf) | (intro _; conv => whnf))))
        · exact E (by omega)
        · refine t_X5_readsCommand (by omega) (fo.txt ht) hs hw s3 (by omega) ⟨fun D' p' e σ' a b c => ?_, fun e σ' c => ?_⟩
          · have k := cmdH_ok (by omega) e
            rw [if_pos (by omega), e] at he
            ((conv => whnf); (repeat' (first | (refine ⟨fun _ => ?_, fun _ => ?_⟩ <;> first | (exfalso; omega) | (conv => whnf)) | (refine ⟨by omega, ?_⟩; conv => whnf) | (intro _; conv => whnf))))
            refine t_X5_passes (by omega) (by omega) ((fo.tr c).txt ht) b (by omega) (fun z => ?_) (fun z => ?_)
            · have es : semi tl tx (some (D', p')) = some (D', p' + 1) := if_pos z
              have kk := cmdF_ok (by omega) hw (show cmdF tl tx p D = some (D', p' + 1) by rw [cmdH_F, e, es])
              rw [es] at he
              ((conv => whnf); (repeat' (first | (refine ⟨fun _ => ?_, fun _ => ?_⟩ <;> first | (exfalso; omega) | (conv => whnf)) | (refine ⟨by omega, ?_⟩; conv => whnf) | (intro _; conv => whnf))))
              exact ih (p' + 1) D' _ (by omega) (by omega) kk.2.2 up_hit (by rw [up_j (by decide), c.2 4 (by decide)]; exact s2) ((fo.tr c).tr offM.at) (by rw [up_k (by decide)]; exact a) kk.1 he _ (Or.inr ⟨_, rfl⟩)
            · have es : semi tl tx (some (D', p')) = none := if_neg z
              rw [es] at he
              rw [he] at hq
              ((conv => whnf); (repeat' (first | (refine ⟨fun _ => ?_, fun _ => ?_⟩ <;> first | (exfalso; omega) | (conv => whnf)) | (refine ⟨by omega, ?_⟩; conv => whnf) | (intro _; conv => whnf))))
              rw [s3]
              exact hq σ' _ rfl (fun z => by have : p = -4 := z; omega) (fo.tr c)
          · rw [if_pos (by omega), e] at he
            have es : semi tl tx none = none := rfl
            rw [es] at he
            rw [he] at hq
            ((conv => whnf); (repeat' (first | (refine ⟨fun _ => ?_, fun _ => ?_⟩ <;> first | (exfalso; omega) | (conv => whnf)) | (refine ⟨by omega, ?_⟩; conv => whnf) | (intro _; conv => whnf))))
            rw [s3]
            exact hq σ' _ rfl (fun z => by have : p = -4 := z; omega) (fo.tr c)
  have L1 : ∀ (m : Nat) (k : Int) (τ : Sto), m = (174 - k).toNat → 0 ≤ k → k ≤ 174 → (∀ i j, i ≠ 30 → τ i j = σ i j) → (∀ j, 0 ≤ j → j < k → τ 30 0 j = 0) → P 2 [.inr (26, 0), .inl k] [] τ := by
    intro m
    induction m with
    | zero =>
      intro k τ hm k0 k1 ho hz
      (refine go (t := tb_X5_fault) (WPd_mono d) hP 60 [2, 27] ?_; (conv => whnf); (repeat' (first | (refine ⟨fun _ => ?_, fun _ => ?_⟩ <;> first | (exfalso; omega) | (conv => whnf)) | (refine ⟨by omega, ?_⟩; conv => whnf) | (intro _; conv => whnf))))
      refine L 90 0 emK _ (by omega) (by omega) ht2.1 up_hit (by rw [up_j (by decide), ho 26 0 (by decide)]; exact ht.1) ⟨fun k i a b => by rw [up_k a, ho k i b], fun j hj => by rw [up_j hj, ho 26 0 (by decide)]⟩ ?_ emK_wf rfl [.inl k] (Or.inr ⟨_, rfl⟩)
      rw [up_k (by decide)]
      exact vm_zero (fun j j0 j1 => hz j j0 (by omega))
    | succ m ih =>
      intro k τ hm k0 k1 ho hz
      (refine go (t := tb_X5_fault) (WPd_mono d) hP 60 [2, 27] ?_; (conv => whnf); (repeat' (first | (refine ⟨fun _ => ?_, fun _ => ?_⟩ <;> first | (exfalso; omega) | (conv => whnf)) | (refine ⟨by omega, ?_⟩; conv => whnf) | (intro _; conv => whnf))))
      refine ih (k + 1) _ (by omega) (by omega) (by omega) (fun i j hi => by rw [up_k hi]; exact ho i j hi) (fun j j0 j1 => ?_)
      by_cases e : j = k
      · rw [e, up_hit]
      · rw [up_j e]
        exact hz j j0 (by omega)
  (refine go (t := tb_X5_fault) (WPd_mono d) hP 60 [2, 27] ?_; (conv => whnf); (repeat' (first | (refine ⟨fun _ => ?_, fun _ => ?_⟩ <;> first | (exfalso; omega) | (conv => whnf)) | (refine ⟨by omega, ?_⟩; conv => whnf) | (intro _; conv => whnf))))
  exact L1 _ 0 σ rfl (by omega) (by omega) (fun _ _ _ => rfl) (fun j j0 j1 => by omega)
theorem vm_take {f F G : Int → Int} (hn : F 0 ≤ 50) (ha : F 151 ≤ 6) (e : ∀ j, f j = if 0 ≤ j ∧ j < 170 then F j else G j) : vwM f = takeK (vwM F) (vwM G) := by
  have e0 : f 0 = F 0 := by rw [e, if_pos (by omega)]
  have e1 : f 151 = F 151 := by rw [e, if_pos (by omega)]
  funext q
  rcases q with _ | _ | _ | _ | _ | _ | _ | _ | q
  · show mask (f 0) _ = mask (F 0) _
    rw [e0]
    exact mask_cg fun j j0 j1 => by rw [e, if_pos (by omega)]
  · show mask (f 0) _ = mask (F 0) _
    rw [e0]
    exact mask_cg fun j j0 j1 => by rw [e, if_pos (by omega)]
  · show mask (f 0) _ = mask (F 0) _
    rw [e0]
    exact mask_cg fun j j0 j1 => by rw [e, if_pos (by omega)]
  · show mask (f 151) _ = mask (F 151) _
    rw [e1]
    exact mask_cg fun j j0 j1 => by rw [e, if_pos (by omega)]
  · show mask (f 151) _ = mask (F 151) _
    rw [e1]
    exact mask_cg fun j j0 j1 => by rw [e, if_pos (by omega)]
  · show mask (f 151) _ = mask (F 151) _
    rw [e1]
    exact mask_cg fun j j0 j1 => by rw [e, if_pos (by omega)]
  · show mask 4 _ = mask 4 _
    exact mask_cg fun j j0 j1 => by rw [e, if_neg (by omega)]
  · show cnt7 (f 0) (f 151) = cnt7 (F 0) (F 151)
    rw [e0, e1]
  · rfl
theorem t_X5_lay {d : Nat} (hd : 6 ≤ d) {σ : Sto} {Q : Post} {K : KV} {h : Int} {HK : Int → KV} {tl : Int} {tx : Int → Int} (hC : ModelR σ K h HK tl tx) (hbad : (parF tl tx 90 0 emK).1 ≠ -4 → ∀ σ', ModelR σ' K h HK tl tx → frM σ σ' → Q (some (.inl (-2))) σ') (hok : (parF tl tx 90 0 emK).1 = -4 → ∀ σ', ModelR σ' (takeK (parF tl tx 90 0 emK).2 K) (min 6 (h + 1)) (pushH h HK K) tl tx → frM σ σ' → Q (some (.inl ((parF tl tx 90 0 emK).2 7 0))) σ') : WPd d m_X5_lay [.inr (26, 0)] σ Q := by
  obtain ⟨d, rfl⟩ : ∃ k, d = k + 1 := ⟨d - 1, by omega⟩
  intro P hP
  have ht2 := hC.2.2.2.2.1
  have bp := parF_b (tx := tx) 90 0 emK (by omega) ht2.1 emK_wf
  (refine go (t := tb_X5_lay) (WPd_mono d) hP 60 [18] ?_; (conv => whnf); (repeat' (first | (refine ⟨fun _ => ?_, fun _ => ?_⟩ <;> first | (exfalso; omega) | (conv => whnf)) | (refine ⟨by omega, ?_⟩; conv => whnf) | (intro _; conv => whnf))))
  refine t_X5_fault (by omega) hC.2.2.2 (fun σ' r hr hD fo => ?_)
  obtain ⟨rfl, hw, hh, htx⟩ := hC
  have hT := fo.txt htx
  have f27 : σ' 27 0 = σ 27 0 := fo.1 27 0 (by decide) (by decide)
  have hH : HistM σ' h HK := HistM_off hh (fo.2 2 (by decide)) (fo.1 28 0 (by decide) (by decide))
  have r2 : frM σ σ' := fun k i hk => fo.1 k i (by omega) (by omega)
  rw [hr] at bp hbad hok
  ((conv => whnf); (repeat' (first | (refine ⟨fun _ => ?_, fun _ => ?_⟩ <;> first | (exfalso; omega) | (conv => whnf)) | (refine ⟨by omega, ?_⟩; conv => whnf) | (intro _; conv => whnf))))
  · obtain ⟨d1, d2⟩ := hD (by omega)
    refine t_X5_records (by omega) hH (by rw [f27]; exact hw) (fun σ1 g1 o1 o3 => ?_)
    rw [f27] at g1
    have i30 : σ1 30 0 = σ' 30 0 := o1 30 0 (by decide) (by decide)
    have i27 : σ1 27 0 = σ 27 0 := by rw [o1 27 0 (by decide) (by decide), f27]
    have wd : WFK (strip (vwM (σ1 30 0))) := by rw [i30, d1]; exact d2
    have L : ∀ (m : Nat) (k : Int) (τ : Sto), m = (170 - k).toNat → 0 ≤ k → k ≤ 170 → (∀ i j, i ≠ 27 → τ i j = σ1 i j) → (∀ j, τ 27 0 j = if 0 ≤ j ∧ j < k then σ1 30 0 j else σ1 27 0 j) → P 18 [.inr (26, 0), .inl k] [] τ := by
      intro m
      induction m with
      | zero =>
        intro k τ hm k0 k1 ho hz
        have ek : k = 170 := by omega
        subst ek
        have e2 : vwM (τ 27 0) = takeK (parF tl tx 90 0 emK).2 (vwM (σ 27 0)) := by
          rw [vm_take (F := σ1 30 0) wd.1.2 wd.2.1.2 hz, ← take_strip, i30, d1, i27]
        have e7 : τ 27 0 0 = (parF tl tx 90 0 emK).2 7 0 := by
          rw [← vm_n (τ 27 0), e2]
          rfl
        obtain ⟨c1, c2⟩ := ModelR_chg g1 o1 o3 ho hT e2 (WFK_take d2 hw)
        (refine go (t := tb_X5_lay) (WPd_mono d) hP 60 [18] ?_; (conv => whnf); (repeat' (first | (refine ⟨fun _ => ?_, fun _ => ?_⟩ <;> first | (exfalso; omega) | (conv => whnf)) | (refine ⟨by omega, ?_⟩; conv => whnf) | (intro _; conv => whnf))))
        rw [e7]
        exact hok (by omega) τ c1 (fun k i hk => (c2 k i hk).trans (r2 k i hk))
      | succ m ih =>
        intro k τ hm k0 k1 ho hz
        (refine go (t := tb_X5_lay) (WPd_mono d) hP 60 [18] ?_; (conv => whnf); (repeat' (first | (refine ⟨fun _ => ?_, fun _ => ?_⟩ <;> first | (exfalso; omega) | (conv => whnf)) | (refine ⟨by omega, ?_⟩; conv => whnf) | (intro _; conv => whnf))))
        refine ih (k + 1) _ (by omega) (by omega) (by omega) (fun i j hi => by rw [up_k hi]; exact ho i j hi) (fun j => ?_)
        by_cases e : j = k
        · rw [e, up_hit, if_pos (by omega), ho 30 0 (by decide)]
        · rw [up_j e, hz]
          ((repeat' split) <;> first | rfl | (exfalso; omega) | (congr 1; omega) | omega)
    ((conv => whnf); (repeat' (first | (refine ⟨fun _ => ?_, fun _ => ?_⟩ <;> first | (exfalso; omega) | (conv => whnf)) | (refine ⟨by omega, ?_⟩; conv => whnf) | (intro _; conv => whnf))))
    exact L _ 0 σ1 rfl (by omega) (by omega) (fun _ _ _ => rfl) (fun j => by rw [if_neg (by omega)])
  · exact hbad (by omega) σ' ⟨by rw [f27], hw, hH, hT⟩ r2
theorem t_X5_faultA {d : Nat} (hd : 5 ≤ d) {σ : Sto} {Q : Post} {K : KV} {h : Int} {HK : Int → KV} {tl : Int} {tx : Int → Int} (hC : ModelR σ K h HK tl tx) (hok : ∀ σ', ModelR σ' K h HK tl tx → frM σ σ' → Q (some (.inl (parF tl tx 90 0 emK).1)) σ') : WPd d m_X5_fault [.inr (26, 0)] σ Q := by
  refine t_X5_fault hd hC.2.2.2 (fun σ' r hr hD fo => ?_)
  obtain ⟨rfl, hw, hh, htx⟩ := hC
  rw [← hr]
  exact hok σ' ⟨by rw [fo.1 27 0 (by decide) (by decide)], hw, HistM_off hh (fo.2 2 (by decide)) (fo.1 28 0 (by decide) (by decide)), fo.txt htx⟩ (fun k i hk => fo.1 k i (by omega) (by omega))
