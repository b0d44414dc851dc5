theorem t_X4_addAsh {d : Nat} (hd : 5 ≤ d) {σ : Sto} {Q : Post} {K : KV} {h : Int} {HK : Int → KV} {tl : Int} {tx : Int → Int} {p a u : Int} (hC : ClassR σ K h HK tl tx) (hp : inR p) (ha : inR a) (hu : inR u) (hbad : ¬ ((1 ≤ p ∧ p ≤ K 7 0) ∧ (0 ≤ a ∧ a ≤ 500) ∧ (0 ≤ u ∧ u ≤ 9)) → Q (some (.inl (-1))) σ) (htwo : (1 ≤ p ∧ p ≤ K 7 0) ∧ (0 ≤ a ∧ a ≤ 500) ∧ (0 ≤ u ∧ u ≤ 9) → axK K p ≠ -1 → Q (some (.inl (-2))) σ) (hful : (1 ≤ p ∧ p ≤ K 7 0) ∧ (0 ≤ a ∧ a ≤ 500) ∧ (0 ≤ u ∧ u ≤ 9) → axK K p = -1 → K 7 1 = 6 → Q (some (.inl (-3))) σ) (hok : (1 ≤ p ∧ p ≤ K 7 0) ∧ (0 ≤ a ∧ a ≤ 500) ∧ (0 ≤ u ∧ u ≤ 9) → axK K p = -1 → K 7 1 < 6 → ∀ σ', ClassR σ' (insAK K (nxK K p) p a u) (min 6 (h + 1)) (pushH h HK K) tl tx → frC σ σ' → Q (some (.inl (nxK K p))) σ') : WPd d m_X4_addAsh [.inr (0, 0), .inl p, .inl a, .inl u] σ Q := by
  obtain ⟨d, rfl⟩ : ∃ k, d = k + 1 := ⟨d - 1, by omega⟩
  intro P hP
  obtain ⟨rfl, hw, hh, htx, hr⟩ := hC
  have hn := hw.1
  have hm := hw.2.1
  rw [vw_n] at hn hbad htwo hful hok
  rw [vw_a] at hm hful hok
  have bx := axK_of (vwC σ 0) p hw.2.1.1
  rw [vw_a] at bx
  (refine go (t := tb_X4_addAsh) (WPd_mono d) hP 60 [] ?_; (conv => whnf); (repeat' (first | (refine ⟨fun _ => ?_, fun _ => ?_⟩ <;> first | (exfalso; omega) | (conv => whnf)) | (refine ⟨by omega, ?_⟩; conv => whnf) | (intro _; conv => whnf))))
  refine t_X4_isAshOfRange (by omega) hp ha hu hn (fun q1 => ?_) (fun q => ?_)
  · ((conv => whnf); (repeat' (first | (refine ⟨fun _ => ?_, fun _ => ?_⟩ <;> first | (exfalso; omega) | (conv => whnf)) | (refine ⟨by omega, ?_⟩; conv => whnf) | (intro _; conv => whnf))))
    refine t_X0_ashAt (by omega) hp hm ?_
    rw [ax_vw]
    ((conv => whnf); (repeat' (first | (refine ⟨fun _ => ?_, fun _ => ?_⟩ <;> first | (exfalso; omega) | (conv => whnf)) | (refine ⟨by omega, ?_⟩; conv => whnf) | (intro _; conv => whnf))))
    · refine t_X4_beginChange (by omega) hh hw (fun σ1 g1 g2 g3 g4 o1 => ?_)
      obtain ⟨ec, ek⟩ := core_kept o1
      have e16 := ek 16 (by omega) (by omega)
      ((conv => whnf); (repeat' (first | (refine ⟨fun _ => ?_, fun _ => ?_⟩ <;> first | (exfalso; omega) | (conv => whnf)) | (refine ⟨by omega, ?_⟩; conv => whnf) | (intro _; conv => whnf))))
      refine t_X0_insertAsh (by omega) (by rw [e16]; omega) hp ha hu (fun σ2 e2 o2 => ?_)
      rw [ec] at e2 ⊢
      obtain ⟨r1, r2⟩ := ClassR_chg g1 g2 g3 g4 o1 o2 htx e2 (WFK_insA hw (by rw [vw_a]; omega) (by rw [vw_n]; exact q1.1) q1.2.1 q1.2.2 (by omega))
      ((conv => whnf); (repeat' (first | (refine ⟨fun _ => ?_, fun _ => ?_⟩ <;> first | (exfalso; omega) | (conv => whnf)) | (refine ⟨by omega, ?_⟩; conv => whnf) | (intro _; conv => whnf))))
      exact hok q1 (by omega) (by omega) σ2 r1 r2
    · exact hful q1 (by omega) (by omega)
    · exact htwo q1 (by omega)
  · ((conv => whnf); (repeat' (first | (refine ⟨fun _ => ?_, fun _ => ?_⟩ <;> first | (exfalso; omega) | (conv => whnf)) | (refine ⟨by omega, ?_⟩; conv => whnf) | (intro _; conv => whnf))))
    exact hbad q
theorem t_X4_removeAsh {d : Nat} (hd : 5 ≤ d) {σ : Sto} {Q : Post} {K : KV} {h : Int} {HK : Int → KV} {tl : Int} {tx : Int → Int} {x : Int} (hC : ClassR σ K h HK tl tx) (hx : inR x) (hbad : ¬ (0 ≤ x ∧ x < K 7 1) → Q (some (.inl (-1))) σ) (hok : 0 ≤ x ∧ x < K 7 1 → ∀ σ', ClassR σ' (delAK K x) (min 6 (h + 1)) (pushH h HK K) tl tx → frC σ σ' → Q (some (.inl (K 7 1 - 1))) σ') : WPd d m_X4_removeAsh [.inr (0, 0), .inl x] σ Q := by
  obtain ⟨d, rfl⟩ : ∃ k, d = k + 1 := ⟨d - 1, by omega⟩
  intro P hP
  obtain ⟨rfl, hw, hh, htx, hr⟩ := hC
  have hm := hw.2.1
  rw [vw_a] at hm hbad hok
  (refine go (t := tb_X4_removeAsh) (WPd_mono d) hP 60 [] ?_; (conv => whnf); (repeat' (first | (refine ⟨fun _ => ?_, fun _ => ?_⟩ <;> first | (exfalso; omega) | (conv => whnf)) | (refine ⟨by omega, ?_⟩; conv => whnf) | (intro _; conv => whnf))))
  refine t_X4_isAsh (by omega) hx hm (fun q1 => ?_) (fun q => ?_)
  · ((conv => whnf); (repeat' (first | (refine ⟨fun _ => ?_, fun _ => ?_⟩ <;> first | (exfalso; omega) | (conv => whnf)) | (refine ⟨by omega, ?_⟩; conv => whnf) | (intro _; conv => whnf))))
    refine t_X4_beginChange (by omega) hh hw (fun σ1 g1 g2 g3 g4 o1 => ?_)
    obtain ⟨ec, ek⟩ := core_kept o1
    have e16 := ek 16 (by omega) (by omega)
    ((conv => whnf); (repeat' (first | (refine ⟨fun _ => ?_, fun _ => ?_⟩ <;> first | (exfalso; omega) | (conv => whnf)) | (refine ⟨by omega, ?_⟩; conv => whnf) | (intro _; conv => whnf))))
    refine t_X0_deleteAsh (by omega) (by rw [e16]; exact hm) (by rw [e16]; exact q1) (fun σ2 e2 o2 _ _ => ?_)
    rw [ec] at e2
    have e7 : σ2 16 0 8 = σ 16 0 8 - 1 := by
      rw [← vw_a σ2 0, e2]
      rfl
    obtain ⟨r1, r2⟩ := ClassR_chg g1 g2 g3 g4 o1 o2 htx e2 (WFK_delA hw (by rw [vw_a]; exact q1))
    ((conv => whnf); (repeat' (first | (refine ⟨fun _ => ?_, fun _ => ?_⟩ <;> first | (exfalso; omega) | (conv => whnf)) | (refine ⟨by omega, ?_⟩; conv => whnf) | (intro _; conv => whnf))))
    rw [e7]
    exact hok q1 σ2 r1 r2
  · ((conv => whnf); (repeat' (first | (refine ⟨fun _ => ?_, fun _ => ?_⟩ <;> first | (exfalso; omega) | (conv => whnf)) | (refine ⟨by omega, ?_⟩; conv => whnf) | (intro _; conv => whnf))))
    exact hbad q
theorem set_mkS {σ : Sto} {w v : Int} (hw : 0 ≤ w ∧ w < 4) : vwC (upS σ 23 0 w v) 0 = setSK (vwC σ 0) w v := by
  have key : ∀ f : Int → Int, mask 4 (fun j' => if j' = w then v else f j') = setM (mask 4 f) w v := by
    intro f
    funext j
    simp only [mask, setM]
    ((repeat' split) <;> first | rfl | (exfalso; omega) | (congr 1; omega) | omega)
  funext q
  unfold vwC setSK
  (try simp only [setR_same, setR_nk, upS_setR, cpS_setR, setR_setR, ne_eq, Nat.reduceEqDiff, not_false_eq_true, Int.reduceEq, ↓reduceIte])
  rcases q with _ | _ | _ | _ | _ | _ | _ | _ | q <;> first | rfl | exact key _
theorem t_X4_set {d : Nat} (hd : 5 ≤ d) {σ : Sto} {Q : Post} {K : KV} {h : Int} {HK : Int → KV} {tl : Int} {tx : Int → Int} {w v : Int} (hC : ClassR σ K h HK tl tx) (hw0 : inR w) (hv : inR v) (hbad : ¬ ((0 ≤ w ∧ w ≤ 3) ∧ (0 ≤ v ∧ v ≤ 50)) → Q (some (.inl (-1))) σ) (hok : (0 ≤ w ∧ w ≤ 3) ∧ (0 ≤ v ∧ v ≤ 50) → ∀ σ', ClassR σ' (setSK K w v) (min 6 (h + 1)) (pushH h HK K) tl tx → frC σ σ' → Q (some (.inl (K 6 w))) σ') : WPd d m_X4_set [.inr (0, 0), .inl w, .inl v] σ Q := by
  obtain ⟨d, rfl⟩ : ∃ k, d = k + 1 := ⟨d - 1, by omega⟩
  intro P hP
  obtain ⟨rfl, hw, hh, htx, hr⟩ := hC
  (refine go (t := tb_X4_set) (WPd_mono d) hP 60 [] ?_; (conv => whnf); (repeat' (first | (refine ⟨fun _ => ?_, fun _ => ?_⟩ <;> first | (exfalso; omega) | (conv => whnf)) | (refine ⟨by omega, ?_⟩; conv => whnf) | (intro _; conv => whnf))))
  refine t_X4_isWithin (by omega) hw0 (by omega) (by omega) (fun q1 => ?_) (fun q => ?_)
  · ((conv => whnf); (repeat' (first | (refine ⟨fun _ => ?_, fun _ => ?_⟩ <;> first | (exfalso; omega) | (conv => whnf)) | (refine ⟨by omega, ?_⟩; conv => whnf) | (intro _; conv => whnf))))
    refine t_X4_isWithin (by omega) hv (by omega) (by omega) (fun q2 => ?_) (fun q => ?_)
    · ((conv => whnf); (repeat' (first | (refine ⟨fun _ => ?_, fun _ => ?_⟩ <;> first | (exfalso; omega) | (conv => whnf)) | (refine ⟨by omega, ?_⟩; conv => whnf) | (intro _; conv => whnf))))
      refine t_X4_beginChange (by omega) hh hw (fun σ1 g1 g2 g3 g4 o1 => ?_)
      obtain ⟨ec, ek⟩ := core_kept o1
      have e2 := set_mkS (σ := σ1) (w := w) (v := v) (by omega)
      rw [ec] at e2
      obtain ⟨r1, r2⟩ := ClassR_chg g1 g2 g3 g4 o1 (offC.rf.up (by omega)) htx e2 (WFK_setS hw q2)
      ((conv => whnf); (repeat' (first | (refine ⟨fun _ => ?_, fun _ => ?_⟩ <;> first | (exfalso; omega) | (conv => whnf)) | (refine ⟨by omega, ?_⟩; conv => whnf) | (intro _; conv => whnf))))
      rw [← (vw_in (σ := σ) (c := 0)).2.2 q1.1 (by omega)]
      exact hok ⟨q1, q2⟩ _ r1 r2
    · ((conv => whnf); (repeat' (first | (refine ⟨fun _ => ?_, fun _ => ?_⟩ <;> first | (exfalso; omega) | (conv => whnf)) | (refine ⟨by omega, ?_⟩; conv => whnf) | (intro _; conv => whnf))))
      exact hbad (fun e => q e.2)
  · ((conv => whnf); (repeat' (first | (refine ⟨fun _ => ?_, fun _ => ?_⟩ <;> first | (exfalso; omega) | (conv => whnf)) | (refine ⟨by omega, ?_⟩; conv => whnf) | (intro _; conv => whnf))))
    exact hbad (fun e => q e.1)
theorem t_X4_undo {d : Nat} (hd : 5 ≤ d) {σ : Sto} {Q : Post} {K : KV} {h : Int} {HK : Int → KV} {tl : Int} {tx : Int → Int} (hC : ClassR σ K h HK tl tx) (hbad : h = 0 → Q (some (.inl (-2))) σ) (hok : 0 < h → ∀ σ', ClassR σ' (HK (h - 1)) (h - 1) HK tl tx → frC σ σ' → Q (some (.inl (h - 1))) σ') : WPd d m_X4_undo [.inr (0, 0)] σ Q := by
  obtain ⟨d, rfl⟩ : ∃ k, d = k + 1 := ⟨d - 1, by omega⟩
  intro P hP
  obtain ⟨rfl, hw, hh, htx, hr⟩ := hC
  have hh0 := hh
  obtain ⟨h1, h2, h3, h4⟩ := hh0
  (refine go (t := tb_X4_undo) (WPd_mono d) hP 60 [] ?_; (conv => whnf); (repeat' (first | (refine ⟨fun _ => ?_, fun _ => ?_⟩ <;> first | (exfalso; omega) | (conv => whnf)) | (refine ⟨by omega, ?_⟩; conv => whnf) | (intro _; conv => whnf))))
  · have hpop := fun (x : Int) (hx : x = if σ 1 0 1 = 0 then 5 else σ 1 0 1 - 1) (σ' : Sto) => HistR_pop (σ' := σ') hh (by omega) hx
    refine t_X1_restore (by omega) h3 (by omega) (fun x hx => ?_) (fun σ1 x hx e1 e2 e3 o1 => ?_)
    · have hx2 : x = (σ 1 0 1 - 1) % 6 := by
        rw [hx]
        split <;> omega
      obtain ⟨g1, g2⟩ := h4 (h - 1) (by omega) (by omega)
      rw [show (2 + (σ 1 0 1 - h + (h - 1)) % 6) = 2 + x by omega] at g1
      rw [← g1] at g2
      exact ⟨g2.1, g2.2.1⟩
    · obtain ⟨r1, r2, r3⟩ := hpop x hx σ1 e1 e2 o1
      ((conv => whnf); (repeat' (first | (refine ⟨fun _ => ?_, fun _ => ?_⟩ <;> first | (exfalso; omega) | (conv => whnf)) | (refine ⟨by omega, ?_⟩; conv => whnf) | (intro _; conv => whnf))))
      refine t_X2_forget (by omega) (fun σ2 f1 f2 f3 o2 => ?_)
      have e7 : σ2 1 0 2 = h - 1 := by rw [o2 1 0 (by omega), e2, h1]
      ((conv => whnf); (repeat' (first | (refine ⟨fun _ => ?_, fun _ => ?_⟩ <;> first | (exfalso; omega) | (conv => whnf)) | (refine ⟨by omega, ?_⟩; conv => whnf) | (intro _; conv => whnf))))
      rw [e7]
      refine hok (by omega) σ2 ⟨?_, r3, HistR_off r1 (fun k i hk => o2 k i (by omega)), TxtR_off htx (fun k i hk => ?_), RecOk_0 f1 f2 f3⟩ (fun k i hk => ?_)
      · rw [vwC_cg (σ := σ1) (fun k k0 k1 => o2 k 0 (by omega)), e3, r2]
      · rw [o2 k i (by omega), o1 k i (by omega) (by omega)]
      · rw [o2 k i (by omega), o1 k i (by omega) (by omega)]
  · exact hbad (by omega)
theorem sumF_cg {f g : Int → Int} : ∀ (n : Nat) (i : Int), (∀ j, i ≤ j → j < i + n → f j = g j) → sumF f n i = sumF g n i
  | 0, _, _ => rfl
  | n + 1, i, h => by
    unfold sumF
    rw [h i (by omega) (by omega), sumF_cg n (i + 1) (fun j h1 h2 => h j (by omega) (by omega))]
theorem cntF_cg {f g : Int → Int} {w : Int} : ∀ (n : Nat) (i : Int), (∀ j, i ≤ j → j < i + n → f j = g j) → cntF f w n i = cntF g w n i
  | 0, _, _ => rfl
  | n + 1, i, h => by
    unfold cntF
    rw [h i (by omega) (by omega), cntF_cg n (i + 1) (fun j h1 h2 => h j (by omega) (by omega))]
theorem t_X4_count {d : Nat} (hd : 2 ≤ d) {σ : Sto} {Q : Post} {K : KV} {h : Int} {HK : Int → KV} {tl : Int} {tx : Int → Int} {w : Int} (hC : ClassR σ K h HK tl tx) (hw0 : inR w) (hq : Q (some (.inl (if w = 0 then K 7 0 else if w = 1 then K 7 1 else if w = 2 then sumF (K 0) (K 7 0).toNat 0 else if w = 3 then cntF (K 1) 1 (K 7 0).toNat 0 else if w = 4 then cntF (K 1) 2 (K 7 0).toNat 0 else if w = 5 then K 6 0 else if w = 6 then K 6 1 else if w = 7 then K 6 2 else if w = 8 then K 6 3 else if w = 9 then h else -1))) σ) : WPd d m_X4_count [.inr (0, 0), .inl w] σ Q := by
  obtain ⟨d, rfl⟩ : ∃ k, d = k + 1 := ⟨d - 1, by omega⟩
  intro P hP
  obtain ⟨rfl, hw, hh, htx, hr⟩ := hC
  have hn := hw.1
  rw [vw_n] at hn
  have hm := hw.2.1
  rw [vw_a] at hm
  have es : sumF (vwC σ 0 0) (σ 16 0 7).toNat 0 = sumF (σ 17 0) (σ 16 0 7).toNat 0 := sumF_cg _ _ fun j j0 j1 => (vw_in.1 j0 (by omega)).1
  have ec : ∀ w, cntF (vwC σ 0 1) w (σ 16 0 7).toNat 0 = cntF (σ 18 0) w (σ 16 0 7).toNat 0 := fun w => cntF_cg _ _ fun j j0 j1 => (vw_in.1 j0 (by omega)).2.1
  rw [vw_n, vw_a, es, ec 1, ec 2, (vw_in (σ := σ) (c := 0)).2.2 (by omega) (by omega), (vw_in (σ := σ) (c := 0)).2.2 (by omega) (by omega), (vw_in (σ := σ) (c := 0)).2.2 (by omega) (by omega), (vw_in (σ := σ) (c := 0)).2.2 (by omega) (by omega)] at hq
  (refine go (t := tb_X4_count) (WPd_mono d) hP 60 [] ?_; (conv => whnf); (repeat' (first | (refine ⟨fun _ => ?_, fun _ => ?_⟩ <;> first | (exfalso; omega) | (conv => whnf)) | (refine ⟨by omega, ?_⟩; conv => whnf) | (intro _; conv => whnf))))
  refine ⟨fun q => ?_, ?_⟩
  · have q : w < 0 ∨ 10 ≤ w := q
    ((conv => whnf); (repeat' (first | (refine ⟨fun _ => ?_, fun _ => ?_⟩ <;> first | (exfalso; omega) | (conv => whnf)) | (refine ⟨by omega, ?_⟩; conv => whnf) | (intro _; conv => whnf))))
    rwa [if_neg (by omega), if_neg (by omega), if_neg (by omega), if_neg (by omega), if_neg (by omega), if_neg (by omega), if_neg (by omega), if_neg (by omega), if_neg (by omega), if_neg (by omega)] at hq
  · (conv => whnf)
    refine ⟨fun q => ?_, ?_⟩
    · subst q
      ((conv => whnf); (repeat' (first | (refine ⟨fun _ => ?_, fun _ => ?_⟩ <;> first | (exfalso; omega) | (conv => whnf)) | (refine ⟨by omega, ?_⟩; conv => whnf) | (intro _; conv => whnf))))
      exact hq
    (conv => whnf)
    refine ⟨fun q => ?_, ?_⟩
    · rw [show w = 1 from q] at hq
      ((conv => whnf); (repeat' (first | (refine ⟨fun _ => ?_, fun _ => ?_⟩ <;> first | (exfalso; omega) | (conv => whnf)) | (refine ⟨by omega, ?_⟩; conv => whnf) | (intro _; conv => whnf))))
      exact hq
    (conv => whnf)
    refine ⟨fun q => ?_, ?_⟩
    · rw [show w = 2 from q] at hq
      ((conv => whnf); (repeat' (first | (refine ⟨fun _ => ?_, fun _ => ?_⟩ <;> first | (exfalso; omega) | (conv => whnf)) | (refine ⟨by omega, ?_⟩; conv => whnf) | (intro _; conv => whnf))))
      refine t_X0_thicknessBetween (by omega) (by omega) ?_
      ((conv => whnf); (repeat' (first | (refine ⟨fun _ => ?_, fun _ => ?_⟩ <;> first | (exfalso; omega) | (conv => whnf)) | (refine ⟨by omega, ?_⟩; conv => whnf) | (intro _; conv => whnf))))
      rw [show σ 16 0 7 - 0 = σ 16 0 7 by omega]
      exact hq
    (conv => whnf)
    refine ⟨fun q => ?_, ?_⟩
    · rw [show w = 3 from q] at hq
      ((conv => whnf); (repeat' (first | (refine ⟨fun _ => ?_, fun _ => ?_⟩ <;> first | (exfalso; omega) | (conv => whnf)) | (refine ⟨by omega, ?_⟩; conv => whnf) | (intro _; conv => whnf))))
      refine t_X0_layersOfKind (by omega) (by omega) hn ?_
      ((conv => whnf); (repeat' (first | (refine ⟨fun _ => ?_, fun _ => ?_⟩ <;> first | (exfalso; omega) | (conv => whnf)) | (refine ⟨by omega, ?_⟩; conv => whnf) | (intro _; conv => whnf))))
      exact hq
    (conv => whnf)
    refine ⟨fun q => ?_, ?_⟩
    · rw [show w = 4 from q] at hq
      ((conv => whnf); (repeat' (first | (refine ⟨fun _ => ?_, fun _ => ?_⟩ <;> first | (exfalso; omega) | (conv => whnf)) | (refine ⟨by omega, ?_⟩; conv => whnf) | (intro _; conv => whnf))))
      refine t_X0_layersOfKind (by omega) (by omega) hn ?_
      ((conv => whnf); (repeat' (first | (refine ⟨fun _ => ?_, fun _ => ?_⟩ <;> first | (exfalso; omega) | (conv => whnf)) | (refine ⟨by omega, ?_⟩; conv => whnf) | (intro _; conv => whnf))))
      exact hq
    (conv => whnf)
    refine ⟨fun q => ?_, ?_⟩
    · rw [show w = 5 from q] at hq
      ((conv => whnf); (repeat' (first | (refine ⟨fun _ => ?_, fun _ => ?_⟩ <;> first | (exfalso; omega) | (conv => whnf)) | (refine ⟨by omega, ?_⟩; conv => whnf) | (intro _; conv => whnf))))
      exact hq
    (conv => whnf)
    refine ⟨fun q => ?_, ?_⟩
    · rw [show w = 6 from q] at hq
      ((conv => whnf); (repeat' (first | (refine ⟨fun _ => ?_, fun _ => ?_⟩ <;> first | (exfalso; omega) | (conv => whnf)) | (refine ⟨by omega, ?_⟩; conv => whnf) | (intro _; conv => whnf))))
      exact hq
    (conv => whnf)
    refine ⟨fun q => ?_, ?_⟩
    · rw [show w = 7 from q] at hq
      ((conv => whnf); (repeat' (first | (refine ⟨fun _ => ?_, fun _ => ?_⟩ <;> first | (exfalso; omega) | (conv => whnf)) | (refine ⟨by omega, ?_⟩; conv => whnf) | (intro _; conv => whnf))))
      exact hq
    (conv => whnf)
    refine ⟨fun q => ?_, ?_⟩
    · rw [show w = 8 from q] at hq
      ((conv => whnf); (repeat' (first | (refine ⟨fun _ => ?_, fun _ => ?_⟩ <;> first | (exfalso; omega) | (conv => whnf)) | (refine ⟨by omega, ?_⟩; conv => whnf) | (intro _; conv => whnf))))
      exact hq
    (conv => whnf)
    refine ⟨fun q => ?_, trivial⟩
    rw [show w = 9 from q] at hq
    ((conv => whnf); (repeat' (first | (refine ⟨fun _ => ?_, fun _ => ?_⟩ <;> first | (exfalso; omega) | (conv => whnf)) | (refine ⟨by omega, ?_⟩; conv => whnf) | (intro _; conv => whnf))))
    rw [hh.1]
    exact hq
theorem t_X4_layer {d : Nat} (hd : 3 ≤ d) {σ : Sto} {Q : Post} {K : KV} {h : Int} {HK : Int → KV} {tl : Int} {tx : Int → Int} {i w : Int} (hC : ClassR σ K h HK tl tx) (hi : inR i) (hw0 : inR w) (hbad : ¬ ((0 ≤ i ∧ i < K 7 0) ∧ (0 ≤ w ∧ w ≤ 2)) → Q (some (.inl (-1))) σ) (hok : (0 ≤ i ∧ i < K 7 0) ∧ (0 ≤ w ∧ w ≤ 2) → Q (some (.inl (K w.toNat i))) σ) : WPd d m_X4_layer [.inr (0, 0), .inl i, .inl w] σ Q := by
  obtain ⟨d, rfl⟩ : ∃ k, d = k + 1 := ⟨d - 1, by omega⟩
  intro P hP
  obtain ⟨rfl, hw, hh, htx, hr⟩ := hC
  have hn := hw.1
  rw [vw_n] at hn hbad hok
  (refine go (t := tb_X4_layer) (WPd_mono d) hP 60 [] ?_; (conv => whnf); (repeat' (first | (refine ⟨fun _ => ?_, fun _ => ?_⟩ <;> first | (exfalso; omega) | (conv => whnf)) | (refine ⟨by omega, ?_⟩; conv => whnf) | (intro _; conv => whnf))))
  refine t_X4_isLayer (by omega) hi hn (fun q1 => ?_) (fun q => ?_)
  · ((conv => whnf); (repeat' (first | (refine ⟨fun _ => ?_, fun _ => ?_⟩ <;> first | (exfalso; omega) | (conv => whnf)) | (refine ⟨by omega, ?_⟩; conv => whnf) | (intro _; conv => whnf))))
    refine t_X4_isWithin (by omega) hw0 (by omega) (by omega) (fun q2 => ?_) (fun q => ?_)
    · obtain ⟨v0, v1, v2⟩ := vw_in.1 q1.1 q1.2
      have hok := hok ⟨q1, q2⟩
      ((conv => whnf); (repeat' (first | (refine ⟨fun _ => ?_, fun _ => ?_⟩ <;> first | (exfalso; omega) | (conv => whnf)) | (refine ⟨by omega, ?_⟩; conv => whnf) | (intro _; conv => whnf))))
      refine t_X0_layerProperties (by omega) q2 (fun e => ?_) (fun e => ?_) (fun e => ?_)
      · rw [e] at hok
        ((conv => whnf); (repeat' (first | (refine ⟨fun _ => ?_, fun _ => ?_⟩ <;> first | (exfalso; omega) | (conv => whnf)) | (refine ⟨by omega, ?_⟩; conv => whnf) | (intro _; conv => whnf))))
        rw [← v0]
        exact hok
      · rw [e] at hok
        ((conv => whnf); (repeat' (first | (refine ⟨fun _ => ?_, fun _ => ?_⟩ <;> first | (exfalso; omega) | (conv => whnf)) | (refine ⟨by omega, ?_⟩; conv => whnf) | (intro _; conv => whnf))))
        rw [← v1]
        exact hok
      · rw [e] at hok
        ((conv => whnf); (repeat' (first | (refine ⟨fun _ => ?_, fun _ => ?_⟩ <;> first | (exfalso; omega) | (conv => whnf)) | (refine ⟨by omega, ?_⟩; conv => whnf) | (intro _; conv => whnf))))
        rw [← v2]
        exact hok
    · ((conv => whnf); (repeat' (first | (refine ⟨fun _ => ?_, fun _ => ?_⟩ <;> first | (exfalso; omega) | (conv => whnf)) | (refine ⟨by omega, ?_⟩; conv => whnf) | (intro _; conv => whnf))))
      exact hbad (fun e => q e.2)
  · ((conv => whnf); (repeat' (first | (refine ⟨fun _ => ?_, fun _ => ?_⟩ <;> first | (exfalso; omega) | (conv => whnf)) | (refine ⟨by omega, ?_⟩; conv => whnf) | (intro _; conv => whnf))))
    exact hbad (fun e => q e.1)
theorem t_X4_ash {d : Nat} (hd : 3 ≤ d) {σ : Sto} {Q : Post} {K : KV} {h : Int} {HK : Int → KV} {tl : Int} {tx : Int → Int} {i w : Int} (hC : ClassR σ K h HK tl tx) (hi : inR i) (hw0 : inR w) (hbad : ¬ ((0 ≤ i ∧ i < K 7 1) ∧ (0 ≤ w ∧ w ≤ 2)) → Q (some (.inl (-1))) σ) (hok : (0 ≤ i ∧ i < K 7 1) ∧ (0 ≤ w ∧ w ≤ 2) → Q (some (.inl (K (3 + w.toNat) i))) σ) : WPd d m_X4_ash [.inr (0, 0), .inl i, .inl w] σ Q := by
  obtain ⟨d, rfl⟩ : ∃ k, d = k + 1 := ⟨d - 1, by omega⟩
  intro P hP
  obtain ⟨rfl, hw, hh, htx, hr⟩ := hC
  have hn := hw.2.1
  rw [vw_a] at hn hbad hok
  (refine go (t := tb_X4_ash) (WPd_mono d) hP 60 [] ?_; (conv => whnf); (repeat' (first | (refine ⟨fun _ => ?_, fun _ => ?_⟩ <;> first | (exfalso; omega) | (conv => whnf)) | (refine ⟨by omega, ?_⟩; conv => whnf) | (intro _; conv => whnf))))
  refine t_X4_isAsh (by omega) hi hn (fun q1 => ?_) (fun q => ?_)
  · ((conv => whnf); (repeat' (first | (refine ⟨fun _ => ?_, fun _ => ?_⟩ <;> first | (exfalso; omega) | (conv => whnf)) | (refine ⟨by omega, ?_⟩; conv => whnf) | (intro _; conv => whnf))))
    refine t_X4_isWithin (by omega) hw0 (by omega) (by omega) (fun q2 => ?_) (fun q => ?_)
    · obtain ⟨v0, v1, v2⟩ := vw_in.2.1 q1.1 q1.2
      have hok := hok ⟨q1, q2⟩
      ((conv => whnf); (repeat' (first | (refine ⟨fun _ => ?_, fun _ => ?_⟩ <;> first | (exfalso; omega) | (conv => whnf)) | (refine ⟨by omega, ?_⟩; conv => whnf) | (intro _; conv => whnf))))
      refine t_X0_ashProperties (by omega) q2 (fun e => ?_) (fun e => ?_) (fun e => ?_)
      · rw [e] at hok
        ((conv => whnf); (repeat' (first | (refine ⟨fun _ => ?_, fun _ => ?_⟩ <;> first | (exfalso; omega) | (conv => whnf)) | (refine ⟨by omega, ?_⟩; conv => whnf) | (intro _; conv => whnf))))
        rw [← v0]
        exact hok
      · rw [e] at hok
        ((conv => whnf); (repeat' (first | (refine ⟨fun _ => ?_, fun _ => ?_⟩ <;> first | (exfalso; omega) | (conv => whnf)) | (refine ⟨by omega, ?_⟩; conv => whnf) | (intro _; conv => whnf))))
        rw [← v1]
        exact hok
      · rw [e] at hok
        ((conv => whnf); (repeat' (first | (refine ⟨fun _ => ?_, fun _ => ?_⟩ <;> first | (exfalso; omega) | (conv => whnf)) | (refine ⟨by omega, ?_⟩; conv => whnf) | (intro _; conv => whnf))))
        rw [← v2]
        exact hok
    · ((conv => whnf); (repeat' (first | (refine ⟨fun _ => ?_, fun _ => ?_⟩ <;> first | (exfalso; omega) | (conv => whnf)) | (refine ⟨by omega, ?_⟩; conv => whnf) | (intro _; conv => whnf))))
      exact hbad (fun e => q e.2)
  · ((conv => whnf); (repeat' (first | (refine ⟨fun _ => ?_, fun _ => ?_⟩ <;> first | (exfalso; omega) | (conv => whnf)) | (refine ⟨by omega, ?_⟩; conv => whnf) | (intro _; conv => whnf))))
    exact hbad (fun e => q e.1)