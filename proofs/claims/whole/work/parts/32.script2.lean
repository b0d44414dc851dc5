/-! THE TEXT: fault and lay of the class -/
theorem parF_b {tl : Int} {tx : Int → Int} : ∀ (n : Nat) (p : Int) (D : KV), 0 ≤ p → p ≤ tl → WFK D → ((parF tl tx n p D).1 = -4 ∧ WFK (parF tl tx n p D).2) ∨ (0 ≤ (parF tl tx n p D).1 ∧ (parF tl tx n p D).1 < tl)
  | 0, p, D, _, _, hw => Or.inl ⟨rfl, hw⟩
  | n + 1, p, D, h0, h1, hw => by
    rw [parF_s]
    by_cases q : p < tl
    · rw [if_pos q]
      cases e : cmdF tl tx p D with
      | none => exact Or.inr ⟨h0, q⟩
      | some v =>
        obtain ⟨D', p'⟩ := v
        obtain ⟨w1, w2, w3⟩ := cmdF_ok ⟨h0, h1⟩ hw e
        exact parF_b n p' D' (by omega) w3 w1
    · rw [if_neg q]
      exact Or.inl ⟨rfl, hw⟩
theorem ClassR_S {σ σ' : Sto} {K : KV} {h : Int} {HK : Int → KV} {tl : Int} {tx : Int → Int} (hC : ClassR σ K h HK tl tx) (fo : offS σ σ') : ClassR σ' K h HK tl tx ∧ frC σ σ' := by
  obtain ⟨h1, h2, h3, h4, h5⟩ := hC
  exact ⟨⟨by rw [vwC_cg (fun k k0 k1 => fo.1 k 0 (by omega) (by omega))]; exact h1, h2, HistR_off h3 (fun k i hk => fo.1 k i (by omega) (by omega)), fo.txt h4, RecOk_off h5 (fun k i hk => fo.1 k i (by omega) (by omega))⟩, fun k i hk => fo.1 k i (by omega) (by omega)⟩
theorem take_strip (A B : KV) : takeK (strip A) B = takeK A B := by
  funext q
  rcases q with _ | _ | _ | _ | _ | _ | _ | _ | q <;> rfl
theorem t_X4_fault {d : Nat} (hd : 6 ≤ d) {σ : Sto} {Q : Post} {K : KV} {h : Int} {HK : Int → KV} {tl : Int} {tx : Int → Int} (hC : ClassR σ K h HK tl tx) (hok : ∀ σ', ClassR σ' K h HK tl tx → frC σ σ' → Q (some (.inl (parF tl tx 90 0 emK).1)) σ') : WPd d m_X4_fault [.inr (0, 0)] σ Q := by
  obtain ⟨d, rfl⟩ : ∃ k, d = k + 1 := ⟨d - 1, by omega⟩
  intro P hP
  (refine go (t := tb_X4_fault) (WPd_mono d) hP 60 [] ?_; (conv => whnf); (repeat' (first | (refine ⟨fun _ => ?_, fun _ => ?_⟩ <;> first | (exfalso; omega) | (conv => whnf)) | (refine ⟨by omega, ?_⟩; conv => whnf) | (intro _; conv => whnf))))
  refine t_X3_read (by omega) hC.2.2.2.1 (fun σ' r hr hD fo => ?_)
  obtain ⟨r1, r2⟩ := ClassR_S hC fo
  ((conv => whnf); (repeat' (first | (refine ⟨fun _ => ?_, fun _ => ?_⟩ <;> first | (exfalso; omega) | (conv => whnf)) | (refine ⟨by omega, ?_⟩; conv => whnf) | (intro _; conv => whnf))))
  rw [← hr]
  exact hok σ' r1 r2
theorem t_X4_lay {d : Nat} (hd : 6 ≤ d) {σ : Sto} {Q : Post} {K : KV} {h : Int} {HK : Int → KV} {tl : Int} {tx : Int → Int} (hC : ClassR σ K h HK tl tx) (hbad : (parF tl tx 90 0 emK).1 ≠ -4 → ∀ σ', ClassR σ' K h HK tl tx → frC σ σ' → Q (some (.inl (-2))) σ') (hok : (parF tl tx 90 0 emK).1 = -4 → ∀ σ', ClassR σ' (takeK (parF tl tx 90 0 emK).2 K) (min 6 (h + 1)) (pushH h HK K) tl tx → frC σ σ' → Q (some (.inl ((parF tl tx 90 0 emK).2 7 0))) σ') : WPd d m_X4_lay [.inr (0, 0)] σ Q := by
  obtain ⟨d, rfl⟩ : ∃ k, d = k + 1 := ⟨d - 1, by omega⟩
  intro P hP
  have ht2 := hC.2.2.2.1.2.1
  have bp := parF_b (tx := tx) 90 0 emK (by omega) ht2.1 emK_wf
  (refine go (t := tb_X4_lay) (WPd_mono d) hP 60 [] ?_; (conv => whnf); (repeat' (first | (refine ⟨fun _ => ?_, fun _ => ?_⟩ <;> first | (exfalso; omega) | (conv => whnf)) | (refine ⟨by omega, ?_⟩; conv => whnf) | (intro _; conv => whnf))))
  refine t_X3_read (by omega) hC.2.2.2.1 (fun σ' r hr hD fo => ?_)
  obtain ⟨r1, r2⟩ := ClassR_S hC fo
  rw [hr] at bp hbad hok
  ((conv => whnf); (repeat' (first | (refine ⟨fun _ => ?_, fun _ => ?_⟩ <;> first | (exfalso; omega) | (conv => whnf)) | (refine ⟨by omega, ?_⟩; conv => whnf) | (intro _; conv => whnf))))
  · obtain ⟨rfl, hw, hh, htx, hrr⟩ := r1
    obtain ⟨d1, d2⟩ := hD (by omega)
    refine t_X4_beginChange (by omega) hh hw (fun σ1 g1 g2 g3 g4 o1 => ?_)
    obtain ⟨ec, ek⟩ := core_kept o1
    have ed : vwC σ1 1 = vwC σ' 1 := vwC_cg fun k k0 k1 => o1 k 1 (by omega) (by omega) (by omega)
    have w1 : WFK (strip (vwC σ1 1)) := by rw [ed, d1]; exact d2
    ((conv => whnf); (repeat' (first | (refine ⟨fun _ => ?_, fun _ => ?_⟩ <;> first | (exfalso; omega) | (conv => whnf)) | (refine ⟨by omega, ?_⟩; conv => whnf) | (intro _; conv => whnf))))
    refine t_X0_takeLayersAndAshes (by omega) (by omega) w1.1 w1.2.1 (fun σ2 e2 o2 => ?_)
    rw [← take_strip, ed, d1, ec] at e2
    obtain ⟨c1, c2⟩ := ClassR_chg g1 g2 g3 g4 o1 o2 htx e2 (WFK_take d2 hw)
    have e7 : σ2 16 0 7 = (parF tl tx 90 0 emK).2 7 0 := by
      rw [← vw_n σ2 0, e2]
      rfl
    ((conv => whnf); (repeat' (first | (refine ⟨fun _ => ?_, fun _ => ?_⟩ <;> first | (exfalso; omega) | (conv => whnf)) | (refine ⟨by omega, ?_⟩; conv => whnf) | (intro _; conv => whnf))))
    rw [e7]
    exact hok (by omega) σ2 c1 (fun k i hk => (c2 k i hk).trans (r2 k i hk))
  · exact hbad (by omega) σ' r1 r2
