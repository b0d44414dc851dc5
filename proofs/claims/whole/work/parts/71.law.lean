/-! THE LAW in the twin: its loop -/
def LQ : Post := fun r _ => r = some (.inl 1)
theorem law_run {d : Nat} (hd : 7 ≤ d) {P : Ctx} (hT : ∀ (n : Nat) {pc : Nat} {ls st : List AV} {σ : Sto}, P pc (ls.take n) st σ → P pc ls st σ) (hP : ∀ pc ls st σ, stp (WPd d) LQ P ls st σ (lk2 tb_law pc) → P pc ls st σ) (L : Int) (hL : 0 ≤ L ∧ L ≤ 2560) : ∀ (n : Nat) (i : Int) (σ : Sto), n = (L - i).toNat → 0 ≤ i → i ≤ L + 5 → σ 41 0 (-1) = L → (∀ j, inR (σ 41 0 j)) → RelB σ → P 18 [.inr (41, 0), .inr (0, 0), .inr (26, 0), .inl i] [] σ := by
  intro n
  induction n using Nat.strongRecOn with
  | _ n ih =>
    intro i σ hn i0 i1 hl hin hR
    by_cases c : i ≤ L - 5
    · have g1 := hin (i + 1)
      have g2 := hin (i + 2)
      have g3 := hin (i + 3)
      have g4 := hin (i + 4)
      have fin : ∀ σ', RelB σ' → σ' 41 0 = σ 41 0 → P 18 [.inr (41, 0), .inr (0, 0), .inr (26, 0), .inl (i + 5)] [] σ' := fun σ' hR' e => ih (L - (i + 5)).toNat (by omega) (i + 5) σ' rfl (by omega) (by omega) (by rw [e]; exact hl) (fun j => by rw [e]; exact hin j) hR'
      have C148 : P 148 [.inr (41, 0), .inr (0, 0), .inr (26, 0), .inl i] [] σ := by
        (refine go (t := tb_law) (WPd_mono d) hP 90 [18] ?_; (conv => whnf); (repeat' (first | (refine ⟨fun _ => ?_, fun _ => ?_⟩ <;> first | (exfalso; omega) | (conv => whnf)) | (refine ⟨by omega, ?_⟩; conv => whnf) | (intro _; conv => whnf))))
        refine (WPd_mono d) _ _ _ _ _ (fun r σ1 hz => ?_) (p_addLayer hd hR g1 g2 g3 g4)
        obtain ⟨v, rfl, f1, vb, h5⟩ := hz
        have e41 : σ1 41 0 = σ 41 0 := f1 41 0 (by decide)
        have l1 : σ1 41 0 (-1) = L := by rw [e41]; exact hl
        ((conv => whnf); (repeat' (first | (refine ⟨fun _ => ?_, fun _ => ?_⟩ <;> first | (exfalso; omega) | (conv => whnf)) | (refine ⟨by omega, ?_⟩; conv => whnf) | (intro _; conv => whnf))))
        rw [e41]
        refine (WPd_mono d) _ _ _ _ _ (fun r σ2 hz => ?_) h5
        obtain ⟨rfl, rb, f2⟩ := hz
        have e2 : σ2 41 0 = σ 41 0 := by rw [f2 41 0 (by omega), e41]
        ((conv => whnf); (repeat' (first | (refine ⟨fun _ => ?_, fun _ => ?_⟩ <;> first | (exfalso; omega) | (conv => whnf)) | (refine ⟨by omega, ?_⟩; conv => whnf) | (intro _; conv => whnf))))
        exact fin σ2 rb e2
      have C201 : P 201 [.inr (41, 0), .inr (0, 0), .inr (26, 0), .inl i] [] σ := by
        (refine go (t := tb_law) (WPd_mono d) hP 90 [18] ?_; (conv => whnf); (repeat' (first | (refine ⟨fun _ => ?_, fun _ => ?_⟩ <;> first | (exfalso; omega) | (conv => whnf)) | (refine ⟨by omega, ?_⟩; conv => whnf) | (intro _; conv => whnf))))
        refine (WPd_mono d) _ _ _ _ _ (fun r σ1 hz => ?_) (p_removeLayer hd hR g1)
        obtain ⟨v, rfl, f1, vb, h5⟩ := hz
        have e41 : σ1 41 0 = σ 41 0 := f1 41 0 (by decide)
        have l1 : σ1 41 0 (-1) = L := by rw [e41]; exact hl
        ((conv => whnf); (repeat' (first | (refine ⟨fun _ => ?_, fun _ => ?_⟩ <;> first | (exfalso; omega) | (conv => whnf)) | (refine ⟨by omega, ?_⟩; conv => whnf) | (intro _; conv => whnf))))
        rw [e41]
        refine (WPd_mono d) _ _ _ _ _ (fun r σ2 hz => ?_) h5
        obtain ⟨rfl, rb, f2⟩ := hz
        have e2 : σ2 41 0 = σ 41 0 := by rw [f2 41 0 (by omega), e41]
        ((conv => whnf); (repeat' (first | (refine ⟨fun _ => ?_, fun _ => ?_⟩ <;> first | (exfalso; omega) | (conv => whnf)) | (refine ⟨by omega, ?_⟩; conv => whnf) | (intro _; conv => whnf))))
        exact fin σ2 rb e2
      have C224 : P 224 [.inr (41, 0), .inr (0, 0), .inr (26, 0), .inl i] [] σ := by
        (refine go (t := tb_law) (WPd_mono d) hP 90 [18] ?_; (conv => whnf); (repeat' (first | (refine ⟨fun _ => ?_, fun _ => ?_⟩ <;> first | (exfalso; omega) | (conv => whnf)) | (refine ⟨by omega, ?_⟩; conv => whnf) | (intro _; conv => whnf))))
        refine (WPd_mono d) _ _ _ _ _ (fun r σ1 hz => ?_) (p_setLayer hd hR g1 g2 g3)
        obtain ⟨v, rfl, f1, vb, h5⟩ := hz
        have e41 : σ1 41 0 = σ 41 0 := f1 41 0 (by decide)
        have l1 : σ1 41 0 (-1) = L := by rw [e41]; exact hl
        ((conv => whnf); (repeat' (first | (refine ⟨fun _ => ?_, fun _ => ?_⟩ <;> first | (exfalso; omega) | (conv => whnf)) | (refine ⟨by omega, ?_⟩; conv => whnf) | (intro _; conv => whnf))))
        rw [e41]
        refine (WPd_mono d) _ _ _ _ _ (fun r σ2 hz => ?_) h5
        obtain ⟨rfl, rb, f2⟩ := hz
        have e2 : σ2 41 0 = σ 41 0 := by rw [f2 41 0 (by omega), e41]
        ((conv => whnf); (repeat' (first | (refine ⟨fun _ => ?_, fun _ => ?_⟩ <;> first | (exfalso; omega) | (conv => whnf)) | (refine ⟨by omega, ?_⟩; conv => whnf) | (intro _; conv => whnf))))
        exact fin σ2 rb e2
      have C267 : P 267 [.inr (41, 0), .inr (0, 0), .inr (26, 0), .inl i] [] σ := by
        (refine go (t := tb_law) (WPd_mono d) hP 90 [18] ?_; (conv => whnf); (repeat' (first | (refine ⟨fun _ => ?_, fun _ => ?_⟩ <;> first | (exfalso; omega) | (conv => whnf)) | (refine ⟨by omega, ?_⟩; conv => whnf) | (intro _; conv => whnf))))
        refine (WPd_mono d) _ _ _ _ _ (fun r σ1 hz => ?_) (p_addAsh hd hR g1 g2 g3)
        obtain ⟨v, rfl, f1, vb, h5⟩ := hz
        have e41 : σ1 41 0 = σ 41 0 := f1 41 0 (by decide)
        have l1 : σ1 41 0 (-1) = L := by rw [e41]; exact hl
        ((conv => whnf); (repeat' (first | (refine ⟨fun _ => ?_, fun _ => ?_⟩ <;> first | (exfalso; omega) | (conv => whnf)) | (refine ⟨by omega, ?_⟩; conv => whnf) | (intro _; conv => whnf))))
        rw [e41]
        refine (WPd_mono d) _ _ _ _ _ (fun r σ2 hz => ?_) h5
        obtain ⟨rfl, rb, f2⟩ := hz
        have e2 : σ2 41 0 = σ 41 0 := by rw [f2 41 0 (by omega), e41]
        ((conv => whnf); (repeat' (first | (refine ⟨fun _ => ?_, fun _ => ?_⟩ <;> first | (exfalso; omega) | (conv => whnf)) | (refine ⟨by omega, ?_⟩; conv => whnf) | (intro _; conv => whnf))))
        exact fin σ2 rb e2
      have C310 : P 310 [.inr (41, 0), .inr (0, 0), .inr (26, 0), .inl i] [] σ := by
        (refine go (t := tb_law) (WPd_mono d) hP 90 [18] ?_; (conv => whnf); (repeat' (first | (refine ⟨fun _ => ?_, fun _ => ?_⟩ <;> first | (exfalso; omega) | (conv => whnf)) | (refine ⟨by omega, ?_⟩; conv => whnf) | (intro _; conv => whnf))))
        refine (WPd_mono d) _ _ _ _ _ (fun r σ1 hz => ?_) (p_removeAsh hd hR g1)
        obtain ⟨v, rfl, f1, vb, h5⟩ := hz
        have e41 : σ1 41 0 = σ 41 0 := f1 41 0 (by decide)
        have l1 : σ1 41 0 (-1) = L := by rw [e41]; exact hl
        ((conv => whnf); (repeat' (first | (refine ⟨fun _ => ?_, fun _ => ?_⟩ <;> first | (exfalso; omega) | (conv => whnf)) | (refine ⟨by omega, ?_⟩; conv => whnf) | (intro _; conv => whnf))))
        rw [e41]
        refine (WPd_mono d) _ _ _ _ _ (fun r σ2 hz => ?_) h5
        obtain ⟨rfl, rb, f2⟩ := hz
        have e2 : σ2 41 0 = σ 41 0 := by rw [f2 41 0 (by omega), e41]
        ((conv => whnf); (repeat' (first | (refine ⟨fun _ => ?_, fun _ => ?_⟩ <;> first | (exfalso; omega) | (conv => whnf)) | (refine ⟨by omega, ?_⟩; conv => whnf) | (intro _; conv => whnf))))
        exact fin σ2 rb e2
      have C333 : P 333 [.inr (41, 0), .inr (0, 0), .inr (26, 0), .inl i] [] σ := by
        (refine go (t := tb_law) (WPd_mono d) hP 90 [18] ?_; (conv => whnf); (repeat' (first | (refine ⟨fun _ => ?_, fun _ => ?_⟩ <;> first | (exfalso; omega) | (conv => whnf)) | (refine ⟨by omega, ?_⟩; conv => whnf) | (intro _; conv => whnf))))
        refine (WPd_mono d) _ _ _ _ _ (fun r σ1 hz => ?_) (p_set hd hR g1 g2)
        obtain ⟨v, rfl, f1, vb, h5⟩ := hz
        have e41 : σ1 41 0 = σ 41 0 := f1 41 0 (by decide)
        have l1 : σ1 41 0 (-1) = L := by rw [e41]; exact hl
        ((conv => whnf); (repeat' (first | (refine ⟨fun _ => ?_, fun _ => ?_⟩ <;> first | (exfalso; omega) | (conv => whnf)) | (refine ⟨by omega, ?_⟩; conv => whnf) | (intro _; conv => whnf))))
        rw [e41]
        refine (WPd_mono d) _ _ _ _ _ (fun r σ2 hz => ?_) h5
        obtain ⟨rfl, rb, f2⟩ := hz
        have e2 : σ2 41 0 = σ 41 0 := by rw [f2 41 0 (by omega), e41]
        ((conv => whnf); (repeat' (first | (refine ⟨fun _ => ?_, fun _ => ?_⟩ <;> first | (exfalso; omega) | (conv => whnf)) | (refine ⟨by omega, ?_⟩; conv => whnf) | (intro _; conv => whnf))))
        exact fin σ2 rb e2
      have C366 : P 366 [.inr (41, 0), .inr (0, 0), .inr (26, 0), .inl i] [] σ := by
        (refine go (t := tb_law) (WPd_mono d) hP 90 [18] ?_; (conv => whnf); (repeat' (first | (refine ⟨fun _ => ?_, fun _ => ?_⟩ <;> first | (exfalso; omega) | (conv => whnf)) | (refine ⟨by omega, ?_⟩; conv => whnf) | (intro _; conv => whnf))))
        refine (WPd_mono d) _ _ _ _ _ (fun r σ1 hz => ?_) (p_lay hd hR )
        obtain ⟨v, rfl, f1, vb, h5⟩ := hz
        have e41 : σ1 41 0 = σ 41 0 := f1 41 0 (by decide)
        have l1 : σ1 41 0 (-1) = L := by rw [e41]; exact hl
        ((conv => whnf); (repeat' (first | (refine ⟨fun _ => ?_, fun _ => ?_⟩ <;> first | (exfalso; omega) | (conv => whnf)) | (refine ⟨by omega, ?_⟩; conv => whnf) | (intro _; conv => whnf))))
        skip
        refine (WPd_mono d) _ _ _ _ _ (fun r σ2 hz => ?_) h5
        obtain ⟨rfl, rb, f2⟩ := hz
        have e2 : σ2 41 0 = σ 41 0 := by rw [f2 41 0 (by omega), e41]
        ((conv => whnf); (repeat' (first | (refine ⟨fun _ => ?_, fun _ => ?_⟩ <;> first | (exfalso; omega) | (conv => whnf)) | (refine ⟨by omega, ?_⟩; conv => whnf) | (intro _; conv => whnf))))
        exact fin σ2 rb e2
      have C379 : P 379 [.inr (41, 0), .inr (0, 0), .inr (26, 0), .inl i] [] σ := by
        (refine go (t := tb_law) (WPd_mono d) hP 90 [18] ?_; (conv => whnf); (repeat' (first | (refine ⟨fun _ => ?_, fun _ => ?_⟩ <;> first | (exfalso; omega) | (conv => whnf)) | (refine ⟨by omega, ?_⟩; conv => whnf) | (intro _; conv => whnf))))
        refine (WPd_mono d) _ _ _ _ _ (fun r σ1 hz => ?_) (p_undo hd hR )
        obtain ⟨v, rfl, f1, vb, h5⟩ := hz
        have e41 : σ1 41 0 = σ 41 0 := f1 41 0 (by decide)
        have l1 : σ1 41 0 (-1) = L := by rw [e41]; exact hl
        ((conv => whnf); (repeat' (first | (refine ⟨fun _ => ?_, fun _ => ?_⟩ <;> first | (exfalso; omega) | (conv => whnf)) | (refine ⟨by omega, ?_⟩; conv => whnf) | (intro _; conv => whnf))))
        skip
        refine (WPd_mono d) _ _ _ _ _ (fun r σ2 hz => ?_) h5
        obtain ⟨rfl, rb, f2⟩ := hz
        have e2 : σ2 41 0 = σ 41 0 := by rw [f2 41 0 (by omega), e41]
        ((conv => whnf); (repeat' (first | (refine ⟨fun _ => ?_, fun _ => ?_⟩ <;> first | (exfalso; omega) | (conv => whnf)) | (refine ⟨by omega, ?_⟩; conv => whnf) | (intro _; conv => whnf))))
        exact fin σ2 rb e2
      have C392 : P 392 [.inr (41, 0), .inr (0, 0), .inr (26, 0), .inl i] [] σ := by
        (refine go (t := tb_law) (WPd_mono d) hP 90 [18] ?_; (conv => whnf); (repeat' (first | (refine ⟨fun _ => ?_, fun _ => ?_⟩ <;> first | (exfalso; omega) | (conv => whnf)) | (refine ⟨by omega, ?_⟩; conv => whnf) | (intro _; conv => whnf))))
        refine (WPd_mono d) _ _ _ _ _ (fun r σ1 hz => ?_) (p_count hd hR g1)
        obtain ⟨v, rfl, f1, vb, h5⟩ := hz
        have e41 : σ1 41 0 = σ 41 0 := f1 41 0 (by decide)
        have l1 : σ1 41 0 (-1) = L := by rw [e41]; exact hl
        ((conv => whnf); (repeat' (first | (refine ⟨fun _ => ?_, fun _ => ?_⟩ <;> first | (exfalso; omega) | (conv => whnf)) | (refine ⟨by omega, ?_⟩; conv => whnf) | (intro _; conv => whnf))))
        rw [e41]
        refine (WPd_mono d) _ _ _ _ _ (fun r σ2 hz => ?_) h5
        obtain ⟨rfl, rb, f2⟩ := hz
        have e2 : σ2 41 0 = σ 41 0 := by rw [f2 41 0 (by omega), e41]
        ((conv => whnf); (repeat' (first | (refine ⟨fun _ => ?_, fun _ => ?_⟩ <;> first | (exfalso; omega) | (conv => whnf)) | (refine ⟨by omega, ?_⟩; conv => whnf) | (intro _; conv => whnf))))
        exact fin σ2 rb e2
      have C415 : P 415 [.inr (41, 0), .inr (0, 0), .inr (26, 0), .inl i] [] σ := by
        (refine go (t := tb_law) (WPd_mono d) hP 90 [18] ?_; (conv => whnf); (repeat' (first | (refine ⟨fun _ => ?_, fun _ => ?_⟩ <;> first | (exfalso; omega) | (conv => whnf)) | (refine ⟨by omega, ?_⟩; conv => whnf) | (intro _; conv => whnf))))
        refine (WPd_mono d) _ _ _ _ _ (fun r σ1 hz => ?_) (p_layer hd hR g1 g2)
        obtain ⟨v, rfl, f1, vb, h5⟩ := hz
        have e41 : σ1 41 0 = σ 41 0 := f1 41 0 (by decide)
        have l1 : σ1 41 0 (-1) = L := by rw [e41]; exact hl
        ((conv => whnf); (repeat' (first | (refine ⟨fun _ => ?_, fun _ => ?_⟩ <;> first | (exfalso; omega) | (conv => whnf)) | (refine ⟨by omega, ?_⟩; conv => whnf) | (intro _; conv => whnf))))
        rw [e41]
        refine (WPd_mono d) _ _ _ _ _ (fun r σ2 hz => ?_) h5
        obtain ⟨rfl, rb, f2⟩ := hz
        have e2 : σ2 41 0 = σ 41 0 := by rw [f2 41 0 (by omega), e41]
        ((conv => whnf); (repeat' (first | (refine ⟨fun _ => ?_, fun _ => ?_⟩ <;> first | (exfalso; omega) | (conv => whnf)) | (refine ⟨by omega, ?_⟩; conv => whnf) | (intro _; conv => whnf))))
        exact fin σ2 rb e2
      have C448 : P 448 [.inr (41, 0), .inr (0, 0), .inr (26, 0), .inl i] [] σ := by
        (refine go (t := tb_law) (WPd_mono d) hP 90 [18] ?_; (conv => whnf); (repeat' (first | (refine ⟨fun _ => ?_, fun _ => ?_⟩ <;> first | (exfalso; omega) | (conv => whnf)) | (refine ⟨by omega, ?_⟩; conv => whnf) | (intro _; conv => whnf))))
        refine (WPd_mono d) _ _ _ _ _ (fun r σ1 hz => ?_) (p_ash hd hR g1 g2)
        obtain ⟨v, rfl, f1, vb, h5⟩ := hz
        have e41 : σ1 41 0 = σ 41 0 := f1 41 0 (by decide)
        have l1 : σ1 41 0 (-1) = L := by rw [e41]; exact hl
        ((conv => whnf); (repeat' (first | (refine ⟨fun _ => ?_, fun _ => ?_⟩ <;> first | (exfalso; omega) | (conv => whnf)) | (refine ⟨by omega, ?_⟩; conv => whnf) | (intro _; conv => whnf))))
        rw [e41]
        refine (WPd_mono d) _ _ _ _ _ (fun r σ2 hz => ?_) h5
        obtain ⟨rfl, rb, f2⟩ := hz
        have e2 : σ2 41 0 = σ 41 0 := by rw [f2 41 0 (by omega), e41]
        ((conv => whnf); (repeat' (first | (refine ⟨fun _ => ?_, fun _ => ?_⟩ <;> first | (exfalso; omega) | (conv => whnf)) | (refine ⟨by omega, ?_⟩; conv => whnf) | (intro _; conv => whnf))))
        exact fin σ2 rb e2
      have C481 : P 481 [.inr (41, 0), .inr (0, 0), .inr (26, 0), .inl i] [] σ := by
        (refine go (t := tb_law) (WPd_mono d) hP 90 [18] ?_; (conv => whnf); (repeat' (first | (refine ⟨fun _ => ?_, fun _ => ?_⟩ <;> first | (exfalso; omega) | (conv => whnf)) | (refine ⟨by omega, ?_⟩; conv => whnf) | (intro _; conv => whnf))))
        refine (WPd_mono d) _ _ _ _ _ (fun r σ1 hz => ?_) (p_cost hd hR )
        obtain ⟨v, rfl, f1, vb, h5⟩ := hz
        have e41 : σ1 41 0 = σ 41 0 := f1 41 0 (by decide)
        have l1 : σ1 41 0 (-1) = L := by rw [e41]; exact hl
        ((conv => whnf); (repeat' (first | (refine ⟨fun _ => ?_, fun _ => ?_⟩ <;> first | (exfalso; omega) | (conv => whnf)) | (refine ⟨by omega, ?_⟩; conv => whnf) | (intro _; conv => whnf))))
        skip
        refine (WPd_mono d) _ _ _ _ _ (fun r σ2 hz => ?_) h5
        obtain ⟨rfl, rb, f2⟩ := hz
        have e2 : σ2 41 0 = σ 41 0 := by rw [f2 41 0 (by omega), e41]
        ((conv => whnf); (repeat' (first | (refine ⟨fun _ => ?_, fun _ => ?_⟩ <;> first | (exfalso; omega) | (conv => whnf)) | (refine ⟨by omega, ?_⟩; conv => whnf) | (intro _; conv => whnf))))
        exact fin σ2 rb e2
      have C494 : P 494 [.inr (41, 0), .inr (0, 0), .inr (26, 0), .inl i] [] σ := by
        (refine go (t := tb_law) (WPd_mono d) hP 90 [18] ?_; (conv => whnf); (repeat' (first | (refine ⟨fun _ => ?_, fun _ => ?_⟩ <;> first | (exfalso; omega) | (conv => whnf)) | (refine ⟨by omega, ?_⟩; conv => whnf) | (intro _; conv => whnf))))
        refine (WPd_mono d) _ _ _ _ _ (fun r σ1 hz => ?_) (p_years hd hR g1 g2)
        obtain ⟨v, rfl, f1, vb, h5⟩ := hz
        have e41 : σ1 41 0 = σ 41 0 := f1 41 0 (by decide)
        have l1 : σ1 41 0 (-1) = L := by rw [e41]; exact hl
        ((conv => whnf); (repeat' (first | (refine ⟨fun _ => ?_, fun _ => ?_⟩ <;> first | (exfalso; omega) | (conv => whnf)) | (refine ⟨by omega, ?_⟩; conv => whnf) | (intro _; conv => whnf))))
        rw [e41]
        refine (WPd_mono d) _ _ _ _ _ (fun r σ2 hz => ?_) h5
        obtain ⟨rfl, rb, f2⟩ := hz
        have e2 : σ2 41 0 = σ 41 0 := by rw [f2 41 0 (by omega), e41]
        ((conv => whnf); (repeat' (first | (refine ⟨fun _ => ?_, fun _ => ?_⟩ <;> first | (exfalso; omega) | (conv => whnf)) | (refine ⟨by omega, ?_⟩; conv => whnf) | (intro _; conv => whnf))))
        exact fin σ2 rb e2
      have C527 : P 527 [.inr (41, 0), .inr (0, 0), .inr (26, 0), .inl i] [] σ := by
        (refine go (t := tb_law) (WPd_mono d) hP 90 [18] ?_; (conv => whnf); (repeat' (first | (refine ⟨fun _ => ?_, fun _ => ?_⟩ <;> first | (exfalso; omega) | (conv => whnf)) | (refine ⟨by omega, ?_⟩; conv => whnf) | (intro _; conv => whnf))))
        refine (WPd_mono d) _ _ _ _ _ (fun r σ1 hz => ?_) (p_age hd hR g1)
        obtain ⟨v, rfl, f1, vb, h5⟩ := hz
        have e41 : σ1 41 0 = σ 41 0 := f1 41 0 (by decide)
        have l1 : σ1 41 0 (-1) = L := by rw [e41]; exact hl
        ((conv => whnf); (repeat' (first | (refine ⟨fun _ => ?_, fun _ => ?_⟩ <;> first | (exfalso; omega) | (conv => whnf)) | (refine ⟨by omega, ?_⟩; conv => whnf) | (intro _; conv => whnf))))
        rw [e41]
        refine (WPd_mono d) _ _ _ _ _ (fun r σ2 hz => ?_) h5
        obtain ⟨rfl, rb, f2⟩ := hz
        have e2 : σ2 41 0 = σ 41 0 := by rw [f2 41 0 (by omega), e41]
        ((conv => whnf); (repeat' (first | (refine ⟨fun _ => ?_, fun _ => ?_⟩ <;> first | (exfalso; omega) | (conv => whnf)) | (refine ⟨by omega, ?_⟩; conv => whnf) | (intro _; conv => whnf))))
        exact fin σ2 rb e2
      have C550 : P 550 [.inr (41, 0), .inr (0, 0), .inr (26, 0), .inl i] [] σ := by
        (refine go (t := tb_law) (WPd_mono d) hP 90 [18] ?_; (conv => whnf); (repeat' (first | (refine ⟨fun _ => ?_, fun _ => ?_⟩ <;> first | (exfalso; omega) | (conv => whnf)) | (refine ⟨by omega, ?_⟩; conv => whnf) | (intro _; conv => whnf))))
        refine (WPd_mono d) _ _ _ _ _ (fun r σ1 hz => ?_) (p_offset hd hR g1)
        obtain ⟨v, rfl, f1, vb, h5⟩ := hz
        have e41 : σ1 41 0 = σ 41 0 := f1 41 0 (by decide)
        have l1 : σ1 41 0 (-1) = L := by rw [e41]; exact hl
        ((conv => whnf); (repeat' (first | (refine ⟨fun _ => ?_, fun _ => ?_⟩ <;> first | (exfalso; omega) | (conv => whnf)) | (refine ⟨by omega, ?_⟩; conv => whnf) | (intro _; conv => whnf))))
        rw [e41]
        refine (WPd_mono d) _ _ _ _ _ (fun r σ2 hz => ?_) h5
        obtain ⟨rfl, rb, f2⟩ := hz
        have e2 : σ2 41 0 = σ 41 0 := by rw [f2 41 0 (by omega), e41]
        ((conv => whnf); (repeat' (first | (refine ⟨fun _ => ?_, fun _ => ?_⟩ <;> first | (exfalso; omega) | (conv => whnf)) | (refine ⟨by omega, ?_⟩; conv => whnf) | (intro _; conv => whnf))))
        exact fin σ2 rb e2
      have C573 : P 573 [.inr (41, 0), .inr (0, 0), .inr (26, 0), .inl i] [] σ := by
        (refine go (t := tb_law) (WPd_mono d) hP 90 [18] ?_; (conv => whnf); (repeat' (first | (refine ⟨fun _ => ?_, fun _ => ?_⟩ <;> first | (exfalso; omega) | (conv => whnf)) | (refine ⟨by omega, ?_⟩; conv => whnf) | (intro _; conv => whnf))))
        refine (WPd_mono d) _ _ _ _ _ (fun r σ1 hz => ?_) (p_total hd hR g1)
        obtain ⟨v, rfl, f1, vb, h5⟩ := hz
        have e41 : σ1 41 0 = σ 41 0 := f1 41 0 (by decide)
        have l1 : σ1 41 0 (-1) = L := by rw [e41]; exact hl
        ((conv => whnf); (repeat' (first | (refine ⟨fun _ => ?_, fun _ => ?_⟩ <;> first | (exfalso; omega) | (conv => whnf)) | (refine ⟨by omega, ?_⟩; conv => whnf) | (intro _; conv => whnf))))
        rw [e41]
        refine (WPd_mono d) _ _ _ _ _ (fun r σ2 hz => ?_) h5
        obtain ⟨rfl, rb, f2⟩ := hz
        have e2 : σ2 41 0 = σ 41 0 := by rw [f2 41 0 (by omega), e41]
        ((conv => whnf); (repeat' (first | (refine ⟨fun _ => ?_, fun _ => ?_⟩ <;> first | (exfalso; omega) | (conv => whnf)) | (refine ⟨by omega, ?_⟩; conv => whnf) | (intro _; conv => whnf))))
        exact fin σ2 rb e2
      have C596 : P 596 [.inr (41, 0), .inr (0, 0), .inr (26, 0), .inl i] [] σ := by
        (refine go (t := tb_law) (WPd_mono d) hP 90 [18] ?_; (conv => whnf); (repeat' (first | (refine ⟨fun _ => ?_, fun _ => ?_⟩ <;> first | (exfalso; omega) | (conv => whnf)) | (refine ⟨by omega, ?_⟩; conv => whnf) | (intro _; conv => whnf))))
        refine (WPd_mono d) _ _ _ _ _ (fun r σ1 hz => ?_) (p_ways hd hR )
        obtain ⟨v, rfl, f1, vb, h5⟩ := hz
        have e41 : σ1 41 0 = σ 41 0 := f1 41 0 (by decide)
        have l1 : σ1 41 0 (-1) = L := by rw [e41]; exact hl
        ((conv => whnf); (repeat' (first | (refine ⟨fun _ => ?_, fun _ => ?_⟩ <;> first | (exfalso; omega) | (conv => whnf)) | (refine ⟨by omega, ?_⟩; conv => whnf) | (intro _; conv => whnf))))
        skip
        refine (WPd_mono d) _ _ _ _ _ (fun r σ2 hz => ?_) h5
        obtain ⟨rfl, rb, f2⟩ := hz
        have e2 : σ2 41 0 = σ 41 0 := by rw [f2 41 0 (by omega), e41]
        ((conv => whnf); (repeat' (first | (refine ⟨fun _ => ?_, fun _ => ?_⟩ <;> first | (exfalso; omega) | (conv => whnf)) | (refine ⟨by omega, ?_⟩; conv => whnf) | (intro _; conv => whnf))))
        exact fin σ2 rb e2
      have C609 : P 609 [.inr (41, 0), .inr (0, 0), .inr (26, 0), .inl i] [] σ := by
        (refine go (t := tb_law) (WPd_mono d) hP 90 [18] ?_; (conv => whnf); (repeat' (first | (refine ⟨fun _ => ?_, fun _ => ?_⟩ <;> first | (exfalso; omega) | (conv => whnf)) | (refine ⟨by omega, ?_⟩; conv => whnf) | (intro _; conv => whnf))))
        refine (WPd_mono d) _ _ _ _ _ (fun r σ1 hz => ?_) (p_rate hd hR g1 g2 g3)
        obtain ⟨v, rfl, f1, vb, h5⟩ := hz
        have e41 : σ1 41 0 = σ 41 0 := f1 41 0 (by decide)
        have l1 : σ1 41 0 (-1) = L := by rw [e41]; exact hl
        ((conv => whnf); (repeat' (first | (refine ⟨fun _ => ?_, fun _ => ?_⟩ <;> first | (exfalso; omega) | (conv => whnf)) | (refine ⟨by omega, ?_⟩; conv => whnf) | (intro _; conv => whnf))))
        rw [e41]
        refine (WPd_mono d) _ _ _ _ _ (fun r σ2 hz => ?_) h5
        obtain ⟨rfl, rb, f2⟩ := hz
        have e2 : σ2 41 0 = σ 41 0 := by rw [f2 41 0 (by omega), e41]
        ((conv => whnf); (repeat' (first | (refine ⟨fun _ => ?_, fun _ => ?_⟩ <;> first | (exfalso; omega) | (conv => whnf)) | (refine ⟨by omega, ?_⟩; conv => whnf) | (intro _; conv => whnf))))
        exact fin σ2 rb e2
      have C652 : P 652 [.inr (41, 0), .inr (0, 0), .inr (26, 0), .inl i] [] σ := by
        (refine go (t := tb_law) (WPd_mono d) hP 90 [18] ?_; (conv => whnf); (repeat' (first | (refine ⟨fun _ => ?_, fun _ => ?_⟩ <;> first | (exfalso; omega) | (conv => whnf)) | (refine ⟨by omega, ?_⟩; conv => whnf) | (intro _; conv => whnf))))
        refine (WPd_mono d) _ _ _ _ _ (fun r σ1 hz => ?_) (p_bound hd hR g1 g2 g3)
        obtain ⟨v, rfl, f1, vb, h5⟩ := hz
        have e41 : σ1 41 0 = σ 41 0 := f1 41 0 (by decide)
        have l1 : σ1 41 0 (-1) = L := by rw [e41]; exact hl
        ((conv => whnf); (repeat' (first | (refine ⟨fun _ => ?_, fun _ => ?_⟩ <;> first | (exfalso; omega) | (conv => whnf)) | (refine ⟨by omega, ?_⟩; conv => whnf) | (intro _; conv => whnf))))
        rw [e41]
        refine (WPd_mono d) _ _ _ _ _ (fun r σ2 hz => ?_) h5
        obtain ⟨rfl, rb, f2⟩ := hz
        have e2 : σ2 41 0 = σ 41 0 := by rw [f2 41 0 (by omega), e41]
        ((conv => whnf); (repeat' (first | (refine ⟨fun _ => ?_, fun _ => ?_⟩ <;> first | (exfalso; omega) | (conv => whnf)) | (refine ⟨by omega, ?_⟩; conv => whnf) | (intro _; conv => whnf))))
        exact fin σ2 rb e2
      have C695 : P 695 [.inr (41, 0), .inr (0, 0), .inr (26, 0), .inl i] [] σ := by
        (refine go (t := tb_law) (WPd_mono d) hP 90 [18] ?_; (conv => whnf); (repeat' (first | (refine ⟨fun _ => ?_, fun _ => ?_⟩ <;> first | (exfalso; omega) | (conv => whnf)) | (refine ⟨by omega, ?_⟩; conv => whnf) | (intro _; conv => whnf))))
        refine (WPd_mono d) _ _ _ _ _ (fun r σ1 hz => ?_) (p_without hd hR g1)
        obtain ⟨v, rfl, f1, vb, h5⟩ := hz
        have e41 : σ1 41 0 = σ 41 0 := f1 41 0 (by decide)
        have l1 : σ1 41 0 (-1) = L := by rw [e41]; exact hl
        ((conv => whnf); (repeat' (first | (refine ⟨fun _ => ?_, fun _ => ?_⟩ <;> first | (exfalso; omega) | (conv => whnf)) | (refine ⟨by omega, ?_⟩; conv => whnf) | (intro _; conv => whnf))))
        rw [e41]
        refine (WPd_mono d) _ _ _ _ _ (fun r σ2 hz => ?_) h5
        obtain ⟨rfl, rb, f2⟩ := hz
        have e2 : σ2 41 0 = σ 41 0 := by rw [f2 41 0 (by omega), e41]
        ((conv => whnf); (repeat' (first | (refine ⟨fun _ => ?_, fun _ => ?_⟩ <;> first | (exfalso; omega) | (conv => whnf)) | (refine ⟨by omega, ?_⟩; conv => whnf) | (intro _; conv => whnf))))
        exact fin σ2 rb e2
      have C718 : P 718 [.inr (41, 0), .inr (0, 0), .inr (26, 0), .inl i] [] σ := by
        (refine go (t := tb_law) (WPd_mono d) hP 90 [18] ?_; (conv => whnf); (repeat' (first | (refine ⟨fun _ => ?_, fun _ => ?_⟩ <;> first | (exfalso; omega) | (conv => whnf)) | (refine ⟨by omega, ?_⟩; conv => whnf) | (intro _; conv => whnf))))
        refine (WPd_mono d) _ _ _ _ _ (fun r σ1 hz => ?_) (p_widen hd hR )
        obtain ⟨v, rfl, f1, vb, h5⟩ := hz
        have e41 : σ1 41 0 = σ 41 0 := f1 41 0 (by decide)
        have l1 : σ1 41 0 (-1) = L := by rw [e41]; exact hl
        ((conv => whnf); (repeat' (first | (refine ⟨fun _ => ?_, fun _ => ?_⟩ <;> first | (exfalso; omega) | (conv => whnf)) | (refine ⟨by omega, ?_⟩; conv => whnf) | (intro _; conv => whnf))))
        skip
        refine (WPd_mono d) _ _ _ _ _ (fun r σ2 hz => ?_) h5
        obtain ⟨rfl, rb, f2⟩ := hz
        have e2 : σ2 41 0 = σ 41 0 := by rw [f2 41 0 (by omega), e41]
        ((conv => whnf); (repeat' (first | (refine ⟨fun _ => ?_, fun _ => ?_⟩ <;> first | (exfalso; omega) | (conv => whnf)) | (refine ⟨by omega, ?_⟩; conv => whnf) | (intro _; conv => whnf))))
        exact fin σ2 rb e2
      have C731 : P 731 [.inr (41, 0), .inr (0, 0), .inr (26, 0), .inl i] [] σ := by
        (refine go (t := tb_law) (WPd_mono d) hP 90 [18] ?_; (conv => whnf); (repeat' (first | (refine ⟨fun _ => ?_, fun _ => ?_⟩ <;> first | (exfalso; omega) | (conv => whnf)) | (refine ⟨by omega, ?_⟩; conv => whnf) | (intro _; conv => whnf))))
        refine (WPd_mono d) _ _ _ _ _ (fun r σ1 hz => ?_) (p_costWith hd hR g1 g2 g3)
        obtain ⟨v, rfl, f1, vb, h5⟩ := hz
        have e41 : σ1 41 0 = σ 41 0 := f1 41 0 (by decide)
        have l1 : σ1 41 0 (-1) = L := by rw [e41]; exact hl
        ((conv => whnf); (repeat' (first | (refine ⟨fun _ => ?_, fun _ => ?_⟩ <;> first | (exfalso; omega) | (conv => whnf)) | (refine ⟨by omega, ?_⟩; conv => whnf) | (intro _; conv => whnf))))
        rw [e41]
        refine (WPd_mono d) _ _ _ _ _ (fun r σ2 hz => ?_) h5
        obtain ⟨rfl, rb, f2⟩ := hz
        have e2 : σ2 41 0 = σ 41 0 := by rw [f2 41 0 (by omega), e41]
        ((conv => whnf); (repeat' (first | (refine ⟨fun _ => ?_, fun _ => ?_⟩ <;> first | (exfalso; omega) | (conv => whnf)) | (refine ⟨by omega, ?_⟩; conv => whnf) | (intro _; conv => whnf))))
        exact fin σ2 rb e2
      have C774 : P 774 [.inr (41, 0), .inr (0, 0), .inr (26, 0), .inl i] [] σ := by
        (refine go (t := tb_law) (WPd_mono d) hP 90 [18] ?_; (conv => whnf); (repeat' (first | (refine ⟨fun _ => ?_, fun _ => ?_⟩ <;> first | (exfalso; omega) | (conv => whnf)) | (refine ⟨by omega, ?_⟩; conv => whnf) | (intro _; conv => whnf))))
        refine (WPd_mono d) _ _ _ _ _ (fun r σ1 hz => ?_) (p_type hd hR g1)
        obtain ⟨v, rfl, f1, vb, h5⟩ := hz
        have e41 : σ1 41 0 = σ 41 0 := f1 41 0 (by decide)
        have l1 : σ1 41 0 (-1) = L := by rw [e41]; exact hl
        ((conv => whnf); (repeat' (first | (refine ⟨fun _ => ?_, fun _ => ?_⟩ <;> first | (exfalso; omega) | (conv => whnf)) | (refine ⟨by omega, ?_⟩; conv => whnf) | (intro _; conv => whnf))))
        rw [e41]
        refine (WPd_mono d) _ _ _ _ _ (fun r σ2 hz => ?_) h5
        obtain ⟨rfl, rb, f2⟩ := hz
        have e2 : σ2 41 0 = σ 41 0 := by rw [f2 41 0 (by omega), e41]
        ((conv => whnf); (repeat' (first | (refine ⟨fun _ => ?_, fun _ => ?_⟩ <;> first | (exfalso; omega) | (conv => whnf)) | (refine ⟨by omega, ?_⟩; conv => whnf) | (intro _; conv => whnf))))
        exact fin σ2 rb e2
      have C797 : P 797 [.inr (41, 0), .inr (0, 0), .inr (26, 0), .inl i] [] σ := by
        (refine go (t := tb_law) (WPd_mono d) hP 90 [18] ?_; (conv => whnf); (repeat' (first | (refine ⟨fun _ => ?_, fun _ => ?_⟩ <;> first | (exfalso; omega) | (conv => whnf)) | (refine ⟨by omega, ?_⟩; conv => whnf) | (intro _; conv => whnf))))
        refine (WPd_mono d) _ _ _ _ _ (fun r σ1 hz => ?_) (p_clearText hd hR )
        obtain ⟨v, rfl, f1, vb, h5⟩ := hz
        have e41 : σ1 41 0 = σ 41 0 := f1 41 0 (by decide)
        have l1 : σ1 41 0 (-1) = L := by rw [e41]; exact hl
        ((conv => whnf); (repeat' (first | (refine ⟨fun _ => ?_, fun _ => ?_⟩ <;> first | (exfalso; omega) | (conv => whnf)) | (refine ⟨by omega, ?_⟩; conv => whnf) | (intro _; conv => whnf))))
        skip
        refine (WPd_mono d) _ _ _ _ _ (fun r σ2 hz => ?_) h5
        obtain ⟨rfl, rb, f2⟩ := hz
        have e2 : σ2 41 0 = σ 41 0 := by rw [f2 41 0 (by omega), e41]
        ((conv => whnf); (repeat' (first | (refine ⟨fun _ => ?_, fun _ => ?_⟩ <;> first | (exfalso; omega) | (conv => whnf)) | (refine ⟨by omega, ?_⟩; conv => whnf) | (intro _; conv => whnf))))
        exact fin σ2 rb e2
      have C810 : P 810 [.inr (41, 0), .inr (0, 0), .inr (26, 0), .inl i] [] σ := by
        (refine go (t := tb_law) (WPd_mono d) hP 90 [18] ?_; (conv => whnf); (repeat' (first | (refine ⟨fun _ => ?_, fun _ => ?_⟩ <;> first | (exfalso; omega) | (conv => whnf)) | (refine ⟨by omega, ?_⟩; conv => whnf) | (intro _; conv => whnf))))
        refine (WPd_mono d) _ _ _ _ _ (fun r σ1 hz => ?_) (p_fault hd hR )
        obtain ⟨v, rfl, f1, vb, h5⟩ := hz
        have e41 : σ1 41 0 = σ 41 0 := f1 41 0 (by decide)
        have l1 : σ1 41 0 (-1) = L := by rw [e41]; exact hl
        ((conv => whnf); (repeat' (first | (refine ⟨fun _ => ?_, fun _ => ?_⟩ <;> first | (exfalso; omega) | (conv => whnf)) | (refine ⟨by omega, ?_⟩; conv => whnf) | (intro _; conv => whnf))))
        skip
        refine (WPd_mono d) _ _ _ _ _ (fun r σ2 hz => ?_) h5
        obtain ⟨rfl, rb, f2⟩ := hz
        have e2 : σ2 41 0 = σ 41 0 := by rw [f2 41 0 (by omega), e41]
        ((conv => whnf); (repeat' (first | (refine ⟨fun _ => ?_, fun _ => ?_⟩ <;> first | (exfalso; omega) | (conv => whnf)) | (refine ⟨by omega, ?_⟩; conv => whnf) | (intro _; conv => whnf))))
        exact fin σ2 rb e2
      have D : P 823 [.inr (41, 0), .inr (0, 0), .inr (26, 0), .inl i] [] σ := by
        (refine go (t := tb_law) (WPd_mono d) hP 90 [18] ?_; (conv => whnf); (repeat' (first | (refine ⟨fun _ => ?_, fun _ => ?_⟩ <;> first | (exfalso; omega) | (conv => whnf)) | (refine ⟨by omega, ?_⟩; conv => whnf) | (intro _; conv => whnf))))
        exact fin σ hR rfl
      have sb : 0 ≤ σ 41 0 i % 32 ∧ σ 41 0 i % 32 < 32 := by omega
      (refine go (t := tb_law) (WPd_mono d) hP 90 [18, 823, 148, 201, 224, 267, 310, 333, 366, 379, 392, 415, 448, 481, 494, 527, 550, 573, 596, 609, 652, 695, 718, 731, 774, 797, 810] ?_; (conv => whnf); (repeat' (first | (refine ⟨fun _ => ?_, fun _ => ?_⟩ <;> first | (exfalso; omega) | (conv => whnf)) | (refine ⟨by omega, ?_⟩; conv => whnf) | (intro _; conv => whnf))))
      refine ⟨fun q => D, ?_⟩
      (conv => whnf)
      refine ⟨fun q => C148, ?_⟩
      (conv => whnf)
      refine ⟨fun q => C201, ?_⟩
      (conv => whnf)
      refine ⟨fun q => C224, ?_⟩
      (conv => whnf)
      refine ⟨fun q => C267, ?_⟩
      (conv => whnf)
      refine ⟨fun q => C310, ?_⟩
      (conv => whnf)
      refine ⟨fun q => C333, ?_⟩
      (conv => whnf)
      refine ⟨fun q => C366, ?_⟩
      (conv => whnf)
      refine ⟨fun q => C379, ?_⟩
      (conv => whnf)
      refine ⟨fun q => C392, ?_⟩
      (conv => whnf)
      refine ⟨fun q => C415, ?_⟩
      (conv => whnf)
      refine ⟨fun q => C448, ?_⟩
      (conv => whnf)
      refine ⟨fun q => C481, ?_⟩
      (conv => whnf)
      refine ⟨fun q => C494, ?_⟩
      (conv => whnf)
      refine ⟨fun q => C527, ?_⟩
      (conv => whnf)
      refine ⟨fun q => C550, ?_⟩
      (conv => whnf)
      refine ⟨fun q => C573, ?_⟩
      (conv => whnf)
      refine ⟨fun q => C596, ?_⟩
      (conv => whnf)
      refine ⟨fun q => C609, ?_⟩
      (conv => whnf)
      refine ⟨fun q => C652, ?_⟩
      (conv => whnf)
      refine ⟨fun q => C695, ?_⟩
      (conv => whnf)
      refine ⟨fun q => C718, ?_⟩
      (conv => whnf)
      refine ⟨fun q => C731, ?_⟩
      (conv => whnf)
      refine ⟨fun q => C774, ?_⟩
      (conv => whnf)
      refine ⟨fun q => C797, ?_⟩
      (conv => whnf)
      refine ⟨fun q => C810, ?_⟩
      exact trivial
    · (refine go (t := tb_law) (WPd_mono d) hP 90 [18] ?_; (conv => whnf); (repeat' (first | (refine ⟨fun _ => ?_, fun _ => ?_⟩ <;> first | (exfalso; omega) | (conv => whnf)) | (refine ⟨by omega, ?_⟩; conv => whnf) | (intro _; conv => whnf))))
