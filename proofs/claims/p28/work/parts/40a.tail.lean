/-! TAILS of locals: what stands behind the locals that are looked at may be left out -/
def wkP (P : Ctx) : Ctx := fun pc ls st σ => ∀ t, P pc (ls ++ t) st σ
theorem ext_get {l t : List AV} {k : Nat} {x : AV} (h : l[k]? = some x) : (l ++ t)[k]? = some x := by
  have hk : k < l.length := by
    by_cases q : k < l.length
    · exact q
    · rw [List.getElem?_eq_none (by omega)] at h
      cases h
  rw [List.getElem?_append_left hk, h]
theorem setl_ext : ∀ {l l' : List AV} {k : Nat} {v : AV}, setl l k v = some l' → ∀ t, ∃ t', setl (l ++ t) k v = some (l' ++ t')
  | [], l', 0, v, h, t => by
    cases h
    cases t with
    | nil => exact ⟨[], rfl⟩
    | cons a t1 => exact ⟨t1, rfl⟩
  | [], l', k + 1, v, h, t => by cases h
  | a :: l, l', 0, v, h, t => by
    cases h
    exact ⟨t, rfl⟩
  | a :: l, l', k + 1, v, h, t => by
    unfold setl at h
    cases e : setl l k v with
    | none => rw [e] at h; cases h
    | some l1 =>
      rw [e] at h
      cases h
      obtain ⟨t', e'⟩ := setl_ext e t
      refine ⟨t', ?_⟩
      show (match setl (l ++ t) k v with | some l' => some (a :: l') | none => none) = _
      rw [e']
      rfl
theorem stp_ext {Γ : Gam} {Q : Post} {P : Ctx} (hΓ : gmono Γ) {ls st : List AV} {σ : Sto} {ins : AMI} (h : stp Γ Q (wkP P) ls st σ ins) (t : List AV) : stp Γ Q P (ls ++ t) st σ ins := by
  have hc : ∀ (nx : Nat) (ls st' : List AV) (r : Option AV) (σ' : Sto), (match r with
      | none => wkP P nx ls st' σ'
      | some v => wkP P nx ls (v :: st') σ') → (match r with
      | none => P nx (ls ++ t) st' σ'
      | some v => P nx (ls ++ t) (v :: st') σ') := by
    intro nx ls st' r σ' h
    cases r <;> exact h t
  unfold stp at h ⊢
  split at h
  · exact h t
  · unfold s_load at h ⊢; split at h <;> first | exact h.elim | (rename_i e1; rw [ext_get e1]; exact h t)
  · unfold s_loadA at h ⊢; split at h <;> first | exact h.elim | (rename_i e1; rw [ext_get e1]; exact h t)
  · unfold s_store at h ⊢; split at h
    · split at h
      · rename_i e1
        obtain ⟨t', e'⟩ := setl_ext e1 t
        simp only [e']
        exact h t'
      · exact h.elim
    · exact h.elim
  · unfold s_storeA at h ⊢; split at h
    · split at h
      · rename_i e1
        obtain ⟨t', e'⟩ := setl_ext e1 t
        simp only [e']
        exact h t'
      · exact h.elim
    · exact h.elim
  · unfold s_add at h ⊢; split at h <;> first | exact h.elim | exact h t
  · unfold s_sub at h ⊢; split at h <;> first | exact h.elim | exact h t
  · unfold s_mul at h ⊢; split at h <;> first | exact h.elim | exact h t
  · unfold s_idiv at h ⊢; split at h <;> first | exact h.elim | exact ⟨h.1, h.2 t⟩
  · unfold s_irem at h ⊢; split at h <;> first | exact h.elim | exact ⟨h.1, h.2 t⟩
  · unfold s_neg at h ⊢; split at h <;> first | exact h.elim | exact h t
  · unfold s_iinc at h ⊢; split at h
    · rename_i e0
      split at h
      · rename_i e1
        obtain ⟨t', e'⟩ := setl_ext e1 t
        simp only [ext_get e0, e']
        exact h t'
      · exact h.elim
    · exact h.elim
  · unfold s_dup at h ⊢; split at h <;> first | exact h.elim | exact h t
  · unfold s_dup2 at h ⊢; split at h <;> first | exact h.elim | exact h t
  · unfold s_pop at h ⊢; split at h <;> first | exact h.elim | exact h t
  · unfold s_if at h ⊢; split at h <;> first | exact h.elim | exact ⟨h.1, brc_mono (fun q => q t) (fun q => q t) h.2⟩
  · unfold s_icmp at h ⊢; split at h <;> first | exact h.elim | exact ⟨h.1, brc_mono (fun q => q t) (fun q => q t) h.2⟩
  · exact h t
  · unfold s_switch at h ⊢; split at h <;> first | exact h.elim | exact ⟨h.1, fun q => h.2.1 q t, swc_mono (fun _ q => q t) h.2.2⟩
  · unfold s_iald at h ⊢; split at h
    · split at h <;> first | exact h.elim | exact ⟨h.1, fun q => h.2 q t⟩ | (rename_i e1; simp only [e1]; exact ⟨h.1, fun q => h.2 q t⟩)
    · exact h.elim
  · unfold s_cald at h ⊢; split at h
    · split at h <;> first | exact h.elim | exact ⟨h.1, fun q => h.2 q t⟩ | (rename_i e1; simp only [e1]; exact ⟨h.1, fun q => h.2 q t⟩)
    · exact h.elim
  · unfold s_aald at h ⊢; split at h
    · split at h <;> first | exact h.elim | exact ⟨h.1, h.2 t⟩ | (rename_i e1; simp only [e1]; exact ⟨h.1, h.2 t⟩)
    · exact h.elim
  · unfold s_iast at h ⊢; split at h
    · split at h <;> first | exact h.elim | exact ⟨h.1, h.2 t⟩ | (rename_i e1; simp only [e1]; exact ⟨h.1, h.2 t⟩)
    · exact h.elim
  · unfold s_cast at h ⊢; split at h
    · split at h <;> first | exact h.elim | exact ⟨h.1, h.2 t⟩ | (rename_i e1; simp only [e1]; exact ⟨h.1, h.2 t⟩)
    · exact h.elim
  · unfold s_get at h ⊢; split at h
    · split at h
      · rename_i e0
        split at h
        · rename_i e2
          split at h <;> first | exact h.elim | first | exact h t | exact fun q => h q t | (rename_i e1; simp only [e0, e1, if_pos e2]; first | exact h t | exact fun q => h q t)
        · exact h.elim
      · exact h.elim
    · exact h.elim
  · unfold s_put at h ⊢; split at h
    · split at h
      · rename_i e0
        split at h
        · rename_i e2
          split at h
          · rename_i e1
            simp only [e0, e1, if_pos e2]
            exact ⟨h.1, h.2 t⟩
          · exact h.elim
        · exact h.elim
      · exact h.elim
    · exact h.elim
  · unfold s_put at h ⊢; split at h
    · split at h
      · rename_i e0
        split at h
        · rename_i e2
          split at h
          · rename_i e1
            simp only [e0, e1, if_pos e2]
            exact ⟨h.1, h.2 t⟩
          · exact h.elim
        · exact h.elim
      · exact h.elim
    · exact h.elim
  · unfold s_i2c at h ⊢; split at h <;> first | exact h.elim | exact ⟨h.1, h.2 t⟩
  · unfold s_copy at h ⊢; split at h
    · split at h
      · rename_i e0 e1
        split at h <;> first | exact h.elim | exact ⟨h.1, h.2 t⟩ | (rename_i e2; simp only [e0, e1, if_pos e2]; exact ⟨h.1, h.2 t⟩)
      · exact h.elim
    · exact h.elim
  · unfold s_call at h ⊢; split at h
    · rename_i e0
      split at h <;> first | exact h.elim | exact hΓ _ _ _ _ _ (hc _ _ _) h | (rename_i e2; simp only [e0, if_pos e2]; exact hΓ _ _ _ _ _ (hc _ _ _) h)
    · exact h.elim
  · unfold s_callV at h ⊢; split at h
    · rename_i e0
      split at h
      · rename_i e1
        split at h
        · rename_i e3
          split at h <;> first | exact h.elim | exact hΓ _ _ _ _ _ (hc _ _ _) h | (rename_i e2; simp only [e0, e1, if_pos e2, if_pos e3]; exact hΓ _ _ _ _ _ (hc _ _ _) h)
        · exact h.elim
      · exact h.elim
    · exact h.elim
  · unfold s_call at h ⊢; split at h
    · rename_i e0
      split at h <;> first | exact h.elim | exact hΓ _ _ _ _ _ (hc _ _ _) h | (rename_i e2; simp only [e0, if_pos e2]; exact hΓ _ _ _ _ _ (hc _ _ _) h)
    · exact h.elim
  · unfold s_min at h ⊢; split at h
    · split at h <;> first | exact h.elim | exact ⟨h.1, h.2 t⟩ | (rename_i e2; simp only [if_pos e2]; exact ⟨h.1, h.2 t⟩)
    · exact h.elim
  · unfold s_max at h ⊢; split at h
    · split at h <;> first | exact h.elim | exact ⟨h.1, h.2 t⟩ | (rename_i e2; simp only [if_pos e2]; exact ⟨h.1, h.2 t⟩)
    · exact h.elim
  · unfold s_abs at h ⊢; split at h
    · split at h <;> first | exact h.elim | exact ⟨h.1, h.2 t⟩ | (rename_i e2; simp only [if_pos e2]; exact ⟨h.1, h.2 t⟩)
    · exact h.elim
  · unfold s_ret at h ⊢; split at h <;> first | exact h.elim | exact h
  · unfold s_retZ at h ⊢; split at h <;> first | exact h.elim | exact ⟨h.1, h.2⟩
  · unfold s_retA at h ⊢; split at h <;> first | exact h.elim | exact h
  · unfold s_retV at h ⊢; split at h <;> first | exact h.elim | exact h
  · unfold s_shr at h ⊢; split at h <;> first | exact h.elim | exact ⟨h.1, h.2 t⟩
  · unfold s_and at h ⊢; split at h <;> first | exact h.elim | exact ⟨h.1, h.2 t⟩
  · unfold s_scrLen at h ⊢; split at h <;> first | exact h.elim | exact h t
  · unfold s_scr at h ⊢; split at h <;> first | exact h.elim | exact ⟨h.1, fun q => h.2 q t⟩
  · exact h.elim
/-- a method is walked under a predicate that bears longer locals -/
theorem wpm_of {Γ : Gam} (hΓ : gmono Γ) {y : Nat} {as : List AV} {σ : Sto} {Q : Post} (h : ∀ P : Ctx, (∀ (n : Nat) {pc : Nat} {ls st : List AV} {σ : Sto}, P pc (ls.take n) st σ → P pc ls st σ) → (∀ pc ls st σ, stp Γ Q P ls st σ (lk2 (tbl y) pc) → P pc ls st σ) → P 0 as [] σ) : wpm Γ y as σ Q := by
  intro P hP
  have a := h (wkP P) (fun n pc ls st σ q t => by
    have b := q (ls.drop n ++ t)
    rwa [← List.append_assoc, List.take_append_drop] at b) (fun pc ls st σ q t => hP pc (ls ++ t) st σ (stp_ext hΓ q t)) []
  rwa [List.append_nil] at a
theorem wpd_of {d : Nat} {y : Nat} {as : List AV} {σ : Sto} {Q : Post} (h : ∀ P : Ctx, (∀ (n : Nat) {pc : Nat} {ls st : List AV} {σ : Sto}, P pc (ls.take n) st σ → P pc ls st σ) → (∀ pc ls st σ, stp (WPd d) Q P ls st σ (lk2 (tbl y) pc) → P pc ls st σ) → P 0 as [] σ) : WPd (d + 1) y as σ Q := wpm_of (WPd_mono d) h
