/-! RUNS of the twin: a method's predicate transformer, and how it is walked -/
def wpm (Γ : Gam) : Gam := fun y as σ Q => ∀ P : Ctx, (∀ pc ls st σ, stp Γ Q P ls st σ (lk2 (tbl y) pc) → P pc ls st σ) → P 0 as [] σ
def WPd : Nat → Gam
  | 0 => fun _ _ _ _ => False
  | d + 1 => wpm (WPd d)
def gmono (Γ : Gam) : Prop := ∀ y as σ (Q Q' : Post), (∀ r σ', Q r σ' → Q' r σ') → Γ y as σ Q → Γ y as σ Q'
theorem swc_mono {P P' : Nat → Prop} (h : ∀ t, P t → P' t) {x : Int} : ∀ {ts : List Nat} {lo : Int}, swc P x lo ts → swc P' x lo ts
  | [], _, _ => trivial
  | _ :: _, _, q => ⟨fun e => h _ (q.1 e), swc_mono h q.2⟩
theorem brc_mono {cond : Nat} {x y : Int} {A B A' B' : Prop} (hA : A → A') (hB : B → B') (h : brc cond x y A B) : brc cond x y A' B' := by
  unfold brc at h ⊢
  split at h <;> exact ⟨fun q => hA (h.1 q), fun q => hB (h.2 q)⟩
theorem stp_mono {Γ : Gam} {Q Q' : Post} {P P' : Ctx} (hΓ : gmono Γ) (hQ : ∀ r σ, Q r σ → Q' r σ) (hP : ∀ pc ls st σ, P pc ls st σ → P' pc ls st σ) {ls st : List AV} {σ : Sto} {ins : AMI} (h : stp Γ Q P ls st σ ins) : stp Γ Q' P' ls st σ ins := by
  have hc : ∀ (nx : Nat) (ls st' : List AV) (r : Option AV) (σ' : Sto), (match r with
      | none => P nx ls st' σ'
      | some v => P nx ls (v :: st') σ') → (match r with
      | none => P' nx ls st' σ'
      | some v => P' nx ls (v :: st') σ') := by
    intro nx ls st' r σ' h
    cases r <;> exact hP _ _ _ _ h
  unfold stp at h ⊢
  split at h
  · exact hP _ _ _ _ h
  · unfold s_load at h ⊢; split at h <;> first | exact h.elim | exact hP _ _ _ _ h | (rename_i e1; simp only [e1]; exact hP _ _ _ _ h)
  · unfold s_loadA at h ⊢; split at h <;> first | exact h.elim | exact hP _ _ _ _ h | (rename_i e1; simp only [e1]; exact hP _ _ _ _ h)
  · unfold s_store at h ⊢; split at h
    · split at h <;> first | exact h.elim | exact hP _ _ _ _ h | (rename_i e1; simp only [e1]; exact hP _ _ _ _ h)
    · exact h.elim
  · unfold s_storeA at h ⊢; split at h
    · split at h <;> first | exact h.elim | exact hP _ _ _ _ h | (rename_i e1; simp only [e1]; exact hP _ _ _ _ h)
    · exact h.elim
  · unfold s_add at h ⊢; split at h <;> first | exact h.elim | exact hP _ _ _ _ h
  · unfold s_sub at h ⊢; split at h <;> first | exact h.elim | exact hP _ _ _ _ h
  · unfold s_mul at h ⊢; split at h <;> first | exact h.elim | exact hP _ _ _ _ h
  · unfold s_idiv at h ⊢; split at h <;> first | exact h.elim | exact ⟨h.1, hP _ _ _ _ h.2⟩
  · unfold s_irem at h ⊢; split at h <;> first | exact h.elim | exact ⟨h.1, hP _ _ _ _ h.2⟩
  · unfold s_neg at h ⊢; split at h <;> first | exact h.elim | exact hP _ _ _ _ h
  · unfold s_iinc at h ⊢; split at h
    · rename_i e0
      split at h <;> first | exact h.elim | exact hP _ _ _ _ h | (rename_i e1; simp only [e0, e1]; exact hP _ _ _ _ h)
    · exact h.elim
  · unfold s_dup at h ⊢; split at h <;> first | exact h.elim | exact hP _ _ _ _ h
  · unfold s_dup2 at h ⊢; split at h <;> first | exact h.elim | exact hP _ _ _ _ h
  · unfold s_pop at h ⊢; split at h <;> first | exact h.elim | exact hP _ _ _ _ h
  · unfold s_if at h ⊢; split at h <;> first | exact h.elim | exact ⟨h.1, brc_mono (hP _ _ _ _) (hP _ _ _ _) h.2⟩
  · unfold s_icmp at h ⊢; split at h <;> first | exact h.elim | exact ⟨h.1, brc_mono (hP _ _ _ _) (hP _ _ _ _) h.2⟩
  · exact hP _ _ _ _ h
  · unfold s_switch at h ⊢; split at h <;> first | exact h.elim | exact ⟨h.1, fun q => hP _ _ _ _ (h.2.1 q), swc_mono (fun t => hP _ _ _ _) h.2.2⟩
  · unfold s_iald at h ⊢; split at h
    · split at h <;> first | exact h.elim | exact ⟨h.1, fun q => hP _ _ _ _ (h.2 q)⟩ | (rename_i e1; simp only [e1]; exact ⟨h.1, fun q => hP _ _ _ _ (h.2 q)⟩)
    · exact h.elim
  · unfold s_cald at h ⊢; split at h
    · split at h <;> first | exact h.elim | exact ⟨h.1, fun q => hP _ _ _ _ (h.2 q)⟩ | (rename_i e1; simp only [e1]; exact ⟨h.1, fun q => hP _ _ _ _ (h.2 q)⟩)
    · exact h.elim
  · unfold s_aald at h ⊢; split at h
    · split at h <;> first | exact h.elim | exact ⟨h.1, hP _ _ _ _ h.2⟩ | (rename_i e1; simp only [e1]; exact ⟨h.1, hP _ _ _ _ h.2⟩)
    · exact h.elim
  · unfold s_iast at h ⊢; split at h
    · split at h <;> first | exact h.elim | exact ⟨h.1, hP _ _ _ _ h.2⟩ | (rename_i e1; simp only [e1]; exact ⟨h.1, hP _ _ _ _ h.2⟩)
    · exact h.elim
  · unfold s_cast at h ⊢; split at h
    · split at h <;> first | exact h.elim | exact ⟨h.1, hP _ _ _ _ h.2⟩ | (rename_i e1; simp only [e1]; exact ⟨h.1, hP _ _ _ _ h.2⟩)
    · exact h.elim
  · unfold s_get at h ⊢; split at h
    · split at h
      · rename_i e0
        split at h
        · rename_i e2
          split at h <;> first | exact h.elim | first | exact hP _ _ _ _ h | exact fun q => hP _ _ _ _ (h q) | (rename_i e1; simp only [e0, e1, if_pos e2]; first | exact hP _ _ _ _ h | exact fun q => hP _ _ _ _ (h q))
        · exact h.elim
      · exact h.elim
    · exact h.elim
  · unfold s_put at h ⊢; split at h
    · split at h
      · rename_i e0
        split at h
        · rename_i e2
          split at h
          · rename_i e1
            simp only [e0, e1, if_pos e2]
            exact ⟨h.1, hP _ _ _ _ h.2⟩
          · exact h.elim
        · exact h.elim
      · exact h.elim
    · exact h.elim
  · unfold s_put at h ⊢; split at h
    · split at h
      · rename_i e0
        split at h
        · rename_i e2
          split at h
          · rename_i e1
            simp only [e0, e1, if_pos e2]
            exact ⟨h.1, hP _ _ _ _ h.2⟩
          · exact h.elim
        · exact h.elim
      · exact h.elim
    · exact h.elim
  · unfold s_i2c at h ⊢; split at h <;> first | exact h.elim | exact ⟨h.1, hP _ _ _ _ h.2⟩
  · unfold s_copy at h ⊢; split at h
    · split at h
      · rename_i e0 e1
        split at h <;> first | exact h.elim | exact ⟨h.1, hP _ _ _ _ h.2⟩ | (rename_i e2; simp only [e0, e1, if_pos e2]; exact ⟨h.1, hP _ _ _ _ h.2⟩)
      · exact h.elim
    · exact h.elim
  · unfold s_call at h ⊢; split at h
    · rename_i e0
      split at h <;> first | exact h.elim | exact hΓ _ _ _ _ _ (hc _ _ _) h | (rename_i e2; simp only [e0, if_pos e2]; exact hΓ _ _ _ _ _ (hc _ _ _) h)
    · exact h.elim
  · unfold s_callV at h ⊢; split at h
    · rename_i e0
      split at h
      · rename_i e1
        split at h
        · rename_i e3
          split at h <;> first | exact h.elim | exact hΓ _ _ _ _ _ (hc _ _ _) h | (rename_i e2; simp only [e0, e1, if_pos e2, if_pos e3]; exact hΓ _ _ _ _ _ (hc _ _ _) h)
        · exact h.elim
      · exact h.elim
    · exact h.elim
  · unfold s_call at h ⊢; split at h
    · rename_i e0
      split at h <;> first | exact h.elim | exact hΓ _ _ _ _ _ (hc _ _ _) h | (rename_i e2; simp only [e0, if_pos e2]; exact hΓ _ _ _ _ _ (hc _ _ _) h)
    · exact h.elim
  · unfold s_min at h ⊢; split at h
    · split at h <;> first | exact h.elim | exact ⟨h.1, hP _ _ _ _ h.2⟩ | (rename_i e2; simp only [if_pos e2]; exact ⟨h.1, hP _ _ _ _ h.2⟩)
    · exact h.elim
  · unfold s_max at h ⊢; split at h
    · split at h <;> first | exact h.elim | exact ⟨h.1, hP _ _ _ _ h.2⟩ | (rename_i e2; simp only [if_pos e2]; exact ⟨h.1, hP _ _ _ _ h.2⟩)
    · exact h.elim
  · unfold s_abs at h ⊢; split at h
    · split at h <;> first | exact h.elim | exact ⟨h.1, hP _ _ _ _ h.2⟩ | (rename_i e2; simp only [if_pos e2]; exact ⟨h.1, hP _ _ _ _ h.2⟩)
    · exact h.elim
  · unfold s_ret at h ⊢; split at h <;> first | exact h.elim | exact hQ _ _ h
  · unfold s_retZ at h ⊢; split at h <;> first | exact h.elim | exact ⟨h.1, hQ _ _ h.2⟩
  · unfold s_retA at h ⊢; split at h <;> first | exact h.elim | exact hQ _ _ h
  · unfold s_retV at h ⊢; split at h <;> first | exact h.elim | exact hQ _ _ h
  · unfold s_shr at h ⊢; split at h <;> first | exact h.elim | exact ⟨h.1, hP _ _ _ _ h.2⟩
  · unfold s_and at h ⊢; split at h <;> first | exact h.elim | exact ⟨h.1, hP _ _ _ _ h.2⟩
  · unfold s_scrLen at h ⊢; split at h <;> first | exact h.elim | exact hP _ _ _ _ h
  · unfold s_scr at h ⊢; split at h <;> first | exact h.elim | exact ⟨h.1, fun q => hP _ _ _ _ (h.2 q)⟩
  · exact h.elim
theorem wpm_mono (Γ : Gam) (hΓ : gmono Γ) : gmono (wpm Γ) := fun y as σ Q Q' hQ h P hP => h P fun pc ls st σ q => hP pc ls st σ (stp_mono hΓ hQ (fun _ _ _ _ q => q) q)
theorem WPd_mono : ∀ d, gmono (WPd d)
  | 0 => fun _ _ _ _ _ _ h => h
  | d + 1 => wpm_mono _ (WPd_mono d)
def inL : List Nat → Nat → Bool
  | [], _ => false
  | a :: t, n => bif Nat.beq a n then true else inL t n
/-- the twin's run as a predicate, n steps far, up to the cuts -/
def runs (Γ : Gam) (Q : Post) (P : Ctx) (t : List (Nat × List (Nat × AMI))) (cuts : List Nat) : Nat → Ctx
  | 0 => P
  | n + 1 => fun pc ls st σ => match inL cuts pc with
    | true => P pc ls st σ
    | false => stp Γ Q (runs Γ Q P t cuts n) ls st σ (lk2 t pc)
theorem runs_to {Γ : Gam} {Q : Post} {P : Ctx} {t : List (Nat × List (Nat × AMI))} {cuts : List Nat} (hΓ : gmono Γ) (hP : ∀ pc ls st σ, stp Γ Q P ls st σ (lk2 t pc) → P pc ls st σ) : ∀ (n pc : Nat) (ls st : List AV) (σ : Sto), runs Γ Q P t cuts n pc ls st σ → P pc ls st σ
  | 0, _, _, _, _, h => h
  | n + 1, pc, ls, st, σ, h => by
    unfold runs at h
    split at h
    · exact h
    · exact hP pc ls st σ (stp_mono hΓ (fun _ _ q => q) (runs_to hΓ hP n) h)
/-- from a place on: the run, n steps far -/
theorem go {Γ : Gam} {Q : Post} {P : Ctx} {t : List (Nat × List (Nat × AMI))} (hΓ : gmono Γ) (hP : ∀ pc ls st σ, stp Γ Q P ls st σ (lk2 t pc) → P pc ls st σ) (n : Nat) (cuts : List Nat) {pc : Nat} {ls st : List AV} {σ : Sto} (h : stp Γ Q (runs Γ Q P t cuts n) ls st σ (lk2 t pc)) : P pc ls st σ := hP pc ls st σ (stp_mono hΓ (fun _ _ q => q) (runs_to hΓ hP n) h)
