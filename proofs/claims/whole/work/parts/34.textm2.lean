/-! THE TEXT: the model's commands -/
def layH (tl : Int) (tx : Int → Int) (k q : Int) (D : KV) : Option (KV × Int) :=
  if (1 ≤ (numF tl tx 3 (-1) q).1 ∧ (numF tl tx 3 (-1) q).1 ≤ 99) ∧ D 7 0 < 50 then some (insK D (D 7 0) (numF tl tx 3 (-1) q).1 k 0, (numF tl tx 3 (-1) q).2) else none
def gapH (tl : Int) (tx : Int → Int) (q : Int) (D : KV) : Option (KV × Int) :=
  if (0 ≤ (numF tl tx 3 (-1) q).1 ∧ (numF tl tx 3 (-1) q).1 ≤ 20) ∧ D 7 0 ≠ 0 then some (setLK D (D 7 0 - 1) 2 (numF tl tx 3 (-1) q).1, (numF tl tx 3 (-1) q).2) else none
def ashK (tl : Int) (tx : Int → Int) (r s : Int × Int) (D : KV) : Option (KV × Int) :=
  if (0 ≤ r.1 ∧ r.1 ≤ 500) ∧ sg tl tx r.2 = 32 ∧ (0 ≤ s.1 ∧ s.1 ≤ 9) ∧ D 7 0 ≠ 0 ∧ D 7 1 < 6 ∧ axK D (D 7 0) = -1 then some (insAK D (nxK D (D 7 0)) (D 7 0) r.1 s.1, s.2) else none
def ashH (tl : Int) (tx : Int → Int) (q : Int) (D : KV) : Option (KV × Int) := ashK tl tx (numF tl tx 3 (-1) q) (numF tl tx 3 (-1) ((numF tl tx 3 (-1) q).2 + 1)) D
def cmdH (tl : Int) (tx : Int → Int) (p : Int) (D : KV) : Option (KV × Int) :=
  if wdB tl tx (txtL 0) p = true then layH tl tx 0 (p + 6) D
  else if wdB tl tx (txtL 1) p = true then layH tl tx 1 (p + 6) D
  else if wdB tl tx (txtL 2) p = true then layH tl tx 2 (p + 6) D
  else if wdB tl tx (txtL 3) p = true then gapH tl tx (p + 4) D
  else if wdB tl tx (txtL 4) p = true then ashH tl tx (p + 4) D else none
def semi (tl : Int) (tx : Int → Int) (o : Option (KV × Int)) : Option (KV × Int) := match o with
  | none => none
  | some v => if sg tl tx v.2 = 59 then some (v.1, v.2 + 1) else none
theorem cmdH_F {tl : Int} {tx : Int → Int} {p : Int} {D : KV} : cmdF tl tx p D = semi tl tx (cmdH tl tx p D) := by
  have hl : ∀ k q, layF tl tx k q D = semi tl tx (layH tl tx k q D) := fun k q => by
    unfold layF layH
    by_cases a : (1 ≤ (numF tl tx 3 (-1) q).1 ∧ (numF tl tx 3 (-1) q).1 ≤ 99) ∧ D 7 0 < 50
    · rw [if_pos a]
      by_cases b : sg tl tx (numF tl tx 3 (-1) q).2 = 59
      · rw [if_pos ⟨a.1, a.2, b⟩]
        exact (if_pos b).symm
      · rw [if_neg (fun e => b e.2.2)]
        exact (if_neg b).symm
    · rw [if_neg a, if_neg (fun e => a ⟨e.1, e.2.1⟩)]
      rfl
  have hg : ∀ q, gapF tl tx q D = semi tl tx (gapH tl tx q D) := fun q => by
    unfold gapF gapH
    by_cases a : (0 ≤ (numF tl tx 3 (-1) q).1 ∧ (numF tl tx 3 (-1) q).1 ≤ 20) ∧ D 7 0 ≠ 0
    · rw [if_pos a]
      by_cases b : sg tl tx (numF tl tx 3 (-1) q).2 = 59
      · rw [if_pos ⟨a.1, a.2, b⟩]
        exact (if_pos b).symm
      · rw [if_neg (fun e => b e.2.2)]
        exact (if_neg b).symm
    · rw [if_neg a, if_neg (fun e => a ⟨e.1, e.2.1⟩)]
      rfl
  have ha : ∀ q, ashF tl tx q D = semi tl tx (ashH tl tx q D) := fun q => by
    unfold ashF ashH ashG ashK
    generalize numF tl tx 3 (-1) ((numF tl tx 3 (-1) q).2 + 1) = s
    generalize numF tl tx 3 (-1) q = r
    by_cases a : (0 ≤ r.1 ∧ r.1 ≤ 500) ∧ sg tl tx r.2 = 32 ∧ (0 ≤ s.1 ∧ s.1 ≤ 9) ∧ D 7 0 ≠ 0 ∧ D 7 1 < 6 ∧ axK D (D 7 0) = -1
    · rw [if_pos a]
      by_cases b : sg tl tx s.2 = 59
      · rw [if_pos ⟨a.1, a.2.1, a.2.2.1, b, a.2.2.2⟩]
        exact (if_pos b).symm
      · rw [if_neg (fun e => b e.2.2.2.1)]
        exact (if_neg b).symm
    · rw [if_neg a, if_neg (fun e => a ⟨e.1, e.2.1, e.2.2.1, e.2.2.2.2⟩)]
      rfl
  unfold cmdF cmdH
  rw [hl, hl, hl, hg, ha]
  (repeat' split) <;> rfl
def rdM (o : Option (KV × Int)) (σ : Sto) (Q : Post) : Prop := (∀ D' p', o = some (D', p') → ∀ σ', strip (vwM (σ' 30 0)) = D' → σ' 26 0 5 = p' → offM σ σ' → Q (some (.inl 1)) σ') ∧ (o = none → ∀ σ', offM σ σ' → Q (some (.inl 0)) σ')
theorem rdM.mv {o : Option (KV × Int)} {σ τ : Sto} {Q : Post} (h : rdM o σ Q) (fo : offM σ τ) : rdM o τ Q := ⟨fun D' p' e σ' a b c => h.1 D' p' e σ' a b (fo.tr c), fun e σ' c => h.2 e σ' (fo.tr c)⟩
theorem am_f (σ : Sto) (v : Int) : ∃ τ, upS σ 26 0 5 v = τ ∧ τ 30 0 = σ 30 0 ∧ offM σ τ ∧ τ 26 0 5 = v := ⟨_, rfl, up_k (by decide), offM.at, up_hit⟩
theorem t_X5_readsLayer {d : Nat} (hd : 3 ≤ d) {σ : Sto} {Q : Post} {tl : Int} {tx : Int → Int} {q k : Int} {D : KV} (hk : 0 ≤ k ∧ k ≤ 2) (ht : TxtM σ tl tx) (hs : strip (vwM (σ 30 0)) = D) (hw : WFK D) (hq : σ 26 0 5 = q) (h0 : 0 ≤ q ∧ q ≤ tl) (hr : rdM (layH tl tx k q D) σ Q) : WPd d m_X5_readsLayer [.inr (26, 0), .inl k] σ Q := by
  obtain ⟨d, rfl⟩ : ∃ k, d = k + 1 := ⟨d - 1, by omega⟩
  intro P hP
  subst hs
  have hn : 0 ≤ σ 30 0 0 ∧ σ 30 0 0 ≤ 50 := hw.1
  have hm : 0 ≤ σ 30 0 151 ∧ σ 30 0 151 ≤ 6 := hw.2.1
  have b := numF_b (tl := tl) (tx := tx) 3 (-1) q h0.1 h0.2 (by omega)
  have bt := numF_t (tl := tl) (tx := tx) q
  obtain ⟨hr1, hr0⟩ := hr
  unfold layH at hr1 hr0
  rw [show strip (vwM (σ 30 0)) 7 0 = σ 30 0 0 from rfl] at hr1 hr0
  (refine go (t := tb_X5_readsLayer) (WPd_mono d) hP 60 [] ?_; (conv => whnf); (repeat' (first | (refine ⟨fun _ => ?_, fun _ => ?_⟩ <;> first | (exfalso; omega) | (conv => whnf)) | (refine ⟨by omega, ?_⟩; conv => whnf) | (intro _; conv => whnf))))
  refine t_X5_number (by omega) (by omega) (by omega) ht hq h0 ?_
  obtain ⟨τ, eτ, f30, fo, f5⟩ := am_f σ (numF tl tx 3 (-1) q).2
  rw [eτ]
  have g0 : τ 30 0 0 = σ 30 0 0 := by rw [f30]
  split
  · rename_i q1
    ((conv => whnf); (repeat' (first | (refine ⟨fun _ => ?_, fun _ => ?_⟩ <;> first | (exfalso; omega) | (conv => whnf)) | (refine ⟨by omega, ?_⟩; conv => whnf) | (intro _; conv => whnf))))
    all_goals trace_state
    all_goals sorry
  · rename_i q1
    ((conv => whnf); (repeat' (first | (refine ⟨fun _ => ?_, fun _ => ?_⟩ <;> first | (exfalso; omega) | (conv => whnf)) | (refine ⟨by omega, ?_⟩; conv => whnf) | (intro _; conv => whnf))))
    all_goals trace_state
    all_goals sorry
