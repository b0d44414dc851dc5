/-! THE TEXT: the model's commands -/
def layH (tl : Int) (tx : Int → Int) (k q : Int) (D : KV) : Option (KV × Int) :=
  if (1 ≤ (numF tl tx 3 (-1) q).1 ∧ (numF tl tx 3 (-1) q).1 ≤ 99) ∧ D 7 0 < 50 then some (insK D (D 7 0) (numF tl tx 3 (-1) q).1 k 0, (numF tl tx 3 (-1) q).2) else none
def gapH (tl : Int) (tx : Int → Int) (q : Int) (D : KV) : Option (KV × Int) :=
  if (0 ≤ (numF tl tx 3 (-1) q).1 ∧ (numF tl tx 3 (-1) q).1 ≤ 20) ∧ D 7 0 ≠ 0 then some (setLK D (D 7 0 - 1) 2 (numF tl tx 3 (-1) q).1, (numF tl tx 3 (-1) q).2) else none
def ashK (tl : Int) (tx : Int → Int) (r s : Int × Int) (D : KV) : Option (KV × Int) :=
  if (0 ≤ r.1 ∧ r.1 ≤ 500) ∧ sg tl tx r.2 = 32 ∧ (0 ≤ s.1 ∧ s.1 ≤ 9) ∧ D 7 0 ≠ 0 ∧ D 7 1 < 6 ∧ axK D (D 7 0) = -1 then some (insAK D (nxK D (D 7 0)) (D 7 0) r.1 s.1, s.2) else none
def ashH (tl : Int) (tx : Int → Int) (q : Int) (D : KV) : Option (KV × Int) := ashK tl tx (numF tl tx 3 (-1) q) (numF tl tx 3 (-1) ((numF tl tx 3 (-1) q).2 + 1)) D
def cmdH (tl : Int) (tx : Int → Int) (p : Int) (D : KV) : Option (KV × Int) :=
  if wdB tl tx (txtL 0) p = true then layH tl tx 0 (p + 6) D
  else if wdB tl tx (txtL 1) p = true then layH tl tx 1 (p + 6) D
  else if wdB tl tx (txtL 2) p = true then layH tl tx 2 (p + 6) D
  else if wdB tl tx (txtL 3) p = true then gapH tl tx (p + 4) D
  else if wdB tl tx (txtL 4) p = true then ashH tl tx (p + 4) D else none
def semi (tl : Int) (tx : Int → Int) (o : Option (KV × Int)) : Option (KV × Int) := match o with
  | none => none
  | some v => if sg tl tx v.2 = 59 then some (v.1, v.2 + 1) else none
theorem cmdH_F {tl : Int} {tx : Int → Int} {p : Int} {D : KV} : cmdF tl tx p D = semi tl tx (cmdH tl tx p D) := by
  have hl : ∀ k q, layF tl tx k q D = semi tl tx (layH tl tx k q D) := fun k q => by
    unfold layF layH
    by_cases a : (1 ≤ (numF tl tx 3 (-1) q).1 ∧ (numF tl tx 3 (-1) q).1 ≤ 99) ∧ D 7 0 < 50
    · rw [if_pos a]
      by_cases b : sg tl tx (numF tl tx 3 (-1) q).2 = 59
      · rw [if_pos ⟨a.1, a.2, b⟩]
        exact (if_pos b).symm
      · rw [if_neg (fun e => b e.2.2)]
        exact (if_neg b).symm
    · rw [if_neg a, if_neg (fun e => a ⟨e.1, e.2.1⟩)]
      rfl
  have hg : ∀ q, gapF tl tx q D = semi tl tx (gapH tl tx q D) := fun q => by
    unfold gapF gapH
    by_cases a : (0 ≤ (numF tl tx 3 (-1) q).1 ∧ (numF tl tx 3 (-1) q).1 ≤ 20) ∧ D 7 0 ≠ 0
    · rw [if_pos a]
      by_cases b : sg tl tx (numF tl tx 3 (-1) q).2 = 59
      · rw [if_pos ⟨a.1, a.2, b⟩]
        exact (if_pos b).symm
      · rw [if_neg (fun e => b e.2.2)]
        exact (if_neg b).symm
    · rw [if_neg a, if_neg (fun e => a ⟨e.1, e.2.1⟩)]
      rfl
  have ha : ∀ q, ashF tl tx q D = semi tl tx (ashH tl tx q D) := fun q => by
    unfold ashF ashH ashG ashK
    generalize numF tl tx 3 (-1) ((numF tl tx 3 (-1) q).2 + 1) = s
    generalize numF tl tx 3 (-1) q = r
    by_cases a : (0 ≤ r.1 ∧ r.1 ≤ 500) ∧ sg tl tx r.2 = 32 ∧ (0 ≤ s.1 ∧ s.1 ≤ 9) ∧ D 7 0 ≠ 0 ∧ D 7 1 < 6 ∧ axK D (D 7 0) = -1
    · rw [if_pos a]
      by_cases b : sg tl tx s.2 = 59
      · rw [if_pos ⟨a.1, a.2.1, a.2.2.1, b, a.2.2.2⟩]
        exact (if_pos b).symm
      · rw [if_neg (fun e => b e.2.2.2.1)]
        exact (if_neg b).symm
    · rw [if_neg a, if_neg (fun e => a ⟨e.1, e.2.1, e.2.2.1, e.2.2.2.2⟩)]
      rfl
  unfold cmdF cmdH
  rw [hl, hl, hl, hg, ha]
  (repeat' split) <;> rfl
def rdM (o : Option (KV × Int)) (σ : Sto) (Q : Post) : Prop := (∀ D' p', o = some (D', p') → ∀ σ', strip (vwM (σ' 30 0)) = D' → σ' 26 0 5 = p' → offM σ σ' → Q (some (.inl 1)) σ') ∧ (o = none → ∀ σ', offM σ σ' → Q (some (.inl 0)) σ')
theorem rdM.mv {o : Option (KV × Int)} {σ τ : Sto} {Q : Post} (h : rdM o σ Q) (fo : offM σ τ) : rdM o τ Q := ⟨fun D' p' e σ' a b c => h.1 D' p' e σ' a b (fo.tr c), fun e σ' c => h.2 e σ' (fo.tr c)⟩
theorem am_f (σ : Sto) (v : Int) : ∃ τ, upS σ 26 0 5 v = τ ∧ τ 30 0 = σ 30 0 ∧ offM σ τ ∧ τ 26 0 5 = v := ⟨_, rfl, up_k (by decide), offM.at, up_hit⟩
theorem offM.drf {τ : Sto} {g : Int → Int} : offM τ (setR τ 30 0 g) := ⟨fun _ _ _ b => setR_nk b, fun _ _ => by rw [setR_nk (by decide)]⟩
theorem vm_place {f : Int → Int} (hw : WFK (strip (vwM f))) {j : Int} (h0 : 0 ≤ j) (h1 : j < f 151) : 1 ≤ f (152 + j) ∧ f (152 + j) ≤ f 0 := by
  have a := (hw.2.2.2.1 j h0 h1).1
  rw [show strip (vwM f) 3 j = f (152 + j) from (vm_in.2.1 h0 h1).1] at a
  exact a
theorem vm_push {f g : Int → Int} {t k : Int} (hw : WFK (strip (vwM f))) (h0 : f 0 < 50) (e : ∀ j, g j = if j = 0 then f 0 + 1 else if j = 1 + f 0 then t else if j = 51 + f 0 then k else if j = 101 + f 0 then 0 else f j) : vwM g = insK (vwM f) (f 0) t k 0 := by
  have hn : 0 ≤ f 0 ∧ f 0 ≤ 50 := hw.1
  have hm : 0 ≤ f 151 ∧ f 151 ≤ 6 := hw.2.1
  rw [vm_mk (n := f 0 + 1) (a := f 151) (f0 := insF (fun j => f (1 + j)) (f 0) (f 0) t) (f1 := insF (fun j => f (51 + j)) (f 0) (f 0) k) (f2 := insF (fun j => f (101 + j)) (f 0) (f 0) 0) (f3 := fun j => if 0 ≤ j ∧ j < f 151 ∧ f 0 < f (152 + j) then f (152 + j) + 1 else f (152 + j)) (f4 := fun j => f (158 + j)) (f5 := fun j => f (164 + j)) (f6 := fun j => f (170 + j)) ?_ ?_ (fun j j0 j1 => ?_) (fun j j0 j1 => ?_) (fun j j0 j1 => ?_)]
  · exact insK_mk (f3 := fun j => f (152 + j)) hn.1 (Int.le_refl _)
  · rw [e]
    ((repeat' split) <;> first | rfl | (exfalso; omega) | (congr 1; omega) | omega)
  · rw [e]
    ((repeat' split) <;> first | rfl | (exfalso; omega) | (congr 1; omega) | omega)
  · simp only [insF, e]
    refine ⟨?_, ?_, ?_⟩ <;> ((repeat' split) <;> first | rfl | (exfalso; omega) | (congr 1; omega) | omega)
  · have := vm_place hw j0 j1
    simp only [e]
    refine ⟨?_, ?_, ?_⟩ <;> ((repeat' split) <;> first | rfl | (exfalso; omega) | (congr 1; omega) | omega)
  · simp only [e]
    ((repeat' split) <;> first | rfl | (exfalso; omega) | (congr 1; omega) | omega)
theorem vm_pushA {f g : Int → Int} {p t u : Int} (hw : WFK (strip (vwM f))) (h0 : f 151 < 6) (e : ∀ j, g j = if j = 151 then f 151 + 1 else if j = 164 + f 151 then u else if j = 158 + f 151 then t else if j = 152 + f 151 then p else f j) : vwM g = insAK (vwM f) (f 151) p t u := by
  have hn : 0 ≤ f 0 ∧ f 0 ≤ 50 := hw.1
  have hm : 0 ≤ f 151 ∧ f 151 ≤ 6 := hw.2.1
  rw [vm_mk (n := f 0) (a := f 151 + 1) (f0 := fun j => f (1 + j)) (f1 := fun j => f (51 + j)) (f2 := fun j => f (101 + j)) (f3 := insF (fun j => f (152 + j)) (f 151) (f 151) p) (f4 := insF (fun j => f (158 + j)) (f 151) (f 151) t) (f5 := insF (fun j => f (164 + j)) (f 151) (f 151) u) (f6 := fun j => f (170 + j)) ?_ ?_ (fun j j0 j1 => ?_) (fun j j0 j1 => ?_) (fun j j0 j1 => ?_)]
  · exact insAK_mk hm.1 (Int.le_refl _)
  · rw [e]
    ((repeat' split) <;> first | rfl | (exfalso; omega) | (congr 1; omega) | omega)
  · rw [e]
    ((repeat' split) <;> first | rfl | (exfalso; omega) | (congr 1; omega) | omega)
  · simp only [e]
    refine ⟨?_, ?_, ?_⟩ <;> ((repeat' split) <;> first | rfl | (exfalso; omega) | (congr 1; omega) | omega)
  · simp only [insF, e]
    refine ⟨?_, ?_, ?_⟩ <;> ((repeat' split) <;> first | rfl | (exfalso; omega) | (congr 1; omega) | omega)
  · simp only [e]
    ((repeat' split) <;> first | rfl | (exfalso; omega) | (congr 1; omega) | omega)
theorem t_X5_readsLayer {d : Nat} (hd : 3 ≤ d) {σ : Sto} {Q : Post} {tl : Int} {tx : Int → Int} {q k : Int} {D : KV} (hk : 0 ≤ k ∧ k ≤ 2) (ht : TxtM σ tl tx) (hs : strip (vwM (σ 30 0)) = D) (hw : WFK D) (hq : σ 26 0 5 = q) (h0 : 0 ≤ q ∧ q ≤ tl) (hr : rdM (layH tl tx k q D) σ Q) : WPd d m_X5_readsLayer [.inr (26, 0), .inl k] σ Q := by
  obtain ⟨d, rfl⟩ : ∃ k, d = k + 1 := ⟨d - 1, by omega⟩
  intro P hP
  subst hs
  have hn : 0 ≤ σ 30 0 0 ∧ σ 30 0 0 ≤ 50 := hw.1
  have hm : 0 ≤ σ 30 0 151 ∧ σ 30 0 151 ≤ 6 := hw.2.1
  have b := numF_b (tl := tl) (tx := tx) 3 (-1) q h0.1 h0.2 (by omega)
  have bt := numF_t (tl := tl) (tx := tx) q
  obtain ⟨hr1, hr0⟩ := hr
  unfold layH at hr1 hr0
  rw [show strip (vwM (σ 30 0)) 7 0 = σ 30 0 0 from rfl] at hr1 hr0
  (refine go (t := tb_X5_readsLayer) (WPd_mono d) hP 60 [] ?_; (conv => whnf); (repeat' (first | (refine ⟨fun _ => ?_, fun _ => ?_⟩ <;> first | (exfalso; omega) | (conv => whnf)) | (refine ⟨by omega, ?_⟩; conv => whnf) | (intro _; conv => whnf))))
  refine t_X5_number (by omega) (by omega) (by omega) ht hq h0 ?_
  obtain ⟨τ, eτ, f30, fo, f5⟩ := am_f σ (numF tl tx 3 (-1) q).2
  rw [eτ]
  have g0 : τ 30 0 0 = σ 30 0 0 := by rw [f30]
  by_cases q1 : 1 ≤ (numF tl tx 3 (-1) q).1 ∧ (numF tl tx 3 (-1) q).1 ≤ 99
  · rw [if_pos q1]
    ((conv => whnf); (repeat' (first | (refine ⟨fun _ => ?_, fun _ => ?_⟩ <;> first | (exfalso; omega) | (conv => whnf)) | (refine ⟨by omega, ?_⟩; conv => whnf) | (intro _; conv => whnf))))
    · ((repeat ((try simp only [setR_same, setR_nk, upS_setR, cpS_setR, setR_setR, ne_eq, Nat.reduceEqDiff, not_false_eq_true, Int.reduceEq, ↓reduceIte]); refine ⟨by omega, ?_⟩; ((conv => whnf); (repeat' (first | (refine ⟨fun _ => ?_, fun _ => ?_⟩ <;> first | (exfalso; omega) | (conv => whnf)) | (refine ⟨by omega, ?_⟩; conv => whnf) | (intro _; conv => whnf)))))); (try simp only [setR_same, setR_nk, upS_setR, cpS_setR, setR_setR, ne_eq, Nat.reduceEqDiff, not_false_eq_true, Int.reduceEq, ↓reduceIte]))
      refine hr1 _ _ (if_pos ⟨q1, by omega⟩) _ ?_ (by rw [setR_nk (by decide), f5]) (fo.tr offM.drf)
      rw [setR_same, vm_push (f := σ 30 0) (t := (numF tl tx 3 (-1) q).1) (k := k) hw (by omega) (fun j => ?_), strip_ins]
      rw [f30]
      ((repeat' split) <;> first | rfl | (exfalso; omega) | (congr 1; omega) | omega)
    · exact hr0 (if_neg (fun e => by omega)) τ fo
  · rw [if_neg q1]
    ((conv => whnf); (repeat' (first | (refine ⟨fun _ => ?_, fun _ => ?_⟩ <;> first | (exfalso; omega) | (conv => whnf)) | (refine ⟨by omega, ?_⟩; conv => whnf) | (intro _; conv => whnf))))
    exact hr0 (if_neg (fun e => q1 e.1)) τ fo
theorem t_X5_readsGap {d : Nat} (hd : 3 ≤ d) {σ : Sto} {Q : Post} {tl : Int} {tx : Int → Int} {q : Int} {D : KV} (ht : TxtM σ tl tx) (hs : strip (vwM (σ 30 0)) = D) (hw : WFK D) (hq : σ 26 0 5 = q) (h0 : 0 ≤ q ∧ q ≤ tl) (hr : rdM (gapH tl tx q D) σ Q) : WPd d m_X5_readsGap [.inr (26, 0)] σ Q := by
  obtain ⟨d, rfl⟩ : ∃ k, d = k + 1 := ⟨d - 1, by omega⟩
  intro P hP
  subst hs
  have hn : 0 ≤ σ 30 0 0 ∧ σ 30 0 0 ≤ 50 := hw.1
  have b := numF_b (tl := tl) (tx := tx) 3 (-1) q h0.1 h0.2 (by omega)
  have bt := numF_t (tl := tl) (tx := tx) q
  obtain ⟨hr1, hr0⟩ := hr
  unfold gapH at hr1 hr0
  rw [show strip (vwM (σ 30 0)) 7 0 = σ 30 0 0 from rfl] at hr1 hr0
  (refine go (t := tb_X5_readsGap) (WPd_mono d) hP 60 [] ?_; (conv => whnf); (repeat' (first | (refine ⟨fun _ => ?_, fun _ => ?_⟩ <;> first | (exfalso; omega) | (conv => whnf)) | (refine ⟨by omega, ?_⟩; conv => whnf) | (intro _; conv => whnf))))
  refine t_X5_number (by omega) (by omega) (by omega) ht hq h0 ?_
  obtain ⟨τ, eτ, f30, fo, f5⟩ := am_f σ (numF tl tx 3 (-1) q).2
  rw [eτ]
  have g0 : τ 30 0 0 = σ 30 0 0 := by rw [f30]
  by_cases q1 : 0 ≤ (numF tl tx 3 (-1) q).1 ∧ (numF tl tx 3 (-1) q).1 ≤ 20
  · rw [if_pos q1]
    ((conv => whnf); (repeat' (first | (refine ⟨fun _ => ?_, fun _ => ?_⟩ <;> first | (exfalso; omega) | (conv => whnf)) | (refine ⟨by omega, ?_⟩; conv => whnf) | (intro _; conv => whnf))))
    · refine hr1 _ _ (if_pos ⟨q1, by omega⟩) _ ?_ (by rw [up_k (by decide), f5]) (fo.tr ⟨fun _ _ _ b => up_k b, fun _ _ => by rw [up_k (by decide)]⟩)
      rw [upS_setR, setR_same, f30, show 101 + σ 30 0 0 - 1 = 1 + 50 * 2 + (σ 30 0 0 - 1) by omega, set_vm (by omega) (by omega) hn.2, strip_set2]
    · exact hr0 (if_neg (fun e => by omega)) τ fo
  · rw [if_neg q1]
    ((conv => whnf); (repeat' (first | (refine ⟨fun _ => ?_, fun _ => ?_⟩ <;> first | (exfalso; omega) | (conv => whnf)) | (refine ⟨by omega, ?_⟩; conv => whnf) | (intro _; conv => whnf))))
    exact hr0 (if_neg (fun e => q1 e.1)) τ fo
theorem t_X5_readsAsh {d : Nat} (hd : 3 ≤ d) {σ : Sto} {Q : Post} {tl : Int} {tx : Int → Int} {q : Int} {D : KV} (ht : TxtM σ tl tx) (hs : strip (vwM (σ 30 0)) = D) (hw : WFK D) (hq : σ 26 0 5 = q) (h0 : 0 ≤ q ∧ q ≤ tl) (hr : rdM (ashH tl tx q D) σ Q) : WPd d m_X5_readsAsh [.inr (26, 0)] σ Q := by
  obtain ⟨d, rfl⟩ : ∃ k, d = k + 1 := ⟨d - 1, by omega⟩
  intro P hP
  subst hs
  have ht2 := ht.2.1
  have hn : 0 ≤ σ 30 0 0 ∧ σ 30 0 0 ≤ 50 := hw.1
  have hm : 0 ≤ σ 30 0 151 ∧ σ 30 0 151 ≤ 6 := hw.2.1
  have b := numF_b (tl := tl) (tx := tx) 3 (-1) q h0.1 h0.2 (by omega)
  have bt := numF_t (tl := tl) (tx := tx) q
  have bx := axK_of (vwM (σ 30 0)) (σ 30 0 0) hm.1
  rw [vm_a] at bx
  have hcut := nxK_cut hw (σ 30 0 0)
  have hinc := hw.2.2.2.2.1
  rw [show strip (vwM (σ 30 0)) 7 1 = σ 30 0 151 from rfl, show strip (vwM (σ 30 0)) 3 = vwM (σ 30 0) 3 from rfl] at hinc hcut
  rw [show nxK (strip (vwM (σ 30 0))) (σ 30 0 0) = nxK (vwM (σ 30 0)) (σ 30 0 0) from rfl] at hcut
  obtain ⟨hr1, hr0⟩ := hr
  unfold ashH ashK at hr1 hr0
  rw [show strip (vwM (σ 30 0)) 7 0 = σ 30 0 0 from rfl, show strip (vwM (σ 30 0)) 7 1 = σ 30 0 151 from rfl, show axK (strip (vwM (σ 30 0))) (σ 30 0 0) = axK (vwM (σ 30 0)) (σ 30 0 0) from rfl, show nxK (strip (vwM (σ 30 0))) (σ 30 0 0) = nxK (vwM (σ 30 0)) (σ 30 0 0) from rfl] at hr1 hr0
  have pin : ∀ j, 0 ≤ j → j < σ 30 0 151 → vwM (σ 30 0) 3 j = σ 30 0 (152 + j) := fun j j0 j1 => (vm_in.2.1 j0 j1).1
  have hlast : 0 < σ 30 0 151 → σ 30 0 (152 + (σ 30 0 151 - 1)) = σ 30 0 0 → axK (vwM (σ 30 0)) (σ 30 0 0) ≠ -1 := fun a1 a2 a3 => by
    rcases bx with c | c
    · exact c.2 (σ 30 0 151 - 1) (by omega) (by omega) (by rw [pin _ (by omega) (by omega)]; exact a2)
    · omega
  have hnone : ¬ (0 < σ 30 0 151 ∧ σ 30 0 (152 + (σ 30 0 151 - 1)) = σ 30 0 0) → axK (vwM (σ 30 0)) (σ 30 0 0) = -1 ∧ nxK (vwM (σ 30 0)) (σ 30 0 0) = σ 30 0 151 := fun a => by
    have key : ∀ j, 0 ≤ j → j < σ 30 0 151 → vwM (σ 30 0) 3 j < σ 30 0 0 := fun j j0 j1 => by
      have p1 := (vm_place hw (show 0 ≤ σ 30 0 151 - 1 by omega) (by omega)).2
      have p2 := pin (σ 30 0 151 - 1) (by omega) (by omega)
      by_cases e : j = σ 30 0 151 - 1
      · subst e
        omega
      · have := hinc j (σ 30 0 151 - 1) j0 (by omega) (by omega)
        omega
    constructor
    · rcases bx with c | c
      · exact c.1
      · have := key _ c.1 c.2.1
        omega
    · by_cases e : nxK (vwM (σ 30 0)) (σ 30 0 0) < σ 30 0 151
      · have a1 := hcut.2.2 _ (Int.le_refl _) e
        have a2 := key _ hcut.1.1 e
        omega
      · omega
  (refine go (t := tb_X5_readsAsh) (WPd_mono d) hP 90 [] ?_; (conv => whnf); (repeat' (first | (refine ⟨fun _ => ?_, fun _ => ?_⟩ <;> first | (exfalso; omega) | (conv => whnf)) | (refine ⟨by omega, ?_⟩; conv => whnf) | (intro _; conv => whnf))))
  refine t_X5_number (by omega) (by omega) (by omega) ht hq h0 ?_
  obtain ⟨τ, eτ, f30, fo, f5⟩ := am_f σ (numF tl tx 3 (-1) q).2
  rw [eτ]
  ((conv => whnf); (repeat' (first | (refine ⟨fun _ => ?_, fun _ => ?_⟩ <;> first | (exfalso; omega) | (conv => whnf)) | (refine ⟨by omega, ?_⟩; conv => whnf) | (intro _; conv => whnf))))
  refine t_X5_passes (by omega) (by omega) (fo.txt ht) f5 (by omega) (fun c1 => ?_) (fun c1 => ?_)
  · have hlt : (numF tl tx 3 (-1) q).2 < tl := sg_in c1 (by omega)
    have b2 := numF_b (tl := tl) (tx := tx) 3 (-1) ((numF tl tx 3 (-1) q).2 + 1) (by omega) (by omega) (by omega)
    have bt2 := numF_t (tl := tl) (tx := tx) ((numF tl tx 3 (-1) q).2 + 1)
    obtain ⟨ρ, eρ, h30, ho, h5⟩ := am_f τ ((numF tl tx 3 (-1) q).2 + 1)
    rw [eρ]
    ((conv => whnf); (repeat' (first | (refine ⟨fun _ => ?_, fun _ => ?_⟩ <;> first | (exfalso; omega) | (conv => whnf)) | (refine ⟨by omega, ?_⟩; conv => whnf) | (intro _; conv => whnf))))
    refine t_X5_number (by omega) (by omega) (by omega) (ho.txt (fo.txt ht)) h5 (by omega) ?_
    obtain ⟨υ, eυ, i30, io, i5⟩ := am_f ρ (numF tl tx 3 (-1) ((numF tl tx 3 (-1) q).2 + 1)).2
    have fu := (fo.tr ho).tr io
    rw [eυ]
    have g30 : υ 30 0 = σ 30 0 := by rw [i30, h30, f30]
    have g0 : υ 30 0 0 = σ 30 0 0 := by rw [g30]
    have g1 : υ 30 0 151 = σ 30 0 151 := by rw [g30]
    have gp : υ 30 0 (152 + υ 30 0 151 - 1) = σ 30 0 (152 + (σ 30 0 151 - 1)) := by
      rw [g30]
      congr 1
      omega
    by_cases q1 : 0 ≤ (numF tl tx 3 (-1) q).1 ∧ (numF tl tx 3 (-1) q).1 ≤ 500
    · rw [if_pos q1]
      by_cases q2 : 0 ≤ (numF tl tx 3 (-1) ((numF tl tx 3 (-1) q).2 + 1)).1 ∧ (numF tl tx 3 (-1) ((numF tl tx 3 (-1) q).2 + 1)).1 ≤ 9
      · rw [if_pos q2]
        ((conv => whnf); (repeat' (first | (refine ⟨fun _ => ?_, fun _ => ?_⟩ <;> first | (exfalso; omega) | (conv => whnf)) | (refine ⟨by omega, ?_⟩; conv => whnf) | (intro _; conv => whnf))))
        · exact hr0 (if_neg (fun e => by omega)) υ fu
        · exact hr0 (if_neg (fun e => by omega)) υ fu
        · ((repeat ((try simp only [setR_same, setR_nk, upS_setR, cpS_setR, setR_setR, ne_eq, Nat.reduceEqDiff, not_false_eq_true, Int.reduceEq, ↓reduceIte]); refine ⟨by omega, ?_⟩; ((conv => whnf); (repeat' (first | (refine ⟨fun _ => ?_, fun _ => ?_⟩ <;> first | (exfalso; omega) | (conv => whnf)) | (refine ⟨by omega, ?_⟩; conv => whnf) | (intro _; conv => whnf)))))); (try simp only [setR_same, setR_nk, upS_setR, cpS_setR, setR_setR, ne_eq, Nat.reduceEqDiff, not_false_eq_true, Int.reduceEq, ↓reduceIte]))
          obtain ⟨n1, n2⟩ := hnone (by omega)
          refine hr1 _ _ (if_pos ⟨q1, c1, q2, by omega, by omega, n1⟩) _ ?_ (by rw [setR_nk (by decide), i5]) (fu.tr offM.drf)
          rw [n2, setR_same, vm_pushA (f := σ 30 0) (p := σ 30 0 0) (t := (numF tl tx 3 (-1) q).1) (u := (numF tl tx 3 (-1) ((numF tl tx 3 (-1) q).2 + 1)).1) hw (by omega) (fun j => ?_), strip_insA]
          rw [g30]
          ((repeat' split) <;> first | rfl | (exfalso; omega) | (congr 1; omega) | omega)
        · ((repeat ((try simp only [setR_same, setR_nk, upS_setR, cpS_setR, setR_setR, ne_eq, Nat.reduceEqDiff, not_false_eq_true, Int.reduceEq, ↓reduceIte]); refine ⟨by omega, ?_⟩; ((conv => whnf); (repeat' (first | (refine ⟨fun _ => ?_, fun _ => ?_⟩ <;> first | (exfalso; omega) | (conv => whnf)) | (refine ⟨by omega, ?_⟩; conv => whnf) | (intro _; conv => whnf)))))); (try simp only [setR_same, setR_nk, upS_setR, cpS_setR, setR_setR, ne_eq, Nat.reduceEqDiff, not_false_eq_true, Int.reduceEq, ↓reduceIte]))
          obtain ⟨n1, n2⟩ := hnone (by omega)
          refine hr1 _ _ (if_pos ⟨q1, c1, q2, by omega, by omega, n1⟩) _ ?_ (by rw [setR_nk (by decide), i5]) (fu.tr offM.drf)
          rw [n2, setR_same, vm_pushA (f := σ 30 0) (p := σ 30 0 0) (t := (numF tl tx 3 (-1) q).1) (u := (numF tl tx 3 (-1) ((numF tl tx 3 (-1) q).2 + 1)).1) hw (by omega) (fun j => ?_), strip_insA]
          rw [g30]
          ((repeat' split) <;> first | rfl | (exfalso; omega) | (congr 1; omega) | omega)
        · exact hr0 (if_neg (fun e => hlast (by omega) (by omega) e.2.2.2.2.2)) υ fu
      · rw [if_neg q2]
        ((conv => whnf); (repeat' (first | (refine ⟨fun _ => ?_, fun _ => ?_⟩ <;> first | (exfalso; omega) | (conv => whnf)) | (refine ⟨by omega, ?_⟩; conv => whnf) | (intro _; conv => whnf))))
        exact hr0 (if_neg (fun e => q2 e.2.2.1)) υ fu
    · rw [if_neg q1]
      ((conv => whnf); (repeat' (first | (refine ⟨fun _ => ?_, fun _ => ?_⟩ <;> first | (exfalso; omega) | (conv => whnf)) | (refine ⟨by omega, ?_⟩; conv => whnf) | (intro _; conv => whnf))))
      exact hr0 (if_neg (fun e => q1 e.1)) υ fu
  · ((conv => whnf); (repeat' (first | (refine ⟨fun _ => ?_, fun _ => ?_⟩ <;> first | (exfalso; omega) | (conv => whnf)) | (refine ⟨by omega, ?_⟩; conv => whnf) | (intro _; conv => whnf))))
    have b2 := numF_b (tl := tl) (tx := tx) 3 (-1) (numF tl tx 3 (-1) q).2 (by omega) (by omega) (by omega)
    have bt2 := numF_t (tl := tl) (tx := tx) (numF tl tx 3 (-1) q).2
    refine t_X5_number (by omega) (by omega) (by omega) (fo.txt ht) f5 (by omega) ?_
    obtain ⟨ρ, eρ, h30, ho, h5⟩ := am_f τ (numF tl tx 3 (-1) (numF tl tx 3 (-1) q).2).2
    rw [eρ]
    by_cases q1 : 0 ≤ (numF tl tx 3 (-1) q).1 ∧ (numF tl tx 3 (-1) q).1 ≤ 500
    · rw [if_pos q1]
      ((conv => whnf); (repeat' (first | (refine ⟨fun _ => ?_, fun _ => ?_⟩ <;> first | (exfalso; omega) | (conv => whnf)) | (refine ⟨by omega, ?_⟩; conv => whnf) | (intro _; conv => whnf))))
      exact hr0 (if_neg (fun e => c1 e.2.1)) ρ (fo.tr ho)
    · rw [if_neg q1]
      ((conv => whnf); (repeat' (first | (refine ⟨fun _ => ?_, fun _ => ?_⟩ <;> first | (exfalso; omega) | (conv => whnf)) | (refine ⟨by omega, ?_⟩; conv => whnf) | (intro _; conv => whnf))))
      exact hr0 (if_neg (fun e => q1 e.1)) ρ (fo.tr ho)
