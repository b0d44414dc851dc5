/-! THE TEXT: one reader for the class and for the model -/
def strip (K : KV) : KV := fun q => match q with
  | 6 => fun _ => 0
  | q => K q
theorem strip_ins (K : KV) (i t k m : Int) : strip (insK K i t k m) = insK (strip K) i t k m := by
  funext q
  rcases q with _ | _ | _ | _ | _ | _ | _ | _ | q <;> rfl
theorem strip_insA (K : KV) (x p a u : Int) : strip (insAK K x p a u) = insAK (strip K) x p a u := by
  funext q
  rcases q with _ | _ | _ | _ | _ | _ | _ | _ | q <;> rfl
theorem strip_set2 (K : KV) (i v : Int) : strip (setLK K i 2 v) = setLK (strip K) i 2 v := by
  funext q
  rcases q with _ | _ | _ | _ | _ | _ | _ | _ | q
  all_goals first | rfl | (show setLK K i 2 v (q + 8) = setLK (strip K) i 2 v (q + 8); unfold setLK; rw [if_neg (by omega), if_neg (by omega)]; rfl)
def emK : KV := mkV 0 0 (fun _ => 0) (fun _ => 0) (fun _ => 0) (fun _ => 0) (fun _ => 0) (fun _ => 0) (fun _ => 0)
theorem emK_wf : WFK emK := by
  refine ⟨⟨by decide, by decide⟩, ⟨by decide, by decide⟩, fun j j0 j1 => ?_, fun j j0 j1 => ?_, fun i j i0 i1 j1 => ?_, fun j j0 j1 => ?_⟩
  · exact absurd j1 (show ¬ j < 0 by omega)
  · exact absurd j1 (show ¬ j < 0 by omega)
  · exact absurd j1 (show ¬ j < 0 by omega)
  · show 0 ≤ mask 4 (fun _ => 0) j ∧ mask 4 (fun _ => 0) j ≤ 50
    unfold mask
    split <;> simp
def sg (tl : Int) (tx : Int → Int) (p : Int) : Int := if p < tl then tx p else -1
def wdB (tl : Int) (tx : Int → Int) : List Int → Int → Bool
  | [], _ => true
  | w :: ws, p => decide (sg tl tx p = w) && wdB tl tx ws (p + 1)
def numF (tl : Int) (tx : Int → Int) : Nat → Int → Int → Int × Int
  | 0, v, p => (v, p)
  | n + 1, v, p => if 48 ≤ sg tl tx p ∧ sg tl tx p ≤ 57 then numF tl tx n ((if v < 0 then 0 else 10 * v) + sg tl tx p - 48) (p + 1) else (v, p)
def layF (tl : Int) (tx : Int → Int) (k q : Int) (D : KV) : Option (KV × Int) :=
  if (1 ≤ (numF tl tx 3 (-1) q).1 ∧ (numF tl tx 3 (-1) q).1 ≤ 99) ∧ D 7 0 < 50 ∧ sg tl tx (numF tl tx 3 (-1) q).2 = 59 then some (insK D (D 7 0) (numF tl tx 3 (-1) q).1 k 0, (numF tl tx 3 (-1) q).2 + 1) else none
def gapF (tl : Int) (tx : Int → Int) (q : Int) (D : KV) : Option (KV × Int) :=
  if (0 ≤ (numF tl tx 3 (-1) q).1 ∧ (numF tl tx 3 (-1) q).1 ≤ 20) ∧ D 7 0 ≠ 0 ∧ sg tl tx (numF tl tx 3 (-1) q).2 = 59 then some (setLK D (D 7 0 - 1) 2 (numF tl tx 3 (-1) q).1, (numF tl tx 3 (-1) q).2 + 1) else none
def ashG (tl : Int) (tx : Int → Int) (r s : Int × Int) (D : KV) : Option (KV × Int) :=
  if (0 ≤ r.1 ∧ r.1 ≤ 500) ∧ sg tl tx r.2 = 32 ∧ (0 ≤ s.1 ∧ s.1 ≤ 9) ∧ sg tl tx s.2 = 59 ∧ D 7 0 ≠ 0 ∧ D 7 1 < 6 ∧ axK D (D 7 0) = -1 then some (insAK D (nxK D (D 7 0)) (D 7 0) r.1 s.1, s.2 + 1) else none
def ashF (tl : Int) (tx : Int → Int) (q : Int) (D : KV) : Option (KV × Int) := ashG tl tx (numF tl tx 3 (-1) q) (numF tl tx 3 (-1) ((numF tl tx 3 (-1) q).2 + 1)) D
def cmdF (tl : Int) (tx : Int → Int) (p : Int) (D : KV) : Option (KV × Int) :=
  if wdB tl tx (txtL 0) p = true then layF tl tx 0 (p + 6) D
  else if wdB tl tx (txtL 1) p = true then layF tl tx 1 (p + 6) D
  else if wdB tl tx (txtL 2) p = true then layF tl tx 2 (p + 6) D
  else if wdB tl tx (txtL 3) p = true then gapF tl tx (p + 4) D
  else if wdB tl tx (txtL 4) p = true then ashF tl tx (p + 4) D else none
def parF (tl : Int) (tx : Int → Int) : Nat → Int → KV → Int × KV
  | 0, _, D => (-4, D)
  | n + 1, p, D => if p < tl then (match cmdF tl tx p D with
    | none => (p, D)
    | some (D', p') => parF tl tx n p' D') else (-4, D)
theorem numF_b {tl : Int} {tx : Int → Int} : ∀ (n : Nat) (v p : Int), 0 ≤ p → p ≤ tl → -1 ≤ v → p ≤ (numF tl tx n v p).2 ∧ (numF tl tx n v p).2 ≤ tl ∧ -1 ≤ (numF tl tx n v p).1
  | 0, v, p, h0, h1, hv => ⟨Int.le_refl p, h1, hv⟩
  | n + 1, v, p, h0, h1, hv => by
    unfold numF
    by_cases q : 48 ≤ sg tl tx p ∧ sg tl tx p ≤ 57
    · rw [if_pos q]
      have hp : p < tl := by
        by_cases e : p < tl
        · exact e
        · have : sg tl tx p = -1 := if_neg e
          omega
      have ih := numF_b (tl := tl) (tx := tx) n ((if v < 0 then 0 else 10 * v) + sg tl tx p - 48) (p + 1) (by omega) (by omega) (by split <;> omega)
      exact ⟨by omega, ih.2⟩
    · rw [if_neg q]
      exact ⟨Int.le_refl p, h1, hv⟩
theorem numF_t {tl : Int} {tx : Int → Int} (p : Int) : (numF tl tx 3 (-1) p).1 ≤ 999 := by
  simp only [numF]
  (repeat' split) <;> simp only [] <;> omega
theorem sg_in {tl : Int} {tx : Int → Int} {p c : Int} (h : sg tl tx p = c) (hc : 0 ≤ c) : p < tl := by
  by_cases e : p < tl
  · exact e
  · have : sg tl tx p = -1 := if_neg e
    omega
theorem wdB_in {tl : Int} {tx : Int → Int} : ∀ (ws : List Int) (p : Int), p ≤ tl → (∀ w ∈ ws, 0 ≤ w) → wdB tl tx ws p = true → p + (ws.length : Int) ≤ tl
  | [], p, hp, _, _ => by
    simp only [List.length_nil]
    omega
  | w :: ws, p, hp, hw, h => by
    rw [wdB, Bool.and_eq_true, decide_eq_true_eq] at h
    have a := sg_in h.1 (hw w (List.mem_cons_self ..))
    have b := wdB_in ws (p + 1) (by omega) (fun x hx => hw x (List.mem_cons_of_mem _ hx)) h.2
    rw [List.length_cons]
    omega
theorem txt_fc : ∀ n : Nat, n < 5 → (∀ w ∈ txtL (n : Int), 0 ≤ w) ∧ (txtL (n : Int)).length ≤ 6 := by decide
theorem txt_gd : ∀ n : Nat, n < 5 → ∀ i : Nat, i < 6 → 0 ≤ (txtL (n : Int)).getD i 0 ∧ (txtL (n : Int)).getD i 0 ≤ 200 := by decide
theorem wdB_drop {tl : Int} {tx : Int → Int} {ws : List Int} {i : Int} {p : Int} (h0 : 0 ≤ i) (h1 : i < (ws.length : Int)) : wdB tl tx (ws.drop i.toNat) (p + i) = (decide (sg tl tx (p + i) = ws.getD i.toNat 0) && wdB tl tx (ws.drop (i + 1).toNat) (p + (i + 1))) := by
  have hi : i.toNat < ws.length := by omega
  rw [List.drop_eq_getElem_cons hi, wdB, show (i + 1).toNat = i.toNat + 1 by omega, show p + (i + 1) = p + i + 1 by omega, List.getD_eq_getElem?_getD, List.getElem?_eq_getElem hi]
  rfl
theorem t_X3_skipWord {d : Nat} (hd : 1 ≤ d) {σ : Sto} {Q : Post} {tl : Int} {tx : Int → Int} {p n : Int} (hn : 0 ≤ n ∧ n < 5) (ht : TxtR σ tl tx) (hp : σ 2 0 3 = p) (h0 : 0 ≤ p ∧ p ≤ tl) (hy : wdB tl tx (txtL n) p = true → Q (some (.inl 1)) (upS σ 2 0 3 (p + ((txtL n).length : Int)))) (hx : wdB tl tx (txtL n) p = false → Q (some (.inl 0)) σ) : WPd d m_X3_skipWord [.inr (2, 0), .inr (40, n)] σ Q := by
  obtain ⟨d, rfl⟩ : ∃ k, d = k + 1 := ⟨d - 1, by omega⟩
  intro P hP
  obtain ⟨t1, t2, t3⟩ := ht
  obtain ⟨f1, f2⟩ := txt_fc n.toNat (by omega)
  rw [show ((n.toNat : Nat) : Int) = n by omega] at f1 f2
  have L : ∀ (m : Nat) (i : Int), m = (((txtL n).length : Int) - i).toNat → 0 ≤ i → i ≤ ((txtL n).length : Int) → p + ((txtL n).length : Int) ≤ tl → wdB tl tx (txtL n) p = wdB tl tx ((txtL n).drop i.toNat) (p + i) → P 20 [.inr (2, 0), .inr (40, n), .inl i] [] σ := by
    intro m
    induction m with
    | zero =>
      intro i hm0 i0 i1 hl he
      have hT : wdB tl tx (txtL n) p = true := by
        rw [he, List.drop_of_length_le (by omega)]
        rfl
      (refine go (t := tb_X3_skipWord) (WPd_mono d) hP 60 [20] ?_; (conv => whnf); (repeat' (first | (refine ⟨fun _ => ?_, fun _ => ?_⟩ <;> first | (exfalso; omega) | (conv => whnf)) | (refine ⟨by omega, ?_⟩; conv => whnf) | (intro _; conv => whnf))))
      rw [hp]
      exact hy hT
    | succ m ih =>
      intro i hm0 i0 i1 hl he
      rw [wdB_drop i0 (by omega)] at he
      obtain ⟨e5, e6⟩ := t3 (p + i) (by omega) (by omega)
      have es : sg tl tx (p + i) = tx (p + i) := if_pos (by omega)
      rw [es, ← e5] at he
      (refine go (t := tb_X3_skipWord) (WPd_mono d) hP 60 [20] ?_; (conv => whnf); (repeat' (first | (refine ⟨fun _ => ?_, fun _ => ?_⟩ <;> first | (exfalso; omega) | (conv => whnf)) | (refine ⟨by omega, ?_⟩; conv => whnf) | (intro _; conv => whnf))))
      have g := txt_gd n.toNat (by omega) i.toNat (by omega)
      rw [show ((n.toNat : Nat) : Int) = n by omega] at g
      rw [hp]
      ((conv => whnf); (repeat' (first | (refine ⟨fun _ => ?_, fun _ => ?_⟩ <;> first | (exfalso; omega) | (conv => whnf)) | (refine ⟨by omega, ?_⟩; conv => whnf) | (intro _; conv => whnf))))
      · refine ih (i + 1) (by omega) (by omega) (by omega) hl ?_
        rw [he, decide_eq_true (by assumption), Bool.true_and]
      · exact hx (by rw [he, decide_eq_false (by assumption), Bool.false_and])
  (refine go (t := tb_X3_skipWord) (WPd_mono d) hP 60 [20] ?_; (conv => whnf); (repeat' (first | (refine ⟨fun _ => ?_, fun _ => ?_⟩ <;> first | (exfalso; omega) | (conv => whnf)) | (refine ⟨by omega, ?_⟩; conv => whnf) | (intro _; conv => whnf))))
  · exact L _ 0 rfl (by omega) (by omega) (by omega) (by rw [Int.add_zero]; rfl)
  · refine hx ?_
    cases e : wdB tl tx (txtL n) p
    · rfl
    · have := wdB_in (txtL n) p h0.2 f1 e
      omega
/-- all else stays -/
def offS (σ σ' : Sto) : Prop := (∀ k i, ¬ (16 ≤ k ∧ k ≤ 23 ∧ i = 1) → k ≠ 2 → σ' k i = σ k i) ∧ ∀ j, j ≠ 3 → σ' 2 0 j = σ 2 0 j
theorem offS.rf {σ : Sto} : offS σ σ := ⟨fun _ _ _ _ => rfl, fun _ _ => rfl⟩
theorem offS.tr {σ σ' σ'' : Sto} (h1 : offS σ σ') (h2 : offS σ' σ'') : offS σ σ'' := ⟨fun k i a b => (h2.1 k i a b).trans (h1.1 k i a b), fun j hj => (h2.2 j hj).trans (h1.2 j hj)⟩
theorem offS.at {σ : Sto} {v : Int} : offS σ (upS σ 2 0 3 v) := ⟨fun k i _ b => up_k b, fun j hj => up_j hj⟩
theorem offS.core {σ σ' : Sto} (h : offC 1 σ σ') : offS σ σ' := ⟨fun k i a _ => h k i a, fun j _ => by rw [h 2 0 (by omega)]⟩
theorem offS.txt {σ σ' : Sto} {tl : Int} {tx : Int → Int} (h : offS σ σ') (ht : TxtR σ tl tx) : TxtR σ' tl tx := by
  obtain ⟨t1, t2, t3⟩ := ht
  exact ⟨by rw [h.2 2 (by omega)]; exact t1, t2, fun j j0 j1 => by rw [h.1 5 0 (by omega) (by omega)]; exact t3 j j0 j1⟩
theorem up_up {σ : Sto} {k : Nat} {i j v w : Int} : upS (upS σ k i j v) k i j w = upS σ k i j w := by
  rw [upS_setR, upS_setR, upS_setR, setR_setR, setR_same]
  refine setR_cg fun x => ?_
  ((repeat' split) <;> first | rfl | (exfalso; omega) | (congr 1; omega) | omega)
theorem up_id {σ : Sto} {k : Nat} {i j v : Int} (h : σ k i j = v) : upS σ k i j v = σ := by
  funext k' i' j'
  unfold upS
  split
  · rename_i q
    rw [q.1, q.2.1, q.2.2, h]
  · rfl
theorem t_X3_readNumber {d : Nat} (hd : 2 ≤ d) {σ : Sto} {Q : Post} {tl : Int} {tx : Int → Int} {p c : Int} (hc : 0 ≤ c ∧ c ≤ 200) (ht : TxtR σ tl tx) (hp : σ 2 0 3 = p) (h0 : 0 ≤ p ∧ p ≤ tl) (hy : 0 ≤ (numF tl tx 3 (-1) p).1 → sg tl tx (numF tl tx 3 (-1) p).2 = c → Q (some (.inl (numF tl tx 3 (-1) p).1)) (upS σ 2 0 3 ((numF tl tx 3 (-1) p).2 + 1))) (hx : ¬ (0 ≤ (numF tl tx 3 (-1) p).1 ∧ sg tl tx (numF tl tx 3 (-1) p).2 = c) → ∀ v, Q (some (.inl (-1))) (upS σ 2 0 3 v)) : WPd d m_X3_readNumber [.inr (2, 0), .inl c] σ Q := by
  obtain ⟨d, rfl⟩ : ∃ k, d = k + 1 := ⟨d - 1, by omega⟩
  intro P hP
  obtain ⟨t1, t2, t3⟩ := ht
  have E : ∀ (x w v q : Int) (τ : Sto), τ = upS σ 2 0 3 q → τ 2 0 3 = q → τ 2 0 2 = tl → (∀ j, 0 ≤ j → j < tl → τ 5 0 j = tx j) → (x = 0 ∧ w = -1 ∨ 0 < x ∧ w = v ∧ 0 ≤ v) → x ≤ 3 → 0 ≤ q → q ≤ tl → numF tl tx 3 (-1) p = (w, q) → P 73 [.inr (2, 0), .inl c, .inl v, .inl x] [] τ := by
    intro x w v q τ hτ s3 s2 s5 hm x3 q0 q1 he
    have d1 : (numF tl tx 3 (-1) p).1 = w := by rw [he]
    have d2 : (numF tl tx 3 (-1) p).2 = q := by rw [he]
    have ds : q < tl → sg tl tx q = τ 5 0 q ∧ (32 ≤ τ 5 0 q ∧ τ 5 0 q ≤ 126) := fun h => by
      rw [s5 q q0 h]
      exact ⟨if_pos h, (t3 q q0 h).2⟩
    have dn : ¬ q < tl → sg tl tx q = -1 := fun h => if_neg h
    rw [d1, d2] at hy hx
    have s4 : τ 5 0 (τ 2 0 3) = τ 5 0 q := by rw [s3]
    (refine go (t := tb_X3_readNumber) (WPd_mono d) hP 60 [4, 73] ?_; (conv => whnf); (repeat' (first | (refine ⟨fun _ => ?_, fun _ => ?_⟩ <;> first | (exfalso; omega) | (conv => whnf)) | (refine ⟨by omega, ?_⟩; conv => whnf) | (intro _; conv => whnf))))
    · rw [hτ]
      exact hx (fun e => by omega) q
    · rw [hτ]
      exact hx (fun e => by have := dn (by omega); omega) q
    · have g := ds (by omega)
      have ew : w = v := by omega
      rw [s3, hτ, up_up, ← ew]
      exact hy (by omega) (by omega)
    · have g := ds (by omega)
      rw [hτ]
      exact hx (fun e => by omega) q
  have L : ∀ (m : Nat) (x w v q : Int) (τ : Sto), m = (3 - x).toNat → τ = upS σ 2 0 3 q → τ 2 0 3 = q → τ 2 0 2 = tl → (∀ j, 0 ≤ j → j < tl → τ 5 0 j = tx j) → (x = 0 ∧ w = -1 ∧ v = 0 ∨ 0 < x ∧ w = v ∧ 0 ≤ v) → x ≤ 3 → 0 ≤ q → q ≤ tl → numF tl tx 3 (-1) p = numF tl tx m w q → P 4 [.inr (2, 0), .inl c, .inl v, .inl x] [] τ := by
    intro m
    induction m with
    | zero =>
      intro x w v q τ hm0 hτ s3 s2 s5 hm x3 q0 q1 he
      (refine go (t := tb_X3_readNumber) (WPd_mono d) hP 60 [4, 73] ?_; (conv => whnf); (repeat' (first | (refine ⟨fun _ => ?_, fun _ => ?_⟩ <;> first | (exfalso; omega) | (conv => whnf)) | (refine ⟨by omega, ?_⟩; conv => whnf) | (intro _; conv => whnf))))
      exact E x w v q τ hτ s3 s2 s5 (by omega) x3 q0 q1 he
    | succ m ih =>
      intro x w v q τ hm0 hτ s3 s2 s5 hm x3 q0 q1 he
      have ds : q < tl → sg tl tx q = τ 5 0 q ∧ (32 ≤ τ 5 0 q ∧ τ 5 0 q ≤ 126) := fun h => by
        rw [s5 q q0 h]
        exact ⟨if_pos h, (t3 q q0 h).2⟩
      have dn : ¬ q < tl → sg tl tx q = -1 := fun h => if_neg h
      have s4 : τ 5 0 (τ 2 0 3) = τ 5 0 q := by rw [s3]
      (refine go (t := tb_X3_readNumber) (WPd_mono d) hP 60 [4, 73] ?_; (conv => whnf); (repeat' (first | (refine ⟨fun _ => ?_, fun _ => ?_⟩ <;> first | (exfalso; omega) | (conv => whnf)) | (refine ⟨by omega, ?_⟩; conv => whnf) | (intro _; conv => whnf))))
      · exact E x w v q τ hτ s3 s2 s5 (by omega) x3 q0 q1 (by rw [he, numF, if_neg (by have := dn (by omega); omega)])
      · have g := ds (by omega)
        refine t_X4_isWithin (by omega) (by omega) (by omega) (by omega) (fun r => ?_) (fun r => ?_)
        · ((conv => whnf); (repeat' (first | (refine ⟨fun _ => ?_, fun _ => ?_⟩ <;> first | (exfalso; omega) | (conv => whnf)) | (refine ⟨by omega, ?_⟩; conv => whnf) | (intro _; conv => whnf))))
          refine ih (x + 1) (v * 10 + (τ 5 0 (τ 2 0 3) - 48)) _ (q + 1) _ (by omega) (by rw [s3, hτ, up_up]) (by rw [up_hit, s3]) (by rw [up_j (by decide)]; exact s2) (fun j j0 j1 => by rw [up_k (by decide)]; exact s5 j j0 j1) (by omega) (by omega) (by omega) (by omega) ?_
          rw [he, numF, if_pos (by omega)]
          congr 1
          split <;> omega
        · ((conv => whnf); (repeat' (first | (refine ⟨fun _ => ?_, fun _ => ?_⟩ <;> first | (exfalso; omega) | (conv => whnf)) | (refine ⟨by omega, ?_⟩; conv => whnf) | (intro _; conv => whnf))))
          exact E x w v q τ hτ s3 s2 s5 (by omega) x3 q0 q1 (by rw [he, numF, if_neg (by omega)])
  (refine go (t := tb_X3_readNumber) (WPd_mono d) hP 60 [4, 73] ?_; (conv => whnf); (repeat' (first | (refine ⟨fun _ => ?_, fun _ => ?_⟩ <;> first | (exfalso; omega) | (conv => whnf)) | (refine ⟨by omega, ?_⟩; conv => whnf) | (intro _; conv => whnf))))
  exact L 3 0 (-1) 0 p σ rfl (up_id hp).symm hp t1 (fun j j0 j1 => (t3 j j0 j1).1) (by omega) (by omega) h0.1 h0.2 rfl
